section
-- ===== PART A: goes FIRST, ahead of the names: the tables' words, and 'selects' of the private methods out of them =====
/-- a private method of a class that the tables say can be made, by its rows of tables_1 -/
def lw_okq (q : MethodName × Nat) : Prop := (q.1.cls ≠ "java/lang/invoke/MethodHandle" ∧ q.1.cls ≠ "java/lang/invoke/VarHandle") ∧ Cond.instantiable q.1.cls q.2 ∈ tables_1 ∧ Cond.privateMethod q.1 ∈ tables_1 ∧ Cond.instanceMethod q.1 ∈ tables_1
theorem lw_p0 : lw_okq (⟨"PhraseMoves", "textHasChanged", "()V"⟩, 3) := ⟨⟨by decide +kernel, by decide +kernel⟩, List.mem_of_getElem? (i := 10) (by decide +kernel), List.mem_of_getElem? (i := 126) (by decide +kernel), List.mem_of_getElem? (i := 127) (by decide +kernel)⟩
theorem lw_p1 : lw_okq (⟨"PhraseMoves$AskList", "workOut", "(I[I)V"⟩, 7) := ⟨⟨by decide +kernel, by decide +kernel⟩, List.mem_of_getElem? (i := 18) (by decide +kernel), List.mem_of_getElem? (i := 185) (by decide +kernel), List.mem_of_getElem? (i := 186) (by decide +kernel)⟩
theorem lw_p2 : lw_okq (⟨"PhraseMoves$Row", "addBehindOne", "(IILPhraseMoves$Row;I)V"⟩, 1) := ⟨⟨by decide +kernel, by decide +kernel⟩, List.mem_of_getElem? (i := 25) (by decide +kernel), List.mem_of_getElem? (i := 221) (by decide +kernel), List.mem_of_getElem? (i := 222) (by decide +kernel)⟩
theorem lw_p3 : lw_okq (⟨"PhraseMoves$Row", "addBothOfOne", "(IILPhraseMoves$Row;I)V"⟩, 1) := ⟨⟨by decide +kernel, by decide +kernel⟩, List.mem_of_getElem? (i := 25) (by decide +kernel), List.mem_of_getElem? (i := 229) (by decide +kernel), List.mem_of_getElem? (i := 230) (by decide +kernel)⟩
theorem lw_p4 : lw_okq (⟨"PhraseMoves$Row", "hasWithin", "(II)Z"⟩, 1) := ⟨⟨by decide +kernel, by decide +kernel⟩, List.mem_of_getElem? (i := 25) (by decide +kernel), List.mem_of_getElem? (i := 240) (by decide +kernel), List.mem_of_getElem? (i := 241) (by decide +kernel)⟩
theorem lw_p5 : lw_okq (⟨"PhraseMoves$Row", "hasAround", "(II)Z"⟩, 1) := ⟨⟨by decide +kernel, by decide +kernel⟩, List.mem_of_getElem? (i := 25) (by decide +kernel), List.mem_of_getElem? (i := 248) (by decide +kernel), List.mem_of_getElem? (i := 249) (by decide +kernel)⟩
theorem lw_p6 : lw_okq (⟨"PhraseMoves$Row", "hasNear", "(III)Z"⟩, 1) := ⟨⟨by decide +kernel, by decide +kernel⟩, List.mem_of_getElem? (i := 25) (by decide +kernel), List.mem_of_getElem? (i := 256) (by decide +kernel), List.mem_of_getElem? (i := 257) (by decide +kernel)⟩
theorem lw_p7 : lw_okq (⟨"PhraseMoves$Phrase", "findPlaces", "([I)V"⟩, 12) := ⟨⟨by decide +kernel, by decide +kernel⟩, List.mem_of_getElem? (i := 61) (by decide +kernel), List.mem_of_getElem? (i := 327) (by decide +kernel), List.mem_of_getElem? (i := 328) (by decide +kernel)⟩
theorem lw_p8 : lw_okq (⟨"PhraseMoves$Phrase", "searchMoved", "(IIII)V"⟩, 12) := ⟨⟨by decide +kernel, by decide +kernel⟩, List.mem_of_getElem? (i := 61) (by decide +kernel), List.mem_of_getElem? (i := 331) (by decide +kernel), List.mem_of_getElem? (i := 332) (by decide +kernel)⟩
theorem lw_p9 : lw_okq (⟨"PhraseMoves$Phrase", "noteChoice", "(I)V"⟩, 12) := ⟨⟨by decide +kernel, by decide +kernel⟩, List.mem_of_getElem? (i := 61) (by decide +kernel), List.mem_of_getElem? (i := 335) (by decide +kernel), List.mem_of_getElem? (i := 336) (by decide +kernel)⟩
theorem lw_p10 : lw_okq (⟨"PhraseMoves$Phrase", "isFree", "(II)Z"⟩, 12) := ⟨⟨by decide +kernel, by decide +kernel⟩, List.mem_of_getElem? (i := 61) (by decide +kernel), List.mem_of_getElem? (i := 347) (by decide +kernel), List.mem_of_getElem? (i := 348) (by decide +kernel)⟩
theorem lw_p11 : lw_okq (⟨"PhraseMoves$Phrase", "searchShortest", "(III)V"⟩, 12) := ⟨⟨by decide +kernel, by decide +kernel⟩, List.mem_of_getElem? (i := 61) (by decide +kernel), List.mem_of_getElem? (i := 351) (by decide +kernel), List.mem_of_getElem? (i := 352) (by decide +kernel)⟩
theorem lw_p12 : lw_okq (⟨"PhraseMoves$Phrase", "isShorter", "(II)Z"⟩, 12) := ⟨⟨by decide +kernel, by decide +kernel⟩, List.mem_of_getElem? (i := 61) (by decide +kernel), List.mem_of_getElem? (i := 355) (by decide +kernel), List.mem_of_getElem? (i := 356) (by decide +kernel)⟩
theorem lw_p13 : lw_okq (⟨"PhraseMovesModel", "isAsk", "(I)Z"⟩, 19) := ⟨⟨by decide +kernel, by decide +kernel⟩, List.mem_of_getElem? (i := 418) (by decide +kernel), List.mem_of_getElem? (i := 500) (by decide +kernel), List.mem_of_getElem? (i := 501) (by decide +kernel)⟩
theorem lw_p14 : lw_okq (⟨"PhraseMovesModel", "findAll", "(I)V"⟩, 19) := ⟨⟨by decide +kernel, by decide +kernel⟩, List.mem_of_getElem? (i := 418) (by decide +kernel), List.mem_of_getElem? (i := 512) (by decide +kernel), List.mem_of_getElem? (i := 513) (by decide +kernel)⟩
theorem lw_p15 : lw_okq (⟨"PhraseMovesModel", "find", "(I)V"⟩, 19) := ⟨⟨by decide +kernel, by decide +kernel⟩, List.mem_of_getElem? (i := 418) (by decide +kernel), List.mem_of_getElem? (i := 516) (by decide +kernel), List.mem_of_getElem? (i := 517) (by decide +kernel)⟩
def lw_privs_1 : List (MethodName × Nat) := [(⟨"PhraseMoves", "textHasChanged", "()V"⟩, 3), (⟨"PhraseMoves$AskList", "workOut", "(I[I)V"⟩, 7), (⟨"PhraseMoves$Row", "addBehindOne", "(IILPhraseMoves$Row;I)V"⟩, 1), (⟨"PhraseMoves$Row", "addBothOfOne", "(IILPhraseMoves$Row;I)V"⟩, 1), (⟨"PhraseMoves$Row", "hasWithin", "(II)Z"⟩, 1), (⟨"PhraseMoves$Row", "hasAround", "(II)Z"⟩, 1), (⟨"PhraseMoves$Row", "hasNear", "(III)Z"⟩, 1), (⟨"PhraseMoves$Phrase", "findPlaces", "([I)V"⟩, 12), (⟨"PhraseMoves$Phrase", "searchMoved", "(IIII)V"⟩, 12), (⟨"PhraseMoves$Phrase", "noteChoice", "(I)V"⟩, 12), (⟨"PhraseMoves$Phrase", "isFree", "(II)Z"⟩, 12), (⟨"PhraseMoves$Phrase", "searchShortest", "(III)V"⟩, 12), (⟨"PhraseMoves$Phrase", "isShorter", "(II)Z"⟩, 12), (⟨"PhraseMovesModel", "isAsk", "(I)Z"⟩, 19), (⟨"PhraseMovesModel", "findAll", "(I)V"⟩, 19), (⟨"PhraseMovesModel", "find", "(I)V"⟩, 19)]
theorem lw_r1 : ∀ q ∈ lw_privs_1, lw_okq q := List.forall_mem_cons.mpr ⟨lw_p0, List.forall_mem_cons.mpr ⟨lw_p1, List.forall_mem_cons.mpr ⟨lw_p2, List.forall_mem_cons.mpr ⟨lw_p3, List.forall_mem_cons.mpr ⟨lw_p4, List.forall_mem_cons.mpr ⟨lw_p5, List.forall_mem_cons.mpr ⟨lw_p6, List.forall_mem_cons.mpr ⟨lw_p7, List.forall_mem_cons.mpr ⟨lw_p8, List.forall_mem_cons.mpr ⟨lw_p9, List.forall_mem_cons.mpr ⟨lw_p10, List.forall_mem_cons.mpr ⟨lw_p11, List.forall_mem_cons.mpr ⟨lw_p12, List.forall_mem_cons.mpr ⟨lw_p13, List.forall_mem_cons.mpr ⟨lw_p14, List.forall_mem_cons.mpr ⟨lw_p15, fun _ h => absurd h List.not_mem_nil⟩⟩⟩⟩⟩⟩⟩⟩⟩⟩⟩⟩⟩⟩⟩⟩
theorem lw_p16 : lw_okq (⟨"PhraseMovesModel", "alone", "(III)V"⟩, 19) := ⟨⟨by decide +kernel, by decide +kernel⟩, List.mem_of_getElem? (i := 418) (by decide +kernel), List.mem_of_getElem? (i := 520) (by decide +kernel), List.mem_of_getElem? (i := 521) (by decide +kernel)⟩
theorem lw_p17 : lw_okq (⟨"PhraseMovesModel", "isFar", "(III)Z"⟩, 19) := ⟨⟨by decide +kernel, by decide +kernel⟩, List.mem_of_getElem? (i := 418) (by decide +kernel), List.mem_of_getElem? (i := 524) (by decide +kernel), List.mem_of_getElem? (i := 525) (by decide +kernel)⟩
theorem lw_p18 : lw_okq (⟨"PhraseMovesModel", "comes", "(II)V"⟩, 19) := ⟨⟨by decide +kernel, by decide +kernel⟩, List.mem_of_getElem? (i := 418) (by decide +kernel), List.mem_of_getElem? (i := 531) (by decide +kernel), List.mem_of_getElem? (i := 532) (by decide +kernel)⟩
theorem lw_p19 : lw_okq (⟨"PhraseMovesModel", "pair", "(IIIII)V"⟩, 19) := ⟨⟨by decide +kernel, by decide +kernel⟩, List.mem_of_getElem? (i := 418) (by decide +kernel), List.mem_of_getElem? (i := 535) (by decide +kernel), List.mem_of_getElem? (i := 536) (by decide +kernel)⟩
theorem lw_p20 : lw_okq (⟨"PhraseMovesModel", "nth", "(II)I"⟩, 19) := ⟨⟨by decide +kernel, by decide +kernel⟩, List.mem_of_getElem? (i := 418) (by decide +kernel), List.mem_of_getElem? (i := 543) (by decide +kernel), List.mem_of_getElem? (i := 544) (by decide +kernel)⟩
theorem lw_p21 : lw_okq (⟨"PhraseMovesModel", "know", "()V"⟩, 19) := ⟨⟨by decide +kernel, by decide +kernel⟩, List.mem_of_getElem? (i := 418) (by decide +kernel), List.mem_of_getElem? (i := 567) (by decide +kernel), List.mem_of_getElem? (i := 568) (by decide +kernel)⟩
theorem lw_p22 : lw_okq (⟨"PhraseMovesModel", "fits", "(II)Z"⟩, 19) := ⟨⟨by decide +kernel, by decide +kernel⟩, List.mem_of_getElem? (i := 418) (by decide +kernel), List.mem_of_getElem? (i := 571) (by decide +kernel), List.mem_of_getElem? (i := 572) (by decide +kernel)⟩
theorem lw_p23 : lw_okq (⟨"PhraseMovesModel", "choose", "()V"⟩, 19) := ⟨⟨by decide +kernel, by decide +kernel⟩, List.mem_of_getElem? (i := 418) (by decide +kernel), List.mem_of_getElem? (i := 575) (by decide +kernel), List.mem_of_getElem? (i := 576) (by decide +kernel)⟩
theorem lw_p24 : lw_okq (⟨"PhraseMovesModel", "moved", "()I"⟩, 19) := ⟨⟨by decide +kernel, by decide +kernel⟩, List.mem_of_getElem? (i := 418) (by decide +kernel), List.mem_of_getElem? (i := 579) (by decide +kernel), List.mem_of_getElem? (i := 580) (by decide +kernel)⟩
def lw_privs_2 : List (MethodName × Nat) := [(⟨"PhraseMovesModel", "alone", "(III)V"⟩, 19), (⟨"PhraseMovesModel", "isFar", "(III)Z"⟩, 19), (⟨"PhraseMovesModel", "comes", "(II)V"⟩, 19), (⟨"PhraseMovesModel", "pair", "(IIIII)V"⟩, 19), (⟨"PhraseMovesModel", "nth", "(II)I"⟩, 19), (⟨"PhraseMovesModel", "know", "()V"⟩, 19), (⟨"PhraseMovesModel", "fits", "(II)Z"⟩, 19), (⟨"PhraseMovesModel", "choose", "()V"⟩, 19), (⟨"PhraseMovesModel", "moved", "()I"⟩, 19)]
theorem lw_r2 : ∀ q ∈ lw_privs_2, lw_okq q := List.forall_mem_cons.mpr ⟨lw_p16, List.forall_mem_cons.mpr ⟨lw_p17, List.forall_mem_cons.mpr ⟨lw_p18, List.forall_mem_cons.mpr ⟨lw_p19, List.forall_mem_cons.mpr ⟨lw_p20, List.forall_mem_cons.mpr ⟨lw_p21, List.forall_mem_cons.mpr ⟨lw_p22, List.forall_mem_cons.mpr ⟨lw_p23, List.forall_mem_cons.mpr ⟨lw_p24, fun _ h => absurd h List.not_mem_nil⟩⟩⟩⟩⟩⟩⟩⟩⟩
def lw_privs : List (MethodName × Nat) := lw_privs_1 ++ (lw_privs_2)
def lw_tbl : List Cond := k2_sels lw_privs ++ tables_1
theorem lw_privs_ok : ∀ q ∈ lw_privs, lw_okq q := by
  show ∀ q ∈ lw_privs_1 ++ (lw_privs_2), lw_okq q
  exact List.forall_mem_append.mpr ⟨lw_r1, lw_r2⟩
end
section
def R_As : String := "PhraseMoves$AskList"
def T_As : u_T := fun k => match k with
  | 0 => ("PhraseMoves$AskList", "kinds", "[I", true)
  | 1 => ("PhraseMoves$AskList", "firsts", "[I", true)
  | 2 => ("PhraseMoves$AskList", "seconds", "[I", true)
  | 3 => ("PhraseMoves$AskList", "numbers", "[I", true)
  | 4 => ("PhraseMoves$AskList", "rows", "[LPhraseMoves$Row;", true)
  | 5 => ("PhraseMoves$AskList", "size", "I", false)
  | _ => ("PhraseMoves$AskList", "ready", "I", false)
def ty_As : Nat → FieldType := fun k => match k with
  | 0 => .array .int
  | 1 => .array .int
  | 2 => .array .int
  | 3 => .array .int
  | 4 => .array (.object "PhraseMoves$Row")
  | 5 => .int
  | _ => .int
theorem nm_As : ∀ a, a < 7 → ∀ b, b < 7 → a ≠ b → (T_As a).2.1 ≠ (T_As b).2.1 := by decide +kernel
theorem ty_As_ok : ∀ k, k < 7 → parseFieldDescriptor (T_As k).2.2.1 = some (ty_As k) := by decide +kernel
def R_Ph : String := "PhraseMoves$Phrase"
def T_Ph : u_T := fun k => match k with
  | 0 => ("PhraseMoves$Phrase", "offsets", "[I", true)
  | 1 => ("PhraseMoves$Phrase", "sets", "[I", true)
  | 2 => ("PhraseMoves$Phrase", "size", "I", false)
  | 3 => ("PhraseMoves$Phrase", "settled", "Z", false)
  | 4 => ("PhraseMoves$Phrase", "places", "[[I", true)
  | 5 => ("PhraseMoves$Phrase", "placesOf", "[I", true)
  | 6 => ("PhraseMoves$Phrase", "tried", "[I", true)
  | 7 => ("PhraseMoves$Phrase", "firstChoice", "[I", true)
  | 8 => ("PhraseMoves$Phrase", "counts", "[I", true)
  | 9 => ("PhraseMoves$Phrase", "lowestMoved", "I", false)
  | 10 => ("PhraseMoves$Phrase", "shortFrom", "I", false)
  | _ => ("PhraseMoves$Phrase", "shortTo", "I", false)
def ty_Ph : Nat → FieldType := fun k => match k with
  | 0 => .array .int
  | 1 => .array .int
  | 2 => .int
  | 3 => .boolean
  | 4 => .array (.array .int)
  | 5 => .array .int
  | 6 => .array .int
  | 7 => .array .int
  | 8 => .array .int
  | 9 => .int
  | 10 => .int
  | _ => .int
theorem nm_Ph : ∀ a, a < 12 → ∀ b, b < 12 → a ≠ b → (T_Ph a).2.1 ≠ (T_Ph b).2.1 := by decide +kernel
theorem ty_Ph_ok : ∀ k, k < 12 → parseFieldDescriptor (T_Ph k).2.2.1 = some (ty_Ph k) := by decide +kernel
def R_Ro : String := "PhraseMoves$Row"
def T_Ro : u_T := fun k => match k with
  | _ => ("PhraseMoves$Row", "ends", "[I", true)
def ty_Ro : Nat → FieldType := fun k => match k with
  | _ => .array .int
theorem nm_Ro : ∀ a, a < 1 → ∀ b, b < 1 → a ≠ b → (T_Ro a).2.1 ≠ (T_Ro b).2.1 := by decide +kernel
theorem ty_Ro_ok : ∀ k, k < 1 → parseFieldDescriptor (T_Ro k).2.2.1 = some (ty_Ro k) := by decide +kernel
def R_Pm : String := "PhraseMoves"
def T_Pm : u_T := fun k => match k with
  | 0 => ("PhraseMoves", "text", "[I", true)
  | 1 => ("PhraseMoves", "asks", "LPhraseMoves$AskList;", true)
  | _ => ("PhraseMoves", "phrase", "LPhraseMoves$Phrase;", true)
def ty_Pm : Nat → FieldType := fun k => match k with
  | 0 => .array .int
  | 1 => .object "PhraseMoves$AskList"
  | _ => .object "PhraseMoves$Phrase"
theorem nm_Pm : ∀ a, a < 3 → ∀ b, b < 3 → a ≠ b → (T_Pm a).2.1 ≠ (T_Pm b).2.1 := by decide +kernel
theorem ty_Pm_ok : ∀ k, k < 3 → parseFieldDescriptor (T_Pm k).2.2.1 = some (ty_Pm k) := by decide +kernel
def R_Mo : String := "PhraseMovesModel"
def T_Mo : u_T := fun k => match k with
  | 0 => ("PhraseMovesModel", "text", "[I", true)
  | 1 => ("PhraseMovesModel", "asks", "I", false)
  | 2 => ("PhraseMovesModel", "kinds", "[I", true)
  | 3 => ("PhraseMovesModel", "one", "[I", true)
  | 4 => ("PhraseMovesModel", "other", "[I", true)
  | 5 => ("PhraseMovesModel", "number", "[I", true)
  | 6 => ("PhraseMovesModel", "slots", "I", false)
  | 7 => ("PhraseMovesModel", "offsets", "[I", true)
  | 8 => ("PhraseMovesModel", "sets", "[I", true)
  | 9 => ("PhraseMovesModel", "known", "Z", false)
  | 10 => ("PhraseMovesModel", "ends", "[I", true)
  | 11 => ("PhraseMovesModel", "under", "[I", true)
  | 12 => ("PhraseMovesModel", "many", "[I", true)
  | 13 => ("PhraseMovesModel", "choices", "I", false)
  | 14 => ("PhraseMovesModel", "least", "I", false)
  | 15 => ("PhraseMovesModel", "first", "[I", true)
  | 16 => ("PhraseMovesModel", "shortFrom", "I", false)
  | 17 => ("PhraseMovesModel", "shortTo", "I", false)
  | _ => ("PhraseMovesModel", "places", "[I", true)
def ty_Mo : Nat → FieldType := fun k => match k with
  | 0 => .array .int
  | 1 => .int
  | 2 => .array .int
  | 3 => .array .int
  | 4 => .array .int
  | 5 => .array .int
  | 6 => .int
  | 7 => .array .int
  | 8 => .array .int
  | 9 => .boolean
  | 10 => .array .int
  | 11 => .array .int
  | 12 => .array .int
  | 13 => .int
  | 14 => .int
  | 15 => .array .int
  | 16 => .int
  | 17 => .int
  | _ => .array .int
theorem nm_Mo : ∀ a, a < 19 → ∀ b, b < 19 → a ≠ b → (T_Mo a).2.1 ≠ (T_Mo b).2.1 := by decide +kernel
theorem ty_Mo_ok : ∀ k, k < 19 → parseFieldDescriptor (T_Mo k).2.2.1 = some (ty_Mo k) := by decide +kernel
abbrev b_Pm_init : ByteArray := prog_1_method_1_code
def y_Pm_init : MethodName := ⟨R_Pm, "<init>", "()V"⟩
abbrev b_As_init : ByteArray := prog_2_method_1_code
def y_As_init : MethodName := ⟨R_As, "<init>", "()V"⟩
abbrev b_Ro_init : ByteArray := prog_4_method_1_code
def y_Ro_init : MethodName := ⟨R_Ro, "<init>", "()V"⟩
abbrev b_Ja_fill : ByteArray := prog_9_method_103_code
def y_Ja_fill : MethodName := ⟨"java/util/Arrays", "fill", "([II)V"⟩
abbrev b_Ph_init : ByteArray := prog_3_method_1_code
def y_Ph_init : MethodName := ⟨R_Ph, "<init>", "()V"⟩
abbrev b_Pm_put : ByteArray := prog_1_method_2_code
def y_Pm_put : MethodName := ⟨R_Pm, "put", "(II)I"⟩
abbrev b_Pm_isPlace : ByteArray := prog_1_method_19_code
def y_Pm_isPlace : MethodName := ⟨R_Pm, "isPlace", "(I)Z"⟩
abbrev b_Pm_isSet : ByteArray := prog_1_method_20_code
def y_Pm_isSet : MethodName := ⟨R_Pm, "isSet", "(I)Z"⟩
abbrev b_Pm_textHasChanged : ByteArray := prog_1_method_18_code
def y_Pm_textHasChanged : MethodName := ⟨R_Pm, "textHasChanged", "()V"⟩
abbrev b_As_outdate : ByteArray := prog_2_method_5_code
def y_As_outdate : MethodName := ⟨R_As, "outdate", "()V"⟩
abbrev b_Ph_outdate : ByteArray := prog_3_method_5_code
def y_Ph_outdate : MethodName := ⟨R_Ph, "outdate", "()V"⟩
abbrev b_Pm_clear : ByteArray := prog_1_method_3_code
def y_Pm_clear : MethodName := ⟨R_Pm, "clear", "()I"⟩
abbrev b_Pm_ask : ByteArray := prog_1_method_4_code
def y_Pm_ask : MethodName := ⟨R_Pm, "ask", "(IIII)I"⟩
abbrev b_Pm_isKind : ByteArray := prog_1_method_22_code
def y_Pm_isKind : MethodName := ⟨R_Pm, "isKind", "(I)Z"⟩
abbrev b_Pm_countsNumber : ByteArray := prog_1_method_26_code
def y_Pm_countsNumber : MethodName := ⟨R_Pm, "countsNumber", "(I)Z"⟩
abbrev b_Pm_isNumberOf : ByteArray := prog_1_method_23_code
def y_Pm_isNumberOf : MethodName := ⟨R_Pm, "isNumberOf", "(II)Z"⟩
abbrev b_Pm_countsFirst : ByteArray := prog_1_method_24_code
def y_Pm_countsFirst : MethodName := ⟨R_Pm, "countsFirst", "(I)Z"⟩
abbrev b_As_has : ByteArray := prog_2_method_2_code
def y_As_has : MethodName := ⟨R_As, "has", "(I)Z"⟩
abbrev b_Pm_countsSecond : ByteArray := prog_1_method_25_code
def y_Pm_countsSecond : MethodName := ⟨R_Pm, "countsSecond", "(I)Z"⟩
abbrev b_As_append : ByteArray := prog_2_method_3_code
def y_As_append : MethodName := ⟨R_As, "append", "(IIII)I"⟩
abbrev b_Pm_forget : ByteArray := prog_1_method_5_code
def y_Pm_forget : MethodName := ⟨R_Pm, "forget", "()I"⟩
abbrev b_As_dropAll : ByteArray := prog_2_method_4_code
def y_As_dropAll : MethodName := ⟨R_As, "dropAll", "()I"⟩
abbrev b_Pm_count : ByteArray := prog_1_method_6_code
def y_Pm_count : MethodName := ⟨R_Pm, "count", "(I)I"⟩
abbrev b_As_rowOf : ByteArray := prog_2_method_6_code
def y_As_rowOf : MethodName := ⟨R_As, "rowOf", "(I[I)LPhraseMoves$Row;"⟩
abbrev b_As_workOut : ByteArray := prog_2_method_7_code
def y_As_workOut : MethodName := ⟨R_As, "workOut", "(I[I)V"⟩
abbrev b_Ro_empty : ByteArray := prog_4_method_2_code
def y_Ro_empty : MethodName := ⟨R_Ro, "empty", "()V"⟩
abbrev b_Ro_addPlacesWith : ByteArray := prog_4_method_10_code
def y_Ro_addPlacesWith : MethodName := ⟨R_Ro, "addPlacesWith", "(I[I)V"⟩
abbrev b_Ro_add : ByteArray := prog_4_method_3_code
def y_Ro_add : MethodName := ⟨R_Ro, "add", "(II)V"⟩
abbrev b_Ro_addAll : ByteArray := prog_4_method_11_code
def y_Ro_addAll : MethodName := ⟨R_Ro, "addAll", "(LPhraseMoves$Row;)V"⟩
abbrev b_Ro_addGrown : ByteArray := prog_4_method_12_code
def y_Ro_addGrown : MethodName := ⟨R_Ro, "addGrown", "(LPhraseMoves$Row;I)V"⟩
abbrev b_Ro_beginsAt : ByteArray := prog_4_method_5_code
def y_Ro_beginsAt : MethodName := ⟨R_Ro, "beginsAt", "(I)Z"⟩
abbrev b_Ro_addBehind : ByteArray := prog_4_method_14_code
def y_Ro_addBehind : MethodName := ⟨R_Ro, "addBehind", "(LPhraseMoves$Row;LPhraseMoves$Row;I)V"⟩
abbrev b_Ro_addBehindOne : ByteArray := prog_4_method_15_code
def y_Ro_addBehindOne : MethodName := ⟨R_Ro, "addBehindOne", "(IILPhraseMoves$Row;I)V"⟩
abbrev b_Ro_addBoth : ByteArray := prog_4_method_16_code
def y_Ro_addBoth : MethodName := ⟨R_Ro, "addBoth", "(LPhraseMoves$Row;LPhraseMoves$Row;I)V"⟩
abbrev b_Ro_addBothOfOne : ByteArray := prog_4_method_17_code
def y_Ro_addBothOfOne : MethodName := ⟨R_Ro, "addBothOfOne", "(IILPhraseMoves$Row;I)V"⟩
abbrev b_Ro_addHolding : ByteArray := prog_4_method_18_code
def y_Ro_addHolding : MethodName := ⟨R_Ro, "addHolding", "(LPhraseMoves$Row;LPhraseMoves$Row;)V"⟩
abbrev b_Ro_hasWithin : ByteArray := prog_4_method_21_code
def y_Ro_hasWithin : MethodName := ⟨R_Ro, "hasWithin", "(II)Z"⟩
abbrev b_Ro_addIn : ByteArray := prog_4_method_19_code
def y_Ro_addIn : MethodName := ⟨R_Ro, "addIn", "(LPhraseMoves$Row;LPhraseMoves$Row;)V"⟩
abbrev b_Ro_hasAround : ByteArray := prog_4_method_22_code
def y_Ro_hasAround : MethodName := ⟨R_Ro, "hasAround", "(II)Z"⟩
abbrev b_Ro_addByNearness : ByteArray := prog_4_method_20_code
def y_Ro_addByNearness : MethodName := ⟨R_Ro, "addByNearness", "(LPhraseMoves$Row;LPhraseMoves$Row;IZ)V"⟩
abbrev b_Ro_hasNear : ByteArray := prog_4_method_23_code
def y_Ro_hasNear : MethodName := ⟨R_Ro, "hasNear", "(III)Z"⟩
abbrev b_Ro_addEndingBefore : ByteArray := prog_4_method_13_code
def y_Ro_addEndingBefore : MethodName := ⟨R_Ro, "addEndingBefore", "(LPhraseMoves$Row;I)V"⟩
abbrev b_Ro_keepLeast : ByteArray := prog_4_method_4_code
def y_Ro_keepLeast : MethodName := ⟨R_Ro, "keepLeast", "()V"⟩
abbrev b_Ro_size : ByteArray := prog_4_method_6_code
def y_Ro_size : MethodName := ⟨R_Ro, "size", "()I"⟩
abbrev b_Pm_begin : ByteArray := prog_1_method_7_code
def y_Pm_begin : MethodName := ⟨R_Pm, "begin", "(II)I"⟩
abbrev b_Ro_beginOf : ByteArray := prog_4_method_7_code
def y_Ro_beginOf : MethodName := ⟨R_Ro, "beginOf", "(I)I"⟩
abbrev b_Pm_end : ByteArray := prog_1_method_8_code
def y_Pm_end : MethodName := ⟨R_Pm, "end", "(II)I"⟩
abbrev b_Ro_endOf : ByteArray := prog_4_method_8_code
def y_Ro_endOf : MethodName := ⟨R_Ro, "endOf", "(I)I"⟩
abbrev b_Pm_covered : ByteArray := prog_1_method_9_code
def y_Pm_covered : MethodName := ⟨R_Pm, "covered", "(I)I"⟩
abbrev b_Ro_placesCovered : ByteArray := prog_4_method_9_code
def y_Ro_placesCovered : MethodName := ⟨R_Ro, "placesCovered", "()I"⟩
abbrev b_Pm_slot : ByteArray := prog_1_method_10_code
def y_Pm_slot : MethodName := ⟨R_Pm, "slot", "(II)I"⟩
abbrev b_Ph_append : ByteArray := prog_3_method_3_code
def y_Ph_append : MethodName := ⟨R_Ph, "append", "(II)I"⟩
abbrev b_Pm_unslot : ByteArray := prog_1_method_11_code
def y_Pm_unslot : MethodName := ⟨R_Pm, "unslot", "()I"⟩
abbrev b_Ph_dropAll : ByteArray := prog_3_method_4_code
def y_Ph_dropAll : MethodName := ⟨R_Ph, "dropAll", "()I"⟩
abbrev b_Pm_matches : ByteArray := prog_1_method_12_code
def y_Pm_matches : MethodName := ⟨R_Pm, "matches", "(I)I"⟩
abbrev b_Pm_isSlop : ByteArray := prog_1_method_21_code
def y_Pm_isSlop : MethodName := ⟨R_Pm, "isSlop", "(I)Z"⟩
abbrev b_Ph_settle : ByteArray := prog_3_method_14_code
def y_Ph_settle : MethodName := ⟨R_Ph, "settle", "([I)V"⟩
abbrev b_Ph_findPlaces : ByteArray := prog_3_method_15_code
def y_Ph_findPlaces : MethodName := ⟨R_Ph, "findPlaces", "([I)V"⟩
abbrev b_Ph_searchMoved : ByteArray := prog_3_method_16_code
def y_Ph_searchMoved : MethodName := ⟨R_Ph, "searchMoved", "(IIII)V"⟩
abbrev b_Ph_noteChoice : ByteArray := prog_3_method_17_code
def y_Ph_noteChoice : MethodName := ⟨R_Ph, "noteChoice", "(I)V"⟩
abbrev b_Ph_isFree : ByteArray := prog_3_method_20_code
def y_Ph_isFree : MethodName := ⟨R_Ph, "isFree", "(II)Z"⟩
abbrev b_Ph_searchShortest : ByteArray := prog_3_method_18_code
def y_Ph_searchShortest : MethodName := ⟨R_Ph, "searchShortest", "(III)V"⟩
abbrev b_Ph_isShorter : ByteArray := prog_3_method_19_code
def y_Ph_isShorter : MethodName := ⟨R_Ph, "isShorter", "(II)Z"⟩
abbrev b_Ph_choicesUpTo : ByteArray := prog_3_method_12_code
def y_Ph_choicesUpTo : MethodName := ⟨R_Ph, "choicesUpTo", "(I)I"⟩
abbrev b_Pm_weight : ByteArray := prog_1_method_13_code
def y_Pm_weight : MethodName := ⟨R_Pm, "weight", "(I)J"⟩
abbrev b_Ph_weightUpTo : ByteArray := prog_3_method_13_code
def y_Ph_weightUpTo : MethodName := ⟨R_Ph, "weightUpTo", "(I)J"⟩
abbrev b_Pm_least : ByteArray := prog_1_method_14_code
def y_Pm_least : MethodName := ⟨R_Pm, "least", "()I"⟩
abbrev b_Ph_hasChoice : ByteArray := prog_3_method_6_code
def y_Ph_hasChoice : MethodName := ⟨R_Ph, "hasChoice", "()Z"⟩
abbrev b_Ph_leastMoved : ByteArray := prog_3_method_7_code
def y_Ph_leastMoved : MethodName := ⟨R_Ph, "leastMoved", "()I"⟩
abbrev b_Pm_chosen : ByteArray := prog_1_method_15_code
def y_Pm_chosen : MethodName := ⟨R_Pm, "chosen", "(I)I"⟩
abbrev b_Ph_has : ByteArray := prog_3_method_2_code
def y_Ph_has : MethodName := ⟨R_Ph, "has", "(I)Z"⟩
abbrev b_Ph_placeInFirst : ByteArray := prog_3_method_8_code
def y_Ph_placeInFirst : MethodName := ⟨R_Ph, "placeInFirst", "(I)I"⟩
abbrev b_Pm_ties : ByteArray := prog_1_method_16_code
def y_Pm_ties : MethodName := ⟨R_Pm, "ties", "()I"⟩
abbrev b_Ph_choicesMovedBy : ByteArray := prog_3_method_11_code
def y_Ph_choicesMovedBy : MethodName := ⟨R_Ph, "choicesMovedBy", "(I)I"⟩
abbrev b_Pm_shortest : ByteArray := prog_1_method_17_code
def y_Pm_shortest : MethodName := ⟨R_Pm, "shortest", "(I)I"⟩
abbrev b_Ph_shortestBegin : ByteArray := prog_3_method_9_code
def y_Ph_shortestBegin : MethodName := ⟨R_Ph, "shortestBegin", "()I"⟩
abbrev b_Ph_shortestEnd : ByteArray := prog_3_method_10_code
def y_Ph_shortestEnd : MethodName := ⟨R_Ph, "shortestEnd", "()I"⟩
abbrev b_Mo_init : ByteArray := prog_6_method_1_code
def y_Mo_init : MethodName := ⟨R_Mo, "<init>", "()V"⟩
abbrev b_Mo_put : ByteArray := prog_6_method_4_code
def y_Mo_put : MethodName := ⟨R_Mo, "put", "(II)I"⟩
abbrev b_Mo_isPlace : ByteArray := prog_6_method_2_code
def y_Mo_isPlace : MethodName := ⟨R_Mo, "isPlace", "(I)Z"⟩
abbrev b_Mo_isSet : ByteArray := prog_6_method_3_code
def y_Mo_isSet : MethodName := ⟨R_Mo, "isSet", "(I)Z"⟩
abbrev b_Mo_clear : ByteArray := prog_6_method_5_code
def y_Mo_clear : MethodName := ⟨R_Mo, "clear", "()I"⟩
abbrev b_Mo_ask : ByteArray := prog_6_method_7_code
def y_Mo_ask : MethodName := ⟨R_Mo, "ask", "(IIII)I"⟩
abbrev b_Mo_isAsk : ByteArray := prog_6_method_6_code
def y_Mo_isAsk : MethodName := ⟨R_Mo, "isAsk", "(I)Z"⟩
abbrev b_Mo_forget : ByteArray := prog_6_method_8_code
def y_Mo_forget : MethodName := ⟨R_Mo, "forget", "()I"⟩
abbrev b_Mo_count : ByteArray := prog_6_method_16_code
def y_Mo_count : MethodName := ⟨R_Mo, "count", "(I)I"⟩
abbrev b_Mo_findAll : ByteArray := prog_6_method_15_code
def y_Mo_findAll : MethodName := ⟨R_Mo, "findAll", "(I)V"⟩
abbrev b_Mo_find : ByteArray := prog_6_method_14_code
def y_Mo_find : MethodName := ⟨R_Mo, "find", "(I)V"⟩
abbrev b_Mo_alone : ByteArray := prog_6_method_13_code
def y_Mo_alone : MethodName := ⟨R_Mo, "alone", "(III)V"⟩
abbrev b_Mo_isFar : ByteArray := prog_6_method_12_code
def y_Mo_isFar : MethodName := ⟨R_Mo, "isFar", "(III)Z"⟩
abbrev b_Mo_gap : ByteArray := prog_6_method_10_code
def y_Mo_gap : MethodName := ⟨R_Mo, "gap", "(IIII)I"⟩
abbrev b_Mo_comes : ByteArray := prog_6_method_9_code
def y_Mo_comes : MethodName := ⟨R_Mo, "comes", "(II)V"⟩
abbrev b_Mo_pair : ByteArray := prog_6_method_11_code
def y_Mo_pair : MethodName := ⟨R_Mo, "pair", "(IIIII)V"⟩
abbrev b_Mo_begin : ByteArray := prog_6_method_18_code
def y_Mo_begin : MethodName := ⟨R_Mo, "begin", "(II)I"⟩
abbrev b_Mo_nth : ByteArray := prog_6_method_17_code
def y_Mo_nth : MethodName := ⟨R_Mo, "nth", "(II)I"⟩
abbrev b_Mo_end : ByteArray := prog_6_method_19_code
def y_Mo_end : MethodName := ⟨R_Mo, "end", "(II)I"⟩
abbrev b_Mo_covered : ByteArray := prog_6_method_20_code
def y_Mo_covered : MethodName := ⟨R_Mo, "covered", "(I)I"⟩
abbrev b_Mo_slot : ByteArray := prog_6_method_21_code
def y_Mo_slot : MethodName := ⟨R_Mo, "slot", "(II)I"⟩
abbrev b_Mo_unslot : ByteArray := prog_6_method_22_code
def y_Mo_unslot : MethodName := ⟨R_Mo, "unslot", "()I"⟩
abbrev b_Mo_matches : ByteArray := prog_6_method_27_code
def y_Mo_matches : MethodName := ⟨R_Mo, "matches", "(I)I"⟩
abbrev b_Mo_know : ByteArray := prog_6_method_26_code
def y_Mo_know : MethodName := ⟨R_Mo, "know", "()V"⟩
abbrev b_Mo_fits : ByteArray := prog_6_method_23_code
def y_Mo_fits : MethodName := ⟨R_Mo, "fits", "(II)Z"⟩
abbrev b_Mo_choose : ByteArray := prog_6_method_25_code
def y_Mo_choose : MethodName := ⟨R_Mo, "choose", "()V"⟩
abbrev b_Mo_moved : ByteArray := prog_6_method_24_code
def y_Mo_moved : MethodName := ⟨R_Mo, "moved", "()I"⟩
abbrev b_Mo_weight : ByteArray := prog_6_method_28_code
def y_Mo_weight : MethodName := ⟨R_Mo, "weight", "(I)J"⟩
abbrev b_Mo_least : ByteArray := prog_6_method_29_code
def y_Mo_least : MethodName := ⟨R_Mo, "least", "()I"⟩
abbrev b_Mo_chosen : ByteArray := prog_6_method_30_code
def y_Mo_chosen : MethodName := ⟨R_Mo, "chosen", "(I)I"⟩
abbrev b_Mo_ties : ByteArray := prog_6_method_31_code
def y_Mo_ties : MethodName := ⟨R_Mo, "ties", "()I"⟩
abbrev b_Mo_shortest : ByteArray := prog_6_method_32_code
def y_Mo_shortest : MethodName := ⟨R_Mo, "shortest", "(I)I"⟩
abbrev k_cl : List vw_C := [(R_As, T_As, 7), (R_Ph, T_Ph, 12), (R_Ro, T_Ro, 1), (R_Pm, T_Pm, 3), (R_Mo, T_Mo, 19)]
def kW_0 : List Cond := [.selects R_Pm y_Pm_textHasChanged y_Pm_textHasChanged, .selects R_As y_As_workOut y_As_workOut, .selects R_Ro y_Ro_addBehindOne y_Ro_addBehindOne, .selects R_Ro y_Ro_addBothOfOne y_Ro_addBothOfOne, .selects R_Ro y_Ro_hasWithin y_Ro_hasWithin, .selects R_Ro y_Ro_hasAround y_Ro_hasAround, .selects R_Ro y_Ro_hasNear y_Ro_hasNear, .selects R_Ph y_Ph_findPlaces y_Ph_findPlaces, .selects R_Ph y_Ph_searchMoved y_Ph_searchMoved, .selects R_Ph y_Ph_noteChoice y_Ph_noteChoice, .selects R_Ph y_Ph_isFree y_Ph_isFree, .selects R_Ph y_Ph_searchShortest y_Ph_searchShortest, .selects R_Ph y_Ph_isShorter y_Ph_isShorter, .selects R_Mo y_Mo_isAsk y_Mo_isAsk, .selects R_Mo y_Mo_findAll y_Mo_findAll, .selects R_Mo y_Mo_find y_Mo_find, .selects R_Mo y_Mo_alone y_Mo_alone, .selects R_Mo y_Mo_isFar y_Mo_isFar, .selects R_Mo y_Mo_comes y_Mo_comes, .selects R_Mo y_Mo_pair y_Mo_pair, .selects R_Mo y_Mo_nth y_Mo_nth, .selects R_Mo y_Mo_know y_Mo_know, .selects R_Mo y_Mo_fits y_Mo_fits, .selects R_Mo y_Mo_choose y_Mo_choose, .selects R_Mo y_Mo_moved y_Mo_moved, .initialized R_Pm, .initialized R_As, .initialized R_Ro, .initialized "java/util/Arrays", .initialized R_Ph, .initialized R_Mo, .initialized "java/lang/Math", .initialized "java/lang/System", .instantiable R_Pm 3, .instanceMethod y_Pm_init, .code y_Pm_init b_Pm_init 1 none, .methodLink R_Pm 3 objectInit, .instanceMethod objectInit, .code objectInit ⟨#[0xb1]⟩ 1 none, .classLink R_Pm 13 R_As]
def kW_1 : List Cond := [.instantiable R_As 7, .methodLink R_Pm 15 y_As_init, .instanceMethod y_As_init, .code y_As_init b_As_init 2 none, .methodLink R_As 3 objectInit, .classLink R_As 24 R_Ro, .instantiable R_Ro 1, .methodLink R_As 30 y_Ro_init, .instanceMethod y_Ro_init, .code y_Ro_init b_Ro_init 1 none, .methodLink R_Ro 3 objectInit, .methodLink R_Ro 15 y_Ja_fill, .static y_Ja_fill, .code y_Ja_fill b_Ja_fill 4 none, .fieldLink R_Ro 9 "PhraseMoves$Row" "ends" "[I", .laysFinal R_Ro "PhraseMoves$Row" "ends" "[I", .arrayClass .int, .fieldLink R_As 9 "PhraseMoves$AskList" "kinds" "[I", .fieldLink R_As 15 "PhraseMoves$AskList" "firsts" "[I", .fieldLink R_As 18 "PhraseMoves$AskList" "seconds" "[I", .fieldLink R_As 21 "PhraseMoves$AskList" "numbers" "[I", .fieldLink R_As 26 "PhraseMoves$AskList" "rows" "[LPhraseMoves$Row;", .fieldLink R_As 31 "PhraseMoves$AskList" "size" "I", .fieldLink R_As 35 "PhraseMoves$AskList" "ready" "I", .laysFinal R_As "PhraseMoves$AskList" "kinds" "[I", .laysFinal R_As "PhraseMoves$AskList" "firsts" "[I", .laysFinal R_As "PhraseMoves$AskList" "seconds" "[I", .laysFinal R_As "PhraseMoves$AskList" "numbers" "[I", .laysFinal R_As "PhraseMoves$AskList" "rows" "[LPhraseMoves$Row;", .lays R_As "PhraseMoves$AskList" "size" "I", .lays R_As "PhraseMoves$AskList" "ready" "I", .classLink R_Pm 20 R_Ph, .instantiable R_Ph 12, .methodLink R_Pm 22 y_Ph_init, .instanceMethod y_Ph_init, .code y_Ph_init b_Ph_init 1 none, .methodLink R_Ph 3 objectInit, .classLink R_Ph 26 "[[I", .fieldLink R_Ph 9 "PhraseMoves$Phrase" "offsets" "[I", .fieldLink R_Ph 15 "PhraseMoves$Phrase" "sets" "[I"]
def kW_2 : List Cond := [.fieldLink R_Ph 18 "PhraseMoves$Phrase" "size" "I", .fieldLink R_Ph 22 "PhraseMoves$Phrase" "settled" "Z", .fieldLink R_Ph 28 "PhraseMoves$Phrase" "places" "[[I", .fieldLink R_Ph 31 "PhraseMoves$Phrase" "placesOf" "[I", .fieldLink R_Ph 34 "PhraseMoves$Phrase" "tried" "[I", .fieldLink R_Ph 37 "PhraseMoves$Phrase" "firstChoice" "[I", .fieldLink R_Ph 40 "PhraseMoves$Phrase" "counts" "[I", .fieldLink R_Ph 43 "PhraseMoves$Phrase" "lowestMoved" "I", .fieldLink R_Ph 46 "PhraseMoves$Phrase" "shortFrom" "I", .fieldLink R_Ph 49 "PhraseMoves$Phrase" "shortTo" "I", .laysFinal R_Ph "PhraseMoves$Phrase" "offsets" "[I", .laysFinal R_Ph "PhraseMoves$Phrase" "sets" "[I", .lays R_Ph "PhraseMoves$Phrase" "size" "I", .lays R_Ph "PhraseMoves$Phrase" "settled" "Z", .laysFinal R_Ph "PhraseMoves$Phrase" "places" "[[I", .laysFinal R_Ph "PhraseMoves$Phrase" "placesOf" "[I", .laysFinal R_Ph "PhraseMoves$Phrase" "tried" "[I", .laysFinal R_Ph "PhraseMoves$Phrase" "firstChoice" "[I", .laysFinal R_Ph "PhraseMoves$Phrase" "counts" "[I", .lays R_Ph "PhraseMoves$Phrase" "lowestMoved" "I", .lays R_Ph "PhraseMoves$Phrase" "shortFrom" "I", .lays R_Ph "PhraseMoves$Phrase" "shortTo" "I", .fieldLink R_Pm 9 "PhraseMoves" "text" "[I", .fieldLink R_Pm 16 "PhraseMoves" "asks" "LPhraseMoves$AskList;", .fieldLink R_Pm 23 "PhraseMoves" "phrase" "LPhraseMoves$Phrase;", .laysFinal R_Pm "PhraseMoves" "text" "[I", .laysFinal R_Pm "PhraseMoves" "asks" "LPhraseMoves$AskList;", .laysFinal R_Pm "PhraseMoves" "phrase" "LPhraseMoves$Phrase;", .instanceMethod y_Pm_put, .selects R_Pm y_Pm_put y_Pm_put, .code y_Pm_put b_Pm_put 4 (some .int), .methodLink R_Pm 27 y_Pm_isPlace, .static y_Pm_isPlace, .code y_Pm_isPlace b_Pm_isPlace 1 (some .boolean), .methodLink R_Pm 31 y_Pm_isSet, .static y_Pm_isSet, .code y_Pm_isSet b_Pm_isSet 1 (some .boolean), .methodLink R_Pm 34 y_Pm_textHasChanged, .instanceMethod y_Pm_textHasChanged, .code y_Pm_textHasChanged b_Pm_textHasChanged 1 none]
def kW_3 : List Cond := [.methodLink R_Pm 123 y_As_outdate, .instanceMethod y_As_outdate, .selects R_As y_As_outdate y_As_outdate, .code y_As_outdate b_As_outdate 1 none, .methodLink R_Pm 126 y_Ph_outdate, .instanceMethod y_Ph_outdate, .selects R_Ph y_Ph_outdate y_Ph_outdate, .code y_Ph_outdate b_Ph_outdate 1 none, .instanceMethod y_Pm_clear, .selects R_Pm y_Pm_clear y_Pm_clear, .code y_Pm_clear b_Pm_clear 3 (some .int), .instanceMethod y_Pm_ask, .selects R_Pm y_Pm_ask y_Pm_ask, .code y_Pm_ask b_Pm_ask 5 (some .int), .methodLink R_Pm 37 y_Pm_isKind, .static y_Pm_isKind, .code y_Pm_isKind b_Pm_isKind 1 (some .boolean), .methodLink R_Pm 40 y_Pm_countsNumber, .static y_Pm_countsNumber, .code y_Pm_countsNumber b_Pm_countsNumber 1 (some .boolean), .methodLink R_Pm 43 y_Pm_isNumberOf, .static y_Pm_isNumberOf, .code y_Pm_isNumberOf b_Pm_isNumberOf 2 (some .boolean), .methodLink R_Pm 47 y_Pm_countsFirst, .static y_Pm_countsFirst, .code y_Pm_countsFirst b_Pm_countsFirst 1 (some .boolean), .methodLink R_Pm 50 y_As_has, .instanceMethod y_As_has, .selects R_As y_As_has y_As_has, .code y_As_has b_As_has 2 (some .boolean), .methodLink R_Pm 53 y_Pm_countsSecond, .static y_Pm_countsSecond, .code y_Pm_countsSecond b_Pm_countsSecond 1 (some .boolean), .methodLink R_Pm 56 y_As_append, .instanceMethod y_As_append, .selects R_As y_As_append y_As_append, .code y_As_append b_As_append 5 (some .int), .instanceMethod y_Pm_forget, .selects R_Pm y_Pm_forget y_Pm_forget, .code y_Pm_forget b_Pm_forget 1 (some .int)]
def kW_4 : List Cond := [.methodLink R_Pm 60 y_As_dropAll, .instanceMethod y_As_dropAll, .selects R_As y_As_dropAll y_As_dropAll, .code y_As_dropAll b_As_dropAll 2 (some .int), .instanceMethod y_Pm_count, .selects R_Pm y_Pm_count y_Pm_count, .code y_Pm_count b_Pm_count 2 (some .int), .methodLink R_Pm 64 y_As_rowOf, .instanceMethod y_As_rowOf, .selects R_As y_As_rowOf y_As_rowOf, .code y_As_rowOf b_As_rowOf 4 (some (.object "PhraseMoves$Row")), .methodLink R_As 38 y_As_workOut, .instanceMethod y_As_workOut, .code y_As_workOut b_As_workOut 7 none, .methodLink R_As 42 y_Ro_empty, .instanceMethod y_Ro_empty, .selects R_Ro y_Ro_empty y_Ro_empty, .code y_Ro_empty b_Ro_empty 1 none, .methodLink R_As 45 y_Ro_addPlacesWith, .instanceMethod y_Ro_addPlacesWith, .selects R_Ro y_Ro_addPlacesWith y_Ro_addPlacesWith, .code y_Ro_addPlacesWith b_Ro_addPlacesWith 4 none, .methodLink R_Ro 38 y_Ro_add, .instanceMethod y_Ro_add, .selects R_Ro y_Ro_add y_Ro_add, .code y_Ro_add b_Ro_add 3 none, .methodLink R_As 48 y_Ro_addAll, .instanceMethod y_Ro_addAll, .selects R_Ro y_Ro_addAll y_Ro_addAll, .code y_Ro_addAll b_Ro_addAll 2 none, .methodLink R_Ro 42 y_Ro_addGrown, .instanceMethod y_Ro_addGrown, .selects R_Ro y_Ro_addGrown y_Ro_addGrown, .code y_Ro_addGrown b_Ro_addGrown 4 none, .methodLink R_Ro 25 y_Ro_beginsAt, .instanceMethod y_Ro_beginsAt, .selects R_Ro y_Ro_beginsAt y_Ro_beginsAt, .code y_Ro_beginsAt b_Ro_beginsAt 2 (some .boolean), .methodLink R_Ro 32 Lib.Math.max.name, .static Lib.Math.max.name]
def kW_5 : List Cond := [.code Lib.Math.max.name Lib.Math.max.code 2 (some .int), .methodLink R_As 52 y_Ro_addBehind, .instanceMethod y_Ro_addBehind, .selects R_Ro y_Ro_addBehind y_Ro_addBehind, .code y_Ro_addBehind b_Ro_addBehind 5 none, .methodLink R_Ro 46 y_Ro_addBehindOne, .instanceMethod y_Ro_addBehindOne, .code y_Ro_addBehindOne b_Ro_addBehindOne 6 none, .methodLink R_As 56 y_Ro_addBoth, .instanceMethod y_Ro_addBoth, .selects R_Ro y_Ro_addBoth y_Ro_addBoth, .code y_Ro_addBoth b_Ro_addBoth 5 none, .methodLink R_Ro 50 y_Ro_addBothOfOne, .instanceMethod y_Ro_addBothOfOne, .code y_Ro_addBothOfOne b_Ro_addBothOfOne 8 none, .methodLink R_Ro 53 Lib.Math.min.name, .static Lib.Math.min.name, .code Lib.Math.min.name Lib.Math.min.code 2 (some .int), .methodLink R_As 59 y_Ro_addHolding, .instanceMethod y_Ro_addHolding, .selects R_Ro y_Ro_addHolding y_Ro_addHolding, .code y_Ro_addHolding b_Ro_addHolding 4 none, .methodLink R_Ro 56 y_Ro_hasWithin, .instanceMethod y_Ro_hasWithin, .code y_Ro_hasWithin b_Ro_hasWithin 4 (some .boolean), .methodLink R_As 63 y_Ro_addIn, .instanceMethod y_Ro_addIn, .selects R_Ro y_Ro_addIn y_Ro_addIn, .code y_Ro_addIn b_Ro_addIn 4 none, .methodLink R_Ro 60 y_Ro_hasAround, .instanceMethod y_Ro_hasAround, .code y_Ro_hasAround b_Ro_hasAround 4 (some .boolean), .methodLink R_As 66 y_Ro_addByNearness, .instanceMethod y_Ro_addByNearness, .selects R_Ro y_Ro_addByNearness y_Ro_addByNearness, .code y_Ro_addByNearness b_Ro_addByNearness 6 none, .methodLink R_Ro 63 y_Ro_hasNear, .instanceMethod y_Ro_hasNear, .code y_Ro_hasNear b_Ro_hasNear 5 (some .boolean), .methodLink R_As 70 y_Ro_addEndingBefore]
def kW_6 : List Cond := [.instanceMethod y_Ro_addEndingBefore, .selects R_Ro y_Ro_addEndingBefore y_Ro_addEndingBefore, .code y_Ro_addEndingBefore b_Ro_addEndingBefore 4 none, .methodLink R_As 74 y_Ro_addGrown, .methodLink R_As 77 y_Ro_keepLeast, .instanceMethod y_Ro_keepLeast, .selects R_Ro y_Ro_keepLeast y_Ro_keepLeast, .code y_Ro_keepLeast b_Ro_keepLeast 3 none, .methodLink R_Pm 68 y_Ro_size, .instanceMethod y_Ro_size, .selects R_Ro y_Ro_size y_Ro_size, .code y_Ro_size b_Ro_size 3 (some .int), .instanceMethod y_Pm_begin, .selects R_Pm y_Pm_begin y_Pm_begin, .code y_Pm_begin b_Pm_begin 3 (some .int), .methodLink R_Pm 73 y_Ro_beginOf, .instanceMethod y_Ro_beginOf, .selects R_Ro y_Ro_beginOf y_Ro_beginOf, .code y_Ro_beginOf b_Ro_beginOf 4 (some .int), .instanceMethod y_Pm_end, .selects R_Pm y_Pm_end y_Pm_end, .code y_Pm_end b_Pm_end 3 (some .int), .methodLink R_Pm 77 y_Ro_endOf, .instanceMethod y_Ro_endOf, .selects R_Ro y_Ro_endOf y_Ro_endOf, .code y_Ro_endOf b_Ro_endOf 3 (some .int), .methodLink R_Ro 28 y_Ro_beginOf, .instanceMethod y_Pm_covered, .selects R_Pm y_Pm_covered y_Pm_covered, .code y_Pm_covered b_Pm_covered 2 (some .int), .methodLink R_Pm 80 y_Ro_placesCovered, .instanceMethod y_Ro_placesCovered, .selects R_Ro y_Ro_placesCovered y_Ro_placesCovered, .code y_Ro_placesCovered b_Ro_placesCovered 4 (some .int), .instanceMethod y_Pm_slot, .selects R_Pm y_Pm_slot y_Pm_slot, .code y_Pm_slot b_Pm_slot 3 (some .int), .methodLink R_Pm 83 y_Ph_append, .instanceMethod y_Ph_append, .selects R_Ph y_Ph_append y_Ph_append]
def kW_7 : List Cond := [.code y_Ph_append b_Ph_append 3 (some .int), .methodLink R_Ph 52 y_Ph_outdate, .instanceMethod y_Pm_unslot, .selects R_Pm y_Pm_unslot y_Pm_unslot, .code y_Pm_unslot b_Pm_unslot 1 (some .int), .methodLink R_Pm 86 y_Ph_dropAll, .instanceMethod y_Ph_dropAll, .selects R_Ph y_Ph_dropAll y_Ph_dropAll, .code y_Ph_dropAll b_Ph_dropAll 2 (some .int), .instanceMethod y_Pm_matches, .selects R_Pm y_Pm_matches y_Pm_matches, .code y_Pm_matches b_Pm_matches 2 (some .int), .methodLink R_Pm 87 y_Pm_isSlop, .static y_Pm_isSlop, .code y_Pm_isSlop b_Pm_isSlop 1 (some .boolean), .methodLink R_Pm 90 y_Ph_settle, .instanceMethod y_Ph_settle, .selects R_Ph y_Ph_settle y_Ph_settle, .code y_Ph_settle b_Ph_settle 2 none, .methodLink R_Ph 61 y_Ja_fill, .methodLink R_Ph 67 y_Ph_findPlaces, .instanceMethod y_Ph_findPlaces, .code y_Ph_findPlaces b_Ph_findPlaces 5 none, .methodLink R_Ph 71 y_Ph_searchMoved, .instanceMethod y_Ph_searchMoved, .code y_Ph_searchMoved b_Ph_searchMoved 10 none, .methodLink R_Ph 79 y_Ph_noteChoice, .instanceMethod y_Ph_noteChoice, .code y_Ph_noteChoice b_Ph_noteChoice 2 none, .methodLink R_Ph 100 arraycopyName, .static arraycopyName, .native arraycopyName, .methodLink R_Ph 83 Lib.Math.min.name, .methodLink R_Ph 89 Lib.Math.max.name, .methodLink R_Ph 92 Lib.Math.abs.name, .static Lib.Math.abs.name, .code Lib.Math.abs.name Lib.Math.abs.code 1 (some .int), .methodLink R_Ph 96 y_Ph_isFree, .instanceMethod y_Ph_isFree, .code y_Ph_isFree b_Ph_isFree 4 (some .boolean)]
def kW_8 : List Cond := [.methodLink R_Ph 75 y_Ph_searchShortest, .instanceMethod y_Ph_searchShortest, .code y_Ph_searchShortest b_Ph_searchShortest 8 none, .methodLink R_Ph 106 y_Ph_isShorter, .instanceMethod y_Ph_isShorter, .code y_Ph_isShorter b_Ph_isShorter 5 (some .boolean), .methodLink R_Pm 94 y_Ph_choicesUpTo, .instanceMethod y_Ph_choicesUpTo, .selects R_Ph y_Ph_choicesUpTo y_Ph_choicesUpTo, .code y_Ph_choicesUpTo b_Ph_choicesUpTo 4 (some .int), .instanceMethod y_Pm_weight, .selects R_Pm y_Pm_weight y_Pm_weight, .code y_Pm_weight b_Pm_weight 2 (some .long), .constantLong R_Pm 97 (-2), .methodLink R_Pm 99 y_Ph_weightUpTo, .instanceMethod y_Ph_weightUpTo, .selects R_Ph y_Ph_weightUpTo y_Ph_weightUpTo, .code y_Ph_weightUpTo b_Ph_weightUpTo 5 (some .long), .constantLong R_Ph 59 (2520), .instanceMethod y_Pm_least, .selects R_Pm y_Pm_least y_Pm_least, .code y_Pm_least b_Pm_least 1 (some .int), .methodLink R_Pm 103 y_Ph_hasChoice, .instanceMethod y_Ph_hasChoice, .selects R_Ph y_Ph_hasChoice y_Ph_hasChoice, .code y_Ph_hasChoice b_Ph_hasChoice 1 (some .boolean), .methodLink R_Pm 107 y_Ph_leastMoved, .instanceMethod y_Ph_leastMoved, .selects R_Ph y_Ph_leastMoved y_Ph_leastMoved, .code y_Ph_leastMoved b_Ph_leastMoved 1 (some .int), .instanceMethod y_Pm_chosen, .selects R_Pm y_Pm_chosen y_Pm_chosen, .code y_Pm_chosen b_Pm_chosen 2 (some .int), .methodLink R_Pm 110 y_Ph_has, .instanceMethod y_Ph_has, .selects R_Ph y_Ph_has y_Ph_has, .code y_Ph_has b_Ph_has 2 (some .boolean), .methodLink R_Pm 111 y_Ph_placeInFirst, .instanceMethod y_Ph_placeInFirst, .selects R_Ph y_Ph_placeInFirst y_Ph_placeInFirst]
def kW_9 : List Cond := [.code y_Ph_placeInFirst b_Ph_placeInFirst 2 (some .int), .methodLink R_Ph 55 y_Ph_has, .instanceMethod y_Pm_ties, .selects R_Pm y_Pm_ties y_Pm_ties, .code y_Pm_ties b_Pm_ties 1 (some .int), .methodLink R_Pm 114 y_Ph_choicesMovedBy, .instanceMethod y_Ph_choicesMovedBy, .selects R_Ph y_Ph_choicesMovedBy y_Ph_choicesMovedBy, .code y_Ph_choicesMovedBy b_Ph_choicesMovedBy 2 (some .int), .instanceMethod y_Pm_shortest, .selects R_Pm y_Pm_shortest y_Pm_shortest, .code y_Pm_shortest b_Pm_shortest 2 (some .int), .methodLink R_Pm 117 y_Ph_shortestBegin, .instanceMethod y_Ph_shortestBegin, .selects R_Ph y_Ph_shortestBegin y_Ph_shortestBegin, .code y_Ph_shortestBegin b_Ph_shortestBegin 1 (some .int), .methodLink R_Pm 120 y_Ph_shortestEnd, .instanceMethod y_Ph_shortestEnd, .selects R_Ph y_Ph_shortestEnd y_Ph_shortestEnd, .code y_Ph_shortestEnd b_Ph_shortestEnd 1 (some .int), .instantiable R_Mo 19, .instanceMethod y_Mo_init, .code y_Mo_init b_Mo_init 1 none, .methodLink R_Mo 1 objectInit, .fieldLink R_Mo 7 "PhraseMovesModel" "text" "[I", .fieldLink R_Mo 57 "PhraseMovesModel" "asks" "I", .fieldLink R_Mo 13 "PhraseMovesModel" "kinds" "[I", .fieldLink R_Mo 16 "PhraseMovesModel" "one" "[I", .fieldLink R_Mo 19 "PhraseMovesModel" "other" "[I", .fieldLink R_Mo 22 "PhraseMovesModel" "number" "[I", .fieldLink R_Mo 95 "PhraseMovesModel" "slots" "I", .fieldLink R_Mo 25 "PhraseMovesModel" "offsets" "[I", .fieldLink R_Mo 28 "PhraseMovesModel" "sets" "[I", .fieldLink R_Mo 53 "PhraseMovesModel" "known" "Z", .fieldLink R_Mo 31 "PhraseMovesModel" "ends" "[I", .fieldLink R_Mo 34 "PhraseMovesModel" "under" "[I", .fieldLink R_Mo 37 "PhraseMovesModel" "many" "[I", .fieldLink R_Mo 103 "PhraseMovesModel" "choices" "I", .fieldLink R_Mo 106 "PhraseMovesModel" "least" "I", .fieldLink R_Mo 40 "PhraseMovesModel" "first" "[I"]
def kW_10 : List Cond := [.fieldLink R_Mo 112 "PhraseMovesModel" "shortFrom" "I", .fieldLink R_Mo 109 "PhraseMovesModel" "shortTo" "I", .fieldLink R_Mo 43 "PhraseMovesModel" "places" "[I", .laysFinal R_Mo "PhraseMovesModel" "text" "[I", .lays R_Mo "PhraseMovesModel" "asks" "I", .laysFinal R_Mo "PhraseMovesModel" "kinds" "[I", .laysFinal R_Mo "PhraseMovesModel" "one" "[I", .laysFinal R_Mo "PhraseMovesModel" "other" "[I", .laysFinal R_Mo "PhraseMovesModel" "number" "[I", .lays R_Mo "PhraseMovesModel" "slots" "I", .laysFinal R_Mo "PhraseMovesModel" "offsets" "[I", .laysFinal R_Mo "PhraseMovesModel" "sets" "[I", .lays R_Mo "PhraseMovesModel" "known" "Z", .laysFinal R_Mo "PhraseMovesModel" "ends" "[I", .laysFinal R_Mo "PhraseMovesModel" "under" "[I", .laysFinal R_Mo "PhraseMovesModel" "many" "[I", .lays R_Mo "PhraseMovesModel" "choices" "I", .lays R_Mo "PhraseMovesModel" "least" "I", .laysFinal R_Mo "PhraseMovesModel" "first" "[I", .lays R_Mo "PhraseMovesModel" "shortFrom" "I", .lays R_Mo "PhraseMovesModel" "shortTo" "I", .laysFinal R_Mo "PhraseMovesModel" "places" "[I", .instanceMethod y_Mo_put, .selects R_Mo y_Mo_put y_Mo_put, .code y_Mo_put b_Mo_put 4 (some .int), .methodLink R_Mo 46 y_Mo_isPlace, .static y_Mo_isPlace, .code y_Mo_isPlace b_Mo_isPlace 1 (some .boolean), .methodLink R_Mo 50 y_Mo_isSet, .static y_Mo_isSet, .code y_Mo_isSet b_Mo_isSet 1 (some .boolean), .instanceMethod y_Mo_clear, .selects R_Mo y_Mo_clear y_Mo_clear, .code y_Mo_clear b_Mo_clear 3 (some .int), .instanceMethod y_Mo_ask, .selects R_Mo y_Mo_ask y_Mo_ask, .code y_Mo_ask b_Mo_ask 6 (some .int), .methodLink R_Mo 61 y_Mo_isAsk, .instanceMethod y_Mo_isAsk, .code y_Mo_isAsk b_Mo_isAsk 2 (some .boolean)]
def kW_11 : List Cond := [.instanceMethod y_Mo_forget, .selects R_Mo y_Mo_forget y_Mo_forget, .code y_Mo_forget b_Mo_forget 2 (some .int), .instanceMethod y_Mo_count, .selects R_Mo y_Mo_count y_Mo_count, .code y_Mo_count b_Mo_count 4 (some .int), .methodLink R_Mo 88 y_Mo_findAll, .instanceMethod y_Mo_findAll, .code y_Mo_findAll b_Mo_findAll 3 none, .methodLink R_Mo 84 y_Mo_find, .instanceMethod y_Mo_find, .code y_Mo_find b_Mo_find 6 none, .methodLink R_Mo 76 y_Mo_alone, .instanceMethod y_Mo_alone, .code y_Mo_alone b_Mo_alone 6 none, .methodLink R_Mo 72 y_Mo_isFar, .instanceMethod y_Mo_isFar, .code y_Mo_isFar b_Mo_isFar 8 (some .boolean), .methodLink R_Mo 68 y_Mo_gap, .static y_Mo_gap, .code y_Mo_gap b_Mo_gap 4 (some .int), .methodLink R_Mo 64 y_Mo_comes, .instanceMethod y_Mo_comes, .code y_Mo_comes b_Mo_comes 3 none, .methodLink R_Mo 80 y_Mo_pair, .instanceMethod y_Mo_pair, .code y_Mo_pair b_Mo_pair 10 none, .instanceMethod y_Mo_begin, .selects R_Mo y_Mo_begin y_Mo_begin, .code y_Mo_begin b_Mo_begin 3 (some .int), .methodLink R_Mo 91 y_Mo_nth, .instanceMethod y_Mo_nth, .code y_Mo_nth b_Mo_nth 5 (some .int), .instanceMethod y_Mo_end, .selects R_Mo y_Mo_end y_Mo_end, .code y_Mo_end b_Mo_end 4 (some .int), .instanceMethod y_Mo_covered, .selects R_Mo y_Mo_covered y_Mo_covered, .code y_Mo_covered b_Mo_covered 6 (some .int), .instanceMethod y_Mo_slot]
def kW_12 : List Cond := [.selects R_Mo y_Mo_slot y_Mo_slot, .code y_Mo_slot b_Mo_slot 3 (some .int), .instanceMethod y_Mo_unslot, .selects R_Mo y_Mo_unslot y_Mo_unslot, .code y_Mo_unslot b_Mo_unslot 2 (some .int), .instanceMethod y_Mo_matches, .selects R_Mo y_Mo_matches y_Mo_matches, .code y_Mo_matches b_Mo_matches 4 (some .int), .methodLink R_Mo 122 y_Mo_know, .instanceMethod y_Mo_know, .code y_Mo_know b_Mo_know 3 none, .methodLink R_Mo 115 y_Mo_fits, .instanceMethod y_Mo_fits, .code y_Mo_fits b_Mo_fits 4 (some .boolean), .methodLink R_Mo 119 y_Mo_choose, .instanceMethod y_Mo_choose, .code y_Mo_choose b_Mo_choose 5 none, .methodLink R_Mo 99 y_Mo_moved, .instanceMethod y_Mo_moved, .code y_Mo_moved b_Mo_moved 6 (some .int), .constant R_Mo 98 (1000000), .instanceMethod y_Mo_weight, .selects R_Mo y_Mo_weight y_Mo_weight, .code y_Mo_weight b_Mo_weight 5 (some .long), .constantLong R_Mo 125 (-2), .instanceMethod y_Mo_least, .selects R_Mo y_Mo_least y_Mo_least, .code y_Mo_least b_Mo_least 1 (some .int), .instanceMethod y_Mo_chosen, .selects R_Mo y_Mo_chosen y_Mo_chosen, .code y_Mo_chosen b_Mo_chosen 2 (some .int), .instanceMethod y_Mo_ties, .selects R_Mo y_Mo_ties y_Mo_ties, .code y_Mo_ties b_Mo_ties 1 (some .int), .instanceMethod y_Mo_shortest, .selects R_Mo y_Mo_shortest y_Mo_shortest, .code y_Mo_shortest b_Mo_shortest 2 (some .int)]
def kW : List Cond := kW_0 ++ (kW_1 ++ (kW_2 ++ (kW_3 ++ (kW_4 ++ (kW_5 ++ (kW_6 ++ (kW_7 ++ (kW_8 ++ (kW_9 ++ (kW_10 ++ (kW_11 ++ (kW_12))))))))))))
theorem kW_0_in {w : Cond} (h : w ∈ kW_0) : w ∈ kW := List.mem_append_left _ h
theorem kW_1_in {w : Cond} (h : w ∈ kW_1) : w ∈ kW := List.mem_append_right _ (List.mem_append_left _ h)
theorem kW_2_in {w : Cond} (h : w ∈ kW_2) : w ∈ kW := List.mem_append_right _ (List.mem_append_right _ (List.mem_append_left _ h))
theorem kW_3_in {w : Cond} (h : w ∈ kW_3) : w ∈ kW := List.mem_append_right _ (List.mem_append_right _ (List.mem_append_right _ (List.mem_append_left _ h)))
theorem kW_4_in {w : Cond} (h : w ∈ kW_4) : w ∈ kW := List.mem_append_right _ (List.mem_append_right _ (List.mem_append_right _ (List.mem_append_right _ (List.mem_append_left _ h))))
theorem kW_5_in {w : Cond} (h : w ∈ kW_5) : w ∈ kW := List.mem_append_right _ (List.mem_append_right _ (List.mem_append_right _ (List.mem_append_right _ (List.mem_append_right _ (List.mem_append_left _ h)))))
theorem kW_6_in {w : Cond} (h : w ∈ kW_6) : w ∈ kW := List.mem_append_right _ (List.mem_append_right _ (List.mem_append_right _ (List.mem_append_right _ (List.mem_append_right _ (List.mem_append_right _ (List.mem_append_left _ h))))))
theorem kW_7_in {w : Cond} (h : w ∈ kW_7) : w ∈ kW := List.mem_append_right _ (List.mem_append_right _ (List.mem_append_right _ (List.mem_append_right _ (List.mem_append_right _ (List.mem_append_right _ (List.mem_append_right _ (List.mem_append_left _ h)))))))
theorem kW_8_in {w : Cond} (h : w ∈ kW_8) : w ∈ kW := List.mem_append_right _ (List.mem_append_right _ (List.mem_append_right _ (List.mem_append_right _ (List.mem_append_right _ (List.mem_append_right _ (List.mem_append_right _ (List.mem_append_right _ (List.mem_append_left _ h))))))))
theorem kW_9_in {w : Cond} (h : w ∈ kW_9) : w ∈ kW := List.mem_append_right _ (List.mem_append_right _ (List.mem_append_right _ (List.mem_append_right _ (List.mem_append_right _ (List.mem_append_right _ (List.mem_append_right _ (List.mem_append_right _ (List.mem_append_right _ (List.mem_append_left _ h)))))))))
theorem kW_10_in {w : Cond} (h : w ∈ kW_10) : w ∈ kW := List.mem_append_right _ (List.mem_append_right _ (List.mem_append_right _ (List.mem_append_right _ (List.mem_append_right _ (List.mem_append_right _ (List.mem_append_right _ (List.mem_append_right _ (List.mem_append_right _ (List.mem_append_right _ (List.mem_append_left _ h))))))))))
theorem kW_11_in {w : Cond} (h : w ∈ kW_11) : w ∈ kW := List.mem_append_right _ (List.mem_append_right _ (List.mem_append_right _ (List.mem_append_right _ (List.mem_append_right _ (List.mem_append_right _ (List.mem_append_right _ (List.mem_append_right _ (List.mem_append_right _ (List.mem_append_right _ (List.mem_append_right _ (List.mem_append_left _ h)))))))))))
theorem kW_12_in {w : Cond} (h : w ∈ kW_12) : w ∈ kW := List.mem_append_right _ (List.mem_append_right _ (List.mem_append_right _ (List.mem_append_right _ (List.mem_append_right _ (List.mem_append_right _ (List.mem_append_right _ (List.mem_append_right _ (List.mem_append_right _ (List.mem_append_right _ (List.mem_append_right _ (List.mem_append_right _ (h))))))))))))
theorem kw_selects_Pm_textHasChanged : (.selects R_Pm y_Pm_textHasChanged y_Pm_textHasChanged : Cond) ∈ kW := kW_0_in (List.mem_of_getElem? (i := 0) rfl)
theorem kw_selects_As_workOut : (.selects R_As y_As_workOut y_As_workOut : Cond) ∈ kW := kW_0_in (List.mem_of_getElem? (i := 1) rfl)
theorem kw_selects_Ro_addBehindOne : (.selects R_Ro y_Ro_addBehindOne y_Ro_addBehindOne : Cond) ∈ kW := kW_0_in (List.mem_of_getElem? (i := 2) rfl)
theorem kw_selects_Ro_addBothOfOne : (.selects R_Ro y_Ro_addBothOfOne y_Ro_addBothOfOne : Cond) ∈ kW := kW_0_in (List.mem_of_getElem? (i := 3) rfl)
theorem kw_selects_Ro_hasWithin : (.selects R_Ro y_Ro_hasWithin y_Ro_hasWithin : Cond) ∈ kW := kW_0_in (List.mem_of_getElem? (i := 4) rfl)
theorem kw_selects_Ro_hasAround : (.selects R_Ro y_Ro_hasAround y_Ro_hasAround : Cond) ∈ kW := kW_0_in (List.mem_of_getElem? (i := 5) rfl)
theorem kw_selects_Ro_hasNear : (.selects R_Ro y_Ro_hasNear y_Ro_hasNear : Cond) ∈ kW := kW_0_in (List.mem_of_getElem? (i := 6) rfl)
theorem kw_selects_Ph_findPlaces : (.selects R_Ph y_Ph_findPlaces y_Ph_findPlaces : Cond) ∈ kW := kW_0_in (List.mem_of_getElem? (i := 7) rfl)
theorem kw_selects_Ph_searchMoved : (.selects R_Ph y_Ph_searchMoved y_Ph_searchMoved : Cond) ∈ kW := kW_0_in (List.mem_of_getElem? (i := 8) rfl)
theorem kw_selects_Ph_noteChoice : (.selects R_Ph y_Ph_noteChoice y_Ph_noteChoice : Cond) ∈ kW := kW_0_in (List.mem_of_getElem? (i := 9) rfl)
theorem kw_selects_Ph_isFree : (.selects R_Ph y_Ph_isFree y_Ph_isFree : Cond) ∈ kW := kW_0_in (List.mem_of_getElem? (i := 10) rfl)
theorem kw_selects_Ph_searchShortest : (.selects R_Ph y_Ph_searchShortest y_Ph_searchShortest : Cond) ∈ kW := kW_0_in (List.mem_of_getElem? (i := 11) rfl)
theorem kw_selects_Ph_isShorter : (.selects R_Ph y_Ph_isShorter y_Ph_isShorter : Cond) ∈ kW := kW_0_in (List.mem_of_getElem? (i := 12) rfl)
theorem kw_selects_Mo_isAsk : (.selects R_Mo y_Mo_isAsk y_Mo_isAsk : Cond) ∈ kW := kW_0_in (List.mem_of_getElem? (i := 13) rfl)
theorem kw_selects_Mo_findAll : (.selects R_Mo y_Mo_findAll y_Mo_findAll : Cond) ∈ kW := kW_0_in (List.mem_of_getElem? (i := 14) rfl)
theorem kw_selects_Mo_find : (.selects R_Mo y_Mo_find y_Mo_find : Cond) ∈ kW := kW_0_in (List.mem_of_getElem? (i := 15) rfl)
theorem kw_selects_Mo_alone : (.selects R_Mo y_Mo_alone y_Mo_alone : Cond) ∈ kW := kW_0_in (List.mem_of_getElem? (i := 16) rfl)
theorem kw_selects_Mo_isFar : (.selects R_Mo y_Mo_isFar y_Mo_isFar : Cond) ∈ kW := kW_0_in (List.mem_of_getElem? (i := 17) rfl)
theorem kw_selects_Mo_comes : (.selects R_Mo y_Mo_comes y_Mo_comes : Cond) ∈ kW := kW_0_in (List.mem_of_getElem? (i := 18) rfl)
theorem kw_selects_Mo_pair : (.selects R_Mo y_Mo_pair y_Mo_pair : Cond) ∈ kW := kW_0_in (List.mem_of_getElem? (i := 19) rfl)
theorem kw_selects_Mo_nth : (.selects R_Mo y_Mo_nth y_Mo_nth : Cond) ∈ kW := kW_0_in (List.mem_of_getElem? (i := 20) rfl)
theorem kw_selects_Mo_know : (.selects R_Mo y_Mo_know y_Mo_know : Cond) ∈ kW := kW_0_in (List.mem_of_getElem? (i := 21) rfl)
theorem kw_selects_Mo_fits : (.selects R_Mo y_Mo_fits y_Mo_fits : Cond) ∈ kW := kW_0_in (List.mem_of_getElem? (i := 22) rfl)
theorem kw_selects_Mo_choose : (.selects R_Mo y_Mo_choose y_Mo_choose : Cond) ∈ kW := kW_0_in (List.mem_of_getElem? (i := 23) rfl)
theorem kw_selects_Mo_moved : (.selects R_Mo y_Mo_moved y_Mo_moved : Cond) ∈ kW := kW_0_in (List.mem_of_getElem? (i := 24) rfl)
theorem kw_initialized_Pm : (.initialized R_Pm : Cond) ∈ kW := kW_0_in (List.mem_of_getElem? (i := 25) rfl)
theorem kw_initialized_As : (.initialized R_As : Cond) ∈ kW := kW_0_in (List.mem_of_getElem? (i := 26) rfl)
theorem kw_initialized_Ro : (.initialized R_Ro : Cond) ∈ kW := kW_0_in (List.mem_of_getElem? (i := 27) rfl)
theorem kw_initialized_Arrays : (.initialized "java/util/Arrays" : Cond) ∈ kW := kW_0_in (List.mem_of_getElem? (i := 28) rfl)
theorem kw_initialized_Ph : (.initialized R_Ph : Cond) ∈ kW := kW_0_in (List.mem_of_getElem? (i := 29) rfl)
theorem kw_initialized_Mo : (.initialized R_Mo : Cond) ∈ kW := kW_0_in (List.mem_of_getElem? (i := 30) rfl)
theorem kw_initialized_Math : (.initialized "java/lang/Math" : Cond) ∈ kW := kW_0_in (List.mem_of_getElem? (i := 31) rfl)
theorem kw_initialized_System : (.initialized "java/lang/System" : Cond) ∈ kW := kW_0_in (List.mem_of_getElem? (i := 32) rfl)
theorem kw_instantiable_Pm : (.instantiable R_Pm 3 : Cond) ∈ kW := kW_0_in (List.mem_of_getElem? (i := 33) rfl)
theorem kw_instanceMethod_Pm_init : (.instanceMethod y_Pm_init : Cond) ∈ kW := kW_0_in (List.mem_of_getElem? (i := 34) rfl)
theorem kw_code_Pm_init : (.code y_Pm_init b_Pm_init 1 none : Cond) ∈ kW := kW_0_in (List.mem_of_getElem? (i := 35) rfl)
theorem kw_methodLink_Pm_3 : (.methodLink R_Pm 3 objectInit : Cond) ∈ kW := kW_0_in (List.mem_of_getElem? (i := 36) rfl)
theorem kw_instanceMethod_Object_init : (.instanceMethod objectInit : Cond) ∈ kW := kW_0_in (List.mem_of_getElem? (i := 37) rfl)
theorem kw_code_Object_init : (.code objectInit ⟨#[0xb1]⟩ 1 none : Cond) ∈ kW := kW_0_in (List.mem_of_getElem? (i := 38) rfl)
theorem kw_classLink_Pm_13 : (.classLink R_Pm 13 R_As : Cond) ∈ kW := kW_0_in (List.mem_of_getElem? (i := 39) rfl)
theorem kw_instantiable_As : (.instantiable R_As 7 : Cond) ∈ kW := kW_1_in (List.mem_of_getElem? (i := 0) rfl)
theorem kw_methodLink_Pm_15 : (.methodLink R_Pm 15 y_As_init : Cond) ∈ kW := kW_1_in (List.mem_of_getElem? (i := 1) rfl)
theorem kw_instanceMethod_As_init : (.instanceMethod y_As_init : Cond) ∈ kW := kW_1_in (List.mem_of_getElem? (i := 2) rfl)
theorem kw_code_As_init : (.code y_As_init b_As_init 2 none : Cond) ∈ kW := kW_1_in (List.mem_of_getElem? (i := 3) rfl)
theorem kw_methodLink_As_3 : (.methodLink R_As 3 objectInit : Cond) ∈ kW := kW_1_in (List.mem_of_getElem? (i := 4) rfl)
theorem kw_classLink_As_24 : (.classLink R_As 24 R_Ro : Cond) ∈ kW := kW_1_in (List.mem_of_getElem? (i := 5) rfl)
theorem kw_instantiable_Ro : (.instantiable R_Ro 1 : Cond) ∈ kW := kW_1_in (List.mem_of_getElem? (i := 6) rfl)
theorem kw_methodLink_As_30 : (.methodLink R_As 30 y_Ro_init : Cond) ∈ kW := kW_1_in (List.mem_of_getElem? (i := 7) rfl)
theorem kw_instanceMethod_Ro_init : (.instanceMethod y_Ro_init : Cond) ∈ kW := kW_1_in (List.mem_of_getElem? (i := 8) rfl)
theorem kw_code_Ro_init : (.code y_Ro_init b_Ro_init 1 none : Cond) ∈ kW := kW_1_in (List.mem_of_getElem? (i := 9) rfl)
theorem kw_methodLink_Ro_3 : (.methodLink R_Ro 3 objectInit : Cond) ∈ kW := kW_1_in (List.mem_of_getElem? (i := 10) rfl)
theorem kw_methodLink_Ro_15 : (.methodLink R_Ro 15 y_Ja_fill : Cond) ∈ kW := kW_1_in (List.mem_of_getElem? (i := 11) rfl)
theorem kw_static_Arrays_fill : (.static y_Ja_fill : Cond) ∈ kW := kW_1_in (List.mem_of_getElem? (i := 12) rfl)
theorem kw_code_Arrays_fill : (.code y_Ja_fill b_Ja_fill 4 none : Cond) ∈ kW := kW_1_in (List.mem_of_getElem? (i := 13) rfl)
theorem kw_fieldLink_Ro_9 : (.fieldLink R_Ro 9 "PhraseMoves$Row" "ends" "[I" : Cond) ∈ kW := kW_1_in (List.mem_of_getElem? (i := 14) rfl)
theorem kw_laysFinal_Ro_ends : (.laysFinal R_Ro "PhraseMoves$Row" "ends" "[I" : Cond) ∈ kW := kW_1_in (List.mem_of_getElem? (i := 15) rfl)
theorem kw_arrayClass : (.arrayClass .int : Cond) ∈ kW := kW_1_in (List.mem_of_getElem? (i := 16) rfl)
theorem kw_fieldLink_As_9 : (.fieldLink R_As 9 "PhraseMoves$AskList" "kinds" "[I" : Cond) ∈ kW := kW_1_in (List.mem_of_getElem? (i := 17) rfl)
theorem kw_fieldLink_As_15 : (.fieldLink R_As 15 "PhraseMoves$AskList" "firsts" "[I" : Cond) ∈ kW := kW_1_in (List.mem_of_getElem? (i := 18) rfl)
theorem kw_fieldLink_As_18 : (.fieldLink R_As 18 "PhraseMoves$AskList" "seconds" "[I" : Cond) ∈ kW := kW_1_in (List.mem_of_getElem? (i := 19) rfl)
theorem kw_fieldLink_As_21 : (.fieldLink R_As 21 "PhraseMoves$AskList" "numbers" "[I" : Cond) ∈ kW := kW_1_in (List.mem_of_getElem? (i := 20) rfl)
theorem kw_fieldLink_As_26 : (.fieldLink R_As 26 "PhraseMoves$AskList" "rows" "[LPhraseMoves$Row;" : Cond) ∈ kW := kW_1_in (List.mem_of_getElem? (i := 21) rfl)
theorem kw_fieldLink_As_31 : (.fieldLink R_As 31 "PhraseMoves$AskList" "size" "I" : Cond) ∈ kW := kW_1_in (List.mem_of_getElem? (i := 22) rfl)
theorem kw_fieldLink_As_35 : (.fieldLink R_As 35 "PhraseMoves$AskList" "ready" "I" : Cond) ∈ kW := kW_1_in (List.mem_of_getElem? (i := 23) rfl)
theorem kw_laysFinal_As_kinds : (.laysFinal R_As "PhraseMoves$AskList" "kinds" "[I" : Cond) ∈ kW := kW_1_in (List.mem_of_getElem? (i := 24) rfl)
theorem kw_laysFinal_As_firsts : (.laysFinal R_As "PhraseMoves$AskList" "firsts" "[I" : Cond) ∈ kW := kW_1_in (List.mem_of_getElem? (i := 25) rfl)
theorem kw_laysFinal_As_seconds : (.laysFinal R_As "PhraseMoves$AskList" "seconds" "[I" : Cond) ∈ kW := kW_1_in (List.mem_of_getElem? (i := 26) rfl)
theorem kw_laysFinal_As_numbers : (.laysFinal R_As "PhraseMoves$AskList" "numbers" "[I" : Cond) ∈ kW := kW_1_in (List.mem_of_getElem? (i := 27) rfl)
theorem kw_laysFinal_As_rows : (.laysFinal R_As "PhraseMoves$AskList" "rows" "[LPhraseMoves$Row;" : Cond) ∈ kW := kW_1_in (List.mem_of_getElem? (i := 28) rfl)
theorem kw_lays_As_size : (.lays R_As "PhraseMoves$AskList" "size" "I" : Cond) ∈ kW := kW_1_in (List.mem_of_getElem? (i := 29) rfl)
theorem kw_lays_As_ready : (.lays R_As "PhraseMoves$AskList" "ready" "I" : Cond) ∈ kW := kW_1_in (List.mem_of_getElem? (i := 30) rfl)
theorem kw_classLink_Pm_20 : (.classLink R_Pm 20 R_Ph : Cond) ∈ kW := kW_1_in (List.mem_of_getElem? (i := 31) rfl)
theorem kw_instantiable_Ph : (.instantiable R_Ph 12 : Cond) ∈ kW := kW_1_in (List.mem_of_getElem? (i := 32) rfl)
theorem kw_methodLink_Pm_22 : (.methodLink R_Pm 22 y_Ph_init : Cond) ∈ kW := kW_1_in (List.mem_of_getElem? (i := 33) rfl)
theorem kw_instanceMethod_Ph_init : (.instanceMethod y_Ph_init : Cond) ∈ kW := kW_1_in (List.mem_of_getElem? (i := 34) rfl)
theorem kw_code_Ph_init : (.code y_Ph_init b_Ph_init 1 none : Cond) ∈ kW := kW_1_in (List.mem_of_getElem? (i := 35) rfl)
theorem kw_methodLink_Ph_3 : (.methodLink R_Ph 3 objectInit : Cond) ∈ kW := kW_1_in (List.mem_of_getElem? (i := 36) rfl)
theorem kw_classLink_Ph_26 : (.classLink R_Ph 26 "[[I" : Cond) ∈ kW := kW_1_in (List.mem_of_getElem? (i := 37) rfl)
theorem kw_fieldLink_Ph_9 : (.fieldLink R_Ph 9 "PhraseMoves$Phrase" "offsets" "[I" : Cond) ∈ kW := kW_1_in (List.mem_of_getElem? (i := 38) rfl)
theorem kw_fieldLink_Ph_15 : (.fieldLink R_Ph 15 "PhraseMoves$Phrase" "sets" "[I" : Cond) ∈ kW := kW_1_in (List.mem_of_getElem? (i := 39) rfl)
theorem kw_fieldLink_Ph_18 : (.fieldLink R_Ph 18 "PhraseMoves$Phrase" "size" "I" : Cond) ∈ kW := kW_2_in (List.mem_of_getElem? (i := 0) rfl)
theorem kw_fieldLink_Ph_22 : (.fieldLink R_Ph 22 "PhraseMoves$Phrase" "settled" "Z" : Cond) ∈ kW := kW_2_in (List.mem_of_getElem? (i := 1) rfl)
theorem kw_fieldLink_Ph_28 : (.fieldLink R_Ph 28 "PhraseMoves$Phrase" "places" "[[I" : Cond) ∈ kW := kW_2_in (List.mem_of_getElem? (i := 2) rfl)
theorem kw_fieldLink_Ph_31 : (.fieldLink R_Ph 31 "PhraseMoves$Phrase" "placesOf" "[I" : Cond) ∈ kW := kW_2_in (List.mem_of_getElem? (i := 3) rfl)
theorem kw_fieldLink_Ph_34 : (.fieldLink R_Ph 34 "PhraseMoves$Phrase" "tried" "[I" : Cond) ∈ kW := kW_2_in (List.mem_of_getElem? (i := 4) rfl)
theorem kw_fieldLink_Ph_37 : (.fieldLink R_Ph 37 "PhraseMoves$Phrase" "firstChoice" "[I" : Cond) ∈ kW := kW_2_in (List.mem_of_getElem? (i := 5) rfl)
theorem kw_fieldLink_Ph_40 : (.fieldLink R_Ph 40 "PhraseMoves$Phrase" "counts" "[I" : Cond) ∈ kW := kW_2_in (List.mem_of_getElem? (i := 6) rfl)
theorem kw_fieldLink_Ph_43 : (.fieldLink R_Ph 43 "PhraseMoves$Phrase" "lowestMoved" "I" : Cond) ∈ kW := kW_2_in (List.mem_of_getElem? (i := 7) rfl)
theorem kw_fieldLink_Ph_46 : (.fieldLink R_Ph 46 "PhraseMoves$Phrase" "shortFrom" "I" : Cond) ∈ kW := kW_2_in (List.mem_of_getElem? (i := 8) rfl)
theorem kw_fieldLink_Ph_49 : (.fieldLink R_Ph 49 "PhraseMoves$Phrase" "shortTo" "I" : Cond) ∈ kW := kW_2_in (List.mem_of_getElem? (i := 9) rfl)
theorem kw_laysFinal_Ph_offsets : (.laysFinal R_Ph "PhraseMoves$Phrase" "offsets" "[I" : Cond) ∈ kW := kW_2_in (List.mem_of_getElem? (i := 10) rfl)
theorem kw_laysFinal_Ph_sets : (.laysFinal R_Ph "PhraseMoves$Phrase" "sets" "[I" : Cond) ∈ kW := kW_2_in (List.mem_of_getElem? (i := 11) rfl)
theorem kw_lays_Ph_size : (.lays R_Ph "PhraseMoves$Phrase" "size" "I" : Cond) ∈ kW := kW_2_in (List.mem_of_getElem? (i := 12) rfl)
theorem kw_lays_Ph_settled : (.lays R_Ph "PhraseMoves$Phrase" "settled" "Z" : Cond) ∈ kW := kW_2_in (List.mem_of_getElem? (i := 13) rfl)
theorem kw_laysFinal_Ph_places : (.laysFinal R_Ph "PhraseMoves$Phrase" "places" "[[I" : Cond) ∈ kW := kW_2_in (List.mem_of_getElem? (i := 14) rfl)
theorem kw_laysFinal_Ph_placesOf : (.laysFinal R_Ph "PhraseMoves$Phrase" "placesOf" "[I" : Cond) ∈ kW := kW_2_in (List.mem_of_getElem? (i := 15) rfl)
theorem kw_laysFinal_Ph_tried : (.laysFinal R_Ph "PhraseMoves$Phrase" "tried" "[I" : Cond) ∈ kW := kW_2_in (List.mem_of_getElem? (i := 16) rfl)
theorem kw_laysFinal_Ph_firstChoice : (.laysFinal R_Ph "PhraseMoves$Phrase" "firstChoice" "[I" : Cond) ∈ kW := kW_2_in (List.mem_of_getElem? (i := 17) rfl)
theorem kw_laysFinal_Ph_counts : (.laysFinal R_Ph "PhraseMoves$Phrase" "counts" "[I" : Cond) ∈ kW := kW_2_in (List.mem_of_getElem? (i := 18) rfl)
theorem kw_lays_Ph_lowestMoved : (.lays R_Ph "PhraseMoves$Phrase" "lowestMoved" "I" : Cond) ∈ kW := kW_2_in (List.mem_of_getElem? (i := 19) rfl)
theorem kw_lays_Ph_shortFrom : (.lays R_Ph "PhraseMoves$Phrase" "shortFrom" "I" : Cond) ∈ kW := kW_2_in (List.mem_of_getElem? (i := 20) rfl)
theorem kw_lays_Ph_shortTo : (.lays R_Ph "PhraseMoves$Phrase" "shortTo" "I" : Cond) ∈ kW := kW_2_in (List.mem_of_getElem? (i := 21) rfl)
theorem kw_fieldLink_Pm_9 : (.fieldLink R_Pm 9 "PhraseMoves" "text" "[I" : Cond) ∈ kW := kW_2_in (List.mem_of_getElem? (i := 22) rfl)
theorem kw_fieldLink_Pm_16 : (.fieldLink R_Pm 16 "PhraseMoves" "asks" "LPhraseMoves$AskList;" : Cond) ∈ kW := kW_2_in (List.mem_of_getElem? (i := 23) rfl)
theorem kw_fieldLink_Pm_23 : (.fieldLink R_Pm 23 "PhraseMoves" "phrase" "LPhraseMoves$Phrase;" : Cond) ∈ kW := kW_2_in (List.mem_of_getElem? (i := 24) rfl)
theorem kw_laysFinal_Pm_text : (.laysFinal R_Pm "PhraseMoves" "text" "[I" : Cond) ∈ kW := kW_2_in (List.mem_of_getElem? (i := 25) rfl)
theorem kw_laysFinal_Pm_asks : (.laysFinal R_Pm "PhraseMoves" "asks" "LPhraseMoves$AskList;" : Cond) ∈ kW := kW_2_in (List.mem_of_getElem? (i := 26) rfl)
theorem kw_laysFinal_Pm_phrase : (.laysFinal R_Pm "PhraseMoves" "phrase" "LPhraseMoves$Phrase;" : Cond) ∈ kW := kW_2_in (List.mem_of_getElem? (i := 27) rfl)
theorem kw_instanceMethod_Pm_put : (.instanceMethod y_Pm_put : Cond) ∈ kW := kW_2_in (List.mem_of_getElem? (i := 28) rfl)
theorem kw_selects_Pm_put : (.selects R_Pm y_Pm_put y_Pm_put : Cond) ∈ kW := kW_2_in (List.mem_of_getElem? (i := 29) rfl)
theorem kw_code_Pm_put : (.code y_Pm_put b_Pm_put 4 (some .int) : Cond) ∈ kW := kW_2_in (List.mem_of_getElem? (i := 30) rfl)
theorem kw_methodLink_Pm_27 : (.methodLink R_Pm 27 y_Pm_isPlace : Cond) ∈ kW := kW_2_in (List.mem_of_getElem? (i := 31) rfl)
theorem kw_static_Pm_isPlace : (.static y_Pm_isPlace : Cond) ∈ kW := kW_2_in (List.mem_of_getElem? (i := 32) rfl)
theorem kw_code_Pm_isPlace : (.code y_Pm_isPlace b_Pm_isPlace 1 (some .boolean) : Cond) ∈ kW := kW_2_in (List.mem_of_getElem? (i := 33) rfl)
theorem kw_methodLink_Pm_31 : (.methodLink R_Pm 31 y_Pm_isSet : Cond) ∈ kW := kW_2_in (List.mem_of_getElem? (i := 34) rfl)
theorem kw_static_Pm_isSet : (.static y_Pm_isSet : Cond) ∈ kW := kW_2_in (List.mem_of_getElem? (i := 35) rfl)
theorem kw_code_Pm_isSet : (.code y_Pm_isSet b_Pm_isSet 1 (some .boolean) : Cond) ∈ kW := kW_2_in (List.mem_of_getElem? (i := 36) rfl)
theorem kw_methodLink_Pm_34 : (.methodLink R_Pm 34 y_Pm_textHasChanged : Cond) ∈ kW := kW_2_in (List.mem_of_getElem? (i := 37) rfl)
theorem kw_instanceMethod_Pm_textHasChanged : (.instanceMethod y_Pm_textHasChanged : Cond) ∈ kW := kW_2_in (List.mem_of_getElem? (i := 38) rfl)
theorem kw_code_Pm_textHasChanged : (.code y_Pm_textHasChanged b_Pm_textHasChanged 1 none : Cond) ∈ kW := kW_2_in (List.mem_of_getElem? (i := 39) rfl)
theorem kw_methodLink_Pm_123 : (.methodLink R_Pm 123 y_As_outdate : Cond) ∈ kW := kW_3_in (List.mem_of_getElem? (i := 0) rfl)
theorem kw_instanceMethod_As_outdate : (.instanceMethod y_As_outdate : Cond) ∈ kW := kW_3_in (List.mem_of_getElem? (i := 1) rfl)
theorem kw_selects_As_outdate : (.selects R_As y_As_outdate y_As_outdate : Cond) ∈ kW := kW_3_in (List.mem_of_getElem? (i := 2) rfl)
theorem kw_code_As_outdate : (.code y_As_outdate b_As_outdate 1 none : Cond) ∈ kW := kW_3_in (List.mem_of_getElem? (i := 3) rfl)
theorem kw_methodLink_Pm_126 : (.methodLink R_Pm 126 y_Ph_outdate : Cond) ∈ kW := kW_3_in (List.mem_of_getElem? (i := 4) rfl)
theorem kw_instanceMethod_Ph_outdate : (.instanceMethod y_Ph_outdate : Cond) ∈ kW := kW_3_in (List.mem_of_getElem? (i := 5) rfl)
theorem kw_selects_Ph_outdate : (.selects R_Ph y_Ph_outdate y_Ph_outdate : Cond) ∈ kW := kW_3_in (List.mem_of_getElem? (i := 6) rfl)
theorem kw_code_Ph_outdate : (.code y_Ph_outdate b_Ph_outdate 1 none : Cond) ∈ kW := kW_3_in (List.mem_of_getElem? (i := 7) rfl)
theorem kw_instanceMethod_Pm_clear : (.instanceMethod y_Pm_clear : Cond) ∈ kW := kW_3_in (List.mem_of_getElem? (i := 8) rfl)
theorem kw_selects_Pm_clear : (.selects R_Pm y_Pm_clear y_Pm_clear : Cond) ∈ kW := kW_3_in (List.mem_of_getElem? (i := 9) rfl)
theorem kw_code_Pm_clear : (.code y_Pm_clear b_Pm_clear 3 (some .int) : Cond) ∈ kW := kW_3_in (List.mem_of_getElem? (i := 10) rfl)
theorem kw_instanceMethod_Pm_ask : (.instanceMethod y_Pm_ask : Cond) ∈ kW := kW_3_in (List.mem_of_getElem? (i := 11) rfl)
theorem kw_selects_Pm_ask : (.selects R_Pm y_Pm_ask y_Pm_ask : Cond) ∈ kW := kW_3_in (List.mem_of_getElem? (i := 12) rfl)
theorem kw_code_Pm_ask : (.code y_Pm_ask b_Pm_ask 5 (some .int) : Cond) ∈ kW := kW_3_in (List.mem_of_getElem? (i := 13) rfl)
theorem kw_methodLink_Pm_37 : (.methodLink R_Pm 37 y_Pm_isKind : Cond) ∈ kW := kW_3_in (List.mem_of_getElem? (i := 14) rfl)
theorem kw_static_Pm_isKind : (.static y_Pm_isKind : Cond) ∈ kW := kW_3_in (List.mem_of_getElem? (i := 15) rfl)
theorem kw_code_Pm_isKind : (.code y_Pm_isKind b_Pm_isKind 1 (some .boolean) : Cond) ∈ kW := kW_3_in (List.mem_of_getElem? (i := 16) rfl)
theorem kw_methodLink_Pm_40 : (.methodLink R_Pm 40 y_Pm_countsNumber : Cond) ∈ kW := kW_3_in (List.mem_of_getElem? (i := 17) rfl)
theorem kw_static_Pm_countsNumber : (.static y_Pm_countsNumber : Cond) ∈ kW := kW_3_in (List.mem_of_getElem? (i := 18) rfl)
theorem kw_code_Pm_countsNumber : (.code y_Pm_countsNumber b_Pm_countsNumber 1 (some .boolean) : Cond) ∈ kW := kW_3_in (List.mem_of_getElem? (i := 19) rfl)
theorem kw_methodLink_Pm_43 : (.methodLink R_Pm 43 y_Pm_isNumberOf : Cond) ∈ kW := kW_3_in (List.mem_of_getElem? (i := 20) rfl)
theorem kw_static_Pm_isNumberOf : (.static y_Pm_isNumberOf : Cond) ∈ kW := kW_3_in (List.mem_of_getElem? (i := 21) rfl)
theorem kw_code_Pm_isNumberOf : (.code y_Pm_isNumberOf b_Pm_isNumberOf 2 (some .boolean) : Cond) ∈ kW := kW_3_in (List.mem_of_getElem? (i := 22) rfl)
theorem kw_methodLink_Pm_47 : (.methodLink R_Pm 47 y_Pm_countsFirst : Cond) ∈ kW := kW_3_in (List.mem_of_getElem? (i := 23) rfl)
theorem kw_static_Pm_countsFirst : (.static y_Pm_countsFirst : Cond) ∈ kW := kW_3_in (List.mem_of_getElem? (i := 24) rfl)
theorem kw_code_Pm_countsFirst : (.code y_Pm_countsFirst b_Pm_countsFirst 1 (some .boolean) : Cond) ∈ kW := kW_3_in (List.mem_of_getElem? (i := 25) rfl)
theorem kw_methodLink_Pm_50 : (.methodLink R_Pm 50 y_As_has : Cond) ∈ kW := kW_3_in (List.mem_of_getElem? (i := 26) rfl)
theorem kw_instanceMethod_As_has : (.instanceMethod y_As_has : Cond) ∈ kW := kW_3_in (List.mem_of_getElem? (i := 27) rfl)
theorem kw_selects_As_has : (.selects R_As y_As_has y_As_has : Cond) ∈ kW := kW_3_in (List.mem_of_getElem? (i := 28) rfl)
theorem kw_code_As_has : (.code y_As_has b_As_has 2 (some .boolean) : Cond) ∈ kW := kW_3_in (List.mem_of_getElem? (i := 29) rfl)
theorem kw_methodLink_Pm_53 : (.methodLink R_Pm 53 y_Pm_countsSecond : Cond) ∈ kW := kW_3_in (List.mem_of_getElem? (i := 30) rfl)
theorem kw_static_Pm_countsSecond : (.static y_Pm_countsSecond : Cond) ∈ kW := kW_3_in (List.mem_of_getElem? (i := 31) rfl)
theorem kw_code_Pm_countsSecond : (.code y_Pm_countsSecond b_Pm_countsSecond 1 (some .boolean) : Cond) ∈ kW := kW_3_in (List.mem_of_getElem? (i := 32) rfl)
theorem kw_methodLink_Pm_56 : (.methodLink R_Pm 56 y_As_append : Cond) ∈ kW := kW_3_in (List.mem_of_getElem? (i := 33) rfl)
theorem kw_instanceMethod_As_append : (.instanceMethod y_As_append : Cond) ∈ kW := kW_3_in (List.mem_of_getElem? (i := 34) rfl)
theorem kw_selects_As_append : (.selects R_As y_As_append y_As_append : Cond) ∈ kW := kW_3_in (List.mem_of_getElem? (i := 35) rfl)
theorem kw_code_As_append : (.code y_As_append b_As_append 5 (some .int) : Cond) ∈ kW := kW_3_in (List.mem_of_getElem? (i := 36) rfl)
theorem kw_instanceMethod_Pm_forget : (.instanceMethod y_Pm_forget : Cond) ∈ kW := kW_3_in (List.mem_of_getElem? (i := 37) rfl)
theorem kw_selects_Pm_forget : (.selects R_Pm y_Pm_forget y_Pm_forget : Cond) ∈ kW := kW_3_in (List.mem_of_getElem? (i := 38) rfl)
theorem kw_code_Pm_forget : (.code y_Pm_forget b_Pm_forget 1 (some .int) : Cond) ∈ kW := kW_3_in (List.mem_of_getElem? (i := 39) rfl)
theorem kw_methodLink_Pm_60 : (.methodLink R_Pm 60 y_As_dropAll : Cond) ∈ kW := kW_4_in (List.mem_of_getElem? (i := 0) rfl)
theorem kw_instanceMethod_As_dropAll : (.instanceMethod y_As_dropAll : Cond) ∈ kW := kW_4_in (List.mem_of_getElem? (i := 1) rfl)
theorem kw_selects_As_dropAll : (.selects R_As y_As_dropAll y_As_dropAll : Cond) ∈ kW := kW_4_in (List.mem_of_getElem? (i := 2) rfl)
theorem kw_code_As_dropAll : (.code y_As_dropAll b_As_dropAll 2 (some .int) : Cond) ∈ kW := kW_4_in (List.mem_of_getElem? (i := 3) rfl)
theorem kw_instanceMethod_Pm_count : (.instanceMethod y_Pm_count : Cond) ∈ kW := kW_4_in (List.mem_of_getElem? (i := 4) rfl)
theorem kw_selects_Pm_count : (.selects R_Pm y_Pm_count y_Pm_count : Cond) ∈ kW := kW_4_in (List.mem_of_getElem? (i := 5) rfl)
theorem kw_code_Pm_count : (.code y_Pm_count b_Pm_count 2 (some .int) : Cond) ∈ kW := kW_4_in (List.mem_of_getElem? (i := 6) rfl)
theorem kw_methodLink_Pm_64 : (.methodLink R_Pm 64 y_As_rowOf : Cond) ∈ kW := kW_4_in (List.mem_of_getElem? (i := 7) rfl)
theorem kw_instanceMethod_As_rowOf : (.instanceMethod y_As_rowOf : Cond) ∈ kW := kW_4_in (List.mem_of_getElem? (i := 8) rfl)
theorem kw_selects_As_rowOf : (.selects R_As y_As_rowOf y_As_rowOf : Cond) ∈ kW := kW_4_in (List.mem_of_getElem? (i := 9) rfl)
theorem kw_code_As_rowOf : (.code y_As_rowOf b_As_rowOf 4 (some (.object "PhraseMoves$Row")) : Cond) ∈ kW := kW_4_in (List.mem_of_getElem? (i := 10) rfl)
theorem kw_methodLink_As_38 : (.methodLink R_As 38 y_As_workOut : Cond) ∈ kW := kW_4_in (List.mem_of_getElem? (i := 11) rfl)
theorem kw_instanceMethod_As_workOut : (.instanceMethod y_As_workOut : Cond) ∈ kW := kW_4_in (List.mem_of_getElem? (i := 12) rfl)
theorem kw_code_As_workOut : (.code y_As_workOut b_As_workOut 7 none : Cond) ∈ kW := kW_4_in (List.mem_of_getElem? (i := 13) rfl)
theorem kw_methodLink_As_42 : (.methodLink R_As 42 y_Ro_empty : Cond) ∈ kW := kW_4_in (List.mem_of_getElem? (i := 14) rfl)
theorem kw_instanceMethod_Ro_empty : (.instanceMethod y_Ro_empty : Cond) ∈ kW := kW_4_in (List.mem_of_getElem? (i := 15) rfl)
theorem kw_selects_Ro_empty : (.selects R_Ro y_Ro_empty y_Ro_empty : Cond) ∈ kW := kW_4_in (List.mem_of_getElem? (i := 16) rfl)
theorem kw_code_Ro_empty : (.code y_Ro_empty b_Ro_empty 1 none : Cond) ∈ kW := kW_4_in (List.mem_of_getElem? (i := 17) rfl)
theorem kw_methodLink_As_45 : (.methodLink R_As 45 y_Ro_addPlacesWith : Cond) ∈ kW := kW_4_in (List.mem_of_getElem? (i := 18) rfl)
theorem kw_instanceMethod_Ro_addPlacesWith : (.instanceMethod y_Ro_addPlacesWith : Cond) ∈ kW := kW_4_in (List.mem_of_getElem? (i := 19) rfl)
theorem kw_selects_Ro_addPlacesWith : (.selects R_Ro y_Ro_addPlacesWith y_Ro_addPlacesWith : Cond) ∈ kW := kW_4_in (List.mem_of_getElem? (i := 20) rfl)
theorem kw_code_Ro_addPlacesWith : (.code y_Ro_addPlacesWith b_Ro_addPlacesWith 4 none : Cond) ∈ kW := kW_4_in (List.mem_of_getElem? (i := 21) rfl)
theorem kw_methodLink_Ro_38 : (.methodLink R_Ro 38 y_Ro_add : Cond) ∈ kW := kW_4_in (List.mem_of_getElem? (i := 22) rfl)
theorem kw_instanceMethod_Ro_add : (.instanceMethod y_Ro_add : Cond) ∈ kW := kW_4_in (List.mem_of_getElem? (i := 23) rfl)
theorem kw_selects_Ro_add : (.selects R_Ro y_Ro_add y_Ro_add : Cond) ∈ kW := kW_4_in (List.mem_of_getElem? (i := 24) rfl)
theorem kw_code_Ro_add : (.code y_Ro_add b_Ro_add 3 none : Cond) ∈ kW := kW_4_in (List.mem_of_getElem? (i := 25) rfl)
theorem kw_methodLink_As_48 : (.methodLink R_As 48 y_Ro_addAll : Cond) ∈ kW := kW_4_in (List.mem_of_getElem? (i := 26) rfl)
theorem kw_instanceMethod_Ro_addAll : (.instanceMethod y_Ro_addAll : Cond) ∈ kW := kW_4_in (List.mem_of_getElem? (i := 27) rfl)
theorem kw_selects_Ro_addAll : (.selects R_Ro y_Ro_addAll y_Ro_addAll : Cond) ∈ kW := kW_4_in (List.mem_of_getElem? (i := 28) rfl)
theorem kw_code_Ro_addAll : (.code y_Ro_addAll b_Ro_addAll 2 none : Cond) ∈ kW := kW_4_in (List.mem_of_getElem? (i := 29) rfl)
theorem kw_methodLink_Ro_42 : (.methodLink R_Ro 42 y_Ro_addGrown : Cond) ∈ kW := kW_4_in (List.mem_of_getElem? (i := 30) rfl)
theorem kw_instanceMethod_Ro_addGrown : (.instanceMethod y_Ro_addGrown : Cond) ∈ kW := kW_4_in (List.mem_of_getElem? (i := 31) rfl)
theorem kw_selects_Ro_addGrown : (.selects R_Ro y_Ro_addGrown y_Ro_addGrown : Cond) ∈ kW := kW_4_in (List.mem_of_getElem? (i := 32) rfl)
theorem kw_code_Ro_addGrown : (.code y_Ro_addGrown b_Ro_addGrown 4 none : Cond) ∈ kW := kW_4_in (List.mem_of_getElem? (i := 33) rfl)
theorem kw_methodLink_Ro_25 : (.methodLink R_Ro 25 y_Ro_beginsAt : Cond) ∈ kW := kW_4_in (List.mem_of_getElem? (i := 34) rfl)
theorem kw_instanceMethod_Ro_beginsAt : (.instanceMethod y_Ro_beginsAt : Cond) ∈ kW := kW_4_in (List.mem_of_getElem? (i := 35) rfl)
theorem kw_selects_Ro_beginsAt : (.selects R_Ro y_Ro_beginsAt y_Ro_beginsAt : Cond) ∈ kW := kW_4_in (List.mem_of_getElem? (i := 36) rfl)
theorem kw_code_Ro_beginsAt : (.code y_Ro_beginsAt b_Ro_beginsAt 2 (some .boolean) : Cond) ∈ kW := kW_4_in (List.mem_of_getElem? (i := 37) rfl)
theorem kw_methodLink_Ro_32 : (.methodLink R_Ro 32 Lib.Math.max.name : Cond) ∈ kW := kW_4_in (List.mem_of_getElem? (i := 38) rfl)
theorem kw_static_Math_max : (.static Lib.Math.max.name : Cond) ∈ kW := kW_4_in (List.mem_of_getElem? (i := 39) rfl)
theorem kw_code_Math_max : (.code Lib.Math.max.name Lib.Math.max.code 2 (some .int) : Cond) ∈ kW := kW_5_in (List.mem_of_getElem? (i := 0) rfl)
theorem kw_methodLink_As_52 : (.methodLink R_As 52 y_Ro_addBehind : Cond) ∈ kW := kW_5_in (List.mem_of_getElem? (i := 1) rfl)
theorem kw_instanceMethod_Ro_addBehind : (.instanceMethod y_Ro_addBehind : Cond) ∈ kW := kW_5_in (List.mem_of_getElem? (i := 2) rfl)
theorem kw_selects_Ro_addBehind : (.selects R_Ro y_Ro_addBehind y_Ro_addBehind : Cond) ∈ kW := kW_5_in (List.mem_of_getElem? (i := 3) rfl)
theorem kw_code_Ro_addBehind : (.code y_Ro_addBehind b_Ro_addBehind 5 none : Cond) ∈ kW := kW_5_in (List.mem_of_getElem? (i := 4) rfl)
theorem kw_methodLink_Ro_46 : (.methodLink R_Ro 46 y_Ro_addBehindOne : Cond) ∈ kW := kW_5_in (List.mem_of_getElem? (i := 5) rfl)
theorem kw_instanceMethod_Ro_addBehindOne : (.instanceMethod y_Ro_addBehindOne : Cond) ∈ kW := kW_5_in (List.mem_of_getElem? (i := 6) rfl)
theorem kw_code_Ro_addBehindOne : (.code y_Ro_addBehindOne b_Ro_addBehindOne 6 none : Cond) ∈ kW := kW_5_in (List.mem_of_getElem? (i := 7) rfl)
theorem kw_methodLink_As_56 : (.methodLink R_As 56 y_Ro_addBoth : Cond) ∈ kW := kW_5_in (List.mem_of_getElem? (i := 8) rfl)
theorem kw_instanceMethod_Ro_addBoth : (.instanceMethod y_Ro_addBoth : Cond) ∈ kW := kW_5_in (List.mem_of_getElem? (i := 9) rfl)
theorem kw_selects_Ro_addBoth : (.selects R_Ro y_Ro_addBoth y_Ro_addBoth : Cond) ∈ kW := kW_5_in (List.mem_of_getElem? (i := 10) rfl)
theorem kw_code_Ro_addBoth : (.code y_Ro_addBoth b_Ro_addBoth 5 none : Cond) ∈ kW := kW_5_in (List.mem_of_getElem? (i := 11) rfl)
theorem kw_methodLink_Ro_50 : (.methodLink R_Ro 50 y_Ro_addBothOfOne : Cond) ∈ kW := kW_5_in (List.mem_of_getElem? (i := 12) rfl)
theorem kw_instanceMethod_Ro_addBothOfOne : (.instanceMethod y_Ro_addBothOfOne : Cond) ∈ kW := kW_5_in (List.mem_of_getElem? (i := 13) rfl)
theorem kw_code_Ro_addBothOfOne : (.code y_Ro_addBothOfOne b_Ro_addBothOfOne 8 none : Cond) ∈ kW := kW_5_in (List.mem_of_getElem? (i := 14) rfl)
theorem kw_methodLink_Ro_53 : (.methodLink R_Ro 53 Lib.Math.min.name : Cond) ∈ kW := kW_5_in (List.mem_of_getElem? (i := 15) rfl)
theorem kw_static_Math_min : (.static Lib.Math.min.name : Cond) ∈ kW := kW_5_in (List.mem_of_getElem? (i := 16) rfl)
theorem kw_code_Math_min : (.code Lib.Math.min.name Lib.Math.min.code 2 (some .int) : Cond) ∈ kW := kW_5_in (List.mem_of_getElem? (i := 17) rfl)
theorem kw_methodLink_As_59 : (.methodLink R_As 59 y_Ro_addHolding : Cond) ∈ kW := kW_5_in (List.mem_of_getElem? (i := 18) rfl)
theorem kw_instanceMethod_Ro_addHolding : (.instanceMethod y_Ro_addHolding : Cond) ∈ kW := kW_5_in (List.mem_of_getElem? (i := 19) rfl)
theorem kw_selects_Ro_addHolding : (.selects R_Ro y_Ro_addHolding y_Ro_addHolding : Cond) ∈ kW := kW_5_in (List.mem_of_getElem? (i := 20) rfl)
theorem kw_code_Ro_addHolding : (.code y_Ro_addHolding b_Ro_addHolding 4 none : Cond) ∈ kW := kW_5_in (List.mem_of_getElem? (i := 21) rfl)
theorem kw_methodLink_Ro_56 : (.methodLink R_Ro 56 y_Ro_hasWithin : Cond) ∈ kW := kW_5_in (List.mem_of_getElem? (i := 22) rfl)
theorem kw_instanceMethod_Ro_hasWithin : (.instanceMethod y_Ro_hasWithin : Cond) ∈ kW := kW_5_in (List.mem_of_getElem? (i := 23) rfl)
theorem kw_code_Ro_hasWithin : (.code y_Ro_hasWithin b_Ro_hasWithin 4 (some .boolean) : Cond) ∈ kW := kW_5_in (List.mem_of_getElem? (i := 24) rfl)
theorem kw_methodLink_As_63 : (.methodLink R_As 63 y_Ro_addIn : Cond) ∈ kW := kW_5_in (List.mem_of_getElem? (i := 25) rfl)
theorem kw_instanceMethod_Ro_addIn : (.instanceMethod y_Ro_addIn : Cond) ∈ kW := kW_5_in (List.mem_of_getElem? (i := 26) rfl)
theorem kw_selects_Ro_addIn : (.selects R_Ro y_Ro_addIn y_Ro_addIn : Cond) ∈ kW := kW_5_in (List.mem_of_getElem? (i := 27) rfl)
theorem kw_code_Ro_addIn : (.code y_Ro_addIn b_Ro_addIn 4 none : Cond) ∈ kW := kW_5_in (List.mem_of_getElem? (i := 28) rfl)
theorem kw_methodLink_Ro_60 : (.methodLink R_Ro 60 y_Ro_hasAround : Cond) ∈ kW := kW_5_in (List.mem_of_getElem? (i := 29) rfl)
theorem kw_instanceMethod_Ro_hasAround : (.instanceMethod y_Ro_hasAround : Cond) ∈ kW := kW_5_in (List.mem_of_getElem? (i := 30) rfl)
theorem kw_code_Ro_hasAround : (.code y_Ro_hasAround b_Ro_hasAround 4 (some .boolean) : Cond) ∈ kW := kW_5_in (List.mem_of_getElem? (i := 31) rfl)
theorem kw_methodLink_As_66 : (.methodLink R_As 66 y_Ro_addByNearness : Cond) ∈ kW := kW_5_in (List.mem_of_getElem? (i := 32) rfl)
theorem kw_instanceMethod_Ro_addByNearness : (.instanceMethod y_Ro_addByNearness : Cond) ∈ kW := kW_5_in (List.mem_of_getElem? (i := 33) rfl)
theorem kw_selects_Ro_addByNearness : (.selects R_Ro y_Ro_addByNearness y_Ro_addByNearness : Cond) ∈ kW := kW_5_in (List.mem_of_getElem? (i := 34) rfl)
theorem kw_code_Ro_addByNearness : (.code y_Ro_addByNearness b_Ro_addByNearness 6 none : Cond) ∈ kW := kW_5_in (List.mem_of_getElem? (i := 35) rfl)
theorem kw_methodLink_Ro_63 : (.methodLink R_Ro 63 y_Ro_hasNear : Cond) ∈ kW := kW_5_in (List.mem_of_getElem? (i := 36) rfl)
theorem kw_instanceMethod_Ro_hasNear : (.instanceMethod y_Ro_hasNear : Cond) ∈ kW := kW_5_in (List.mem_of_getElem? (i := 37) rfl)
theorem kw_code_Ro_hasNear : (.code y_Ro_hasNear b_Ro_hasNear 5 (some .boolean) : Cond) ∈ kW := kW_5_in (List.mem_of_getElem? (i := 38) rfl)
theorem kw_methodLink_As_70 : (.methodLink R_As 70 y_Ro_addEndingBefore : Cond) ∈ kW := kW_5_in (List.mem_of_getElem? (i := 39) rfl)
theorem kw_instanceMethod_Ro_addEndingBefore : (.instanceMethod y_Ro_addEndingBefore : Cond) ∈ kW := kW_6_in (List.mem_of_getElem? (i := 0) rfl)
theorem kw_selects_Ro_addEndingBefore : (.selects R_Ro y_Ro_addEndingBefore y_Ro_addEndingBefore : Cond) ∈ kW := kW_6_in (List.mem_of_getElem? (i := 1) rfl)
theorem kw_code_Ro_addEndingBefore : (.code y_Ro_addEndingBefore b_Ro_addEndingBefore 4 none : Cond) ∈ kW := kW_6_in (List.mem_of_getElem? (i := 2) rfl)
theorem kw_methodLink_As_74 : (.methodLink R_As 74 y_Ro_addGrown : Cond) ∈ kW := kW_6_in (List.mem_of_getElem? (i := 3) rfl)
theorem kw_methodLink_As_77 : (.methodLink R_As 77 y_Ro_keepLeast : Cond) ∈ kW := kW_6_in (List.mem_of_getElem? (i := 4) rfl)
theorem kw_instanceMethod_Ro_keepLeast : (.instanceMethod y_Ro_keepLeast : Cond) ∈ kW := kW_6_in (List.mem_of_getElem? (i := 5) rfl)
theorem kw_selects_Ro_keepLeast : (.selects R_Ro y_Ro_keepLeast y_Ro_keepLeast : Cond) ∈ kW := kW_6_in (List.mem_of_getElem? (i := 6) rfl)
theorem kw_code_Ro_keepLeast : (.code y_Ro_keepLeast b_Ro_keepLeast 3 none : Cond) ∈ kW := kW_6_in (List.mem_of_getElem? (i := 7) rfl)
theorem kw_methodLink_Pm_68 : (.methodLink R_Pm 68 y_Ro_size : Cond) ∈ kW := kW_6_in (List.mem_of_getElem? (i := 8) rfl)
theorem kw_instanceMethod_Ro_size : (.instanceMethod y_Ro_size : Cond) ∈ kW := kW_6_in (List.mem_of_getElem? (i := 9) rfl)
theorem kw_selects_Ro_size : (.selects R_Ro y_Ro_size y_Ro_size : Cond) ∈ kW := kW_6_in (List.mem_of_getElem? (i := 10) rfl)
theorem kw_code_Ro_size : (.code y_Ro_size b_Ro_size 3 (some .int) : Cond) ∈ kW := kW_6_in (List.mem_of_getElem? (i := 11) rfl)
theorem kw_instanceMethod_Pm_begin : (.instanceMethod y_Pm_begin : Cond) ∈ kW := kW_6_in (List.mem_of_getElem? (i := 12) rfl)
theorem kw_selects_Pm_begin : (.selects R_Pm y_Pm_begin y_Pm_begin : Cond) ∈ kW := kW_6_in (List.mem_of_getElem? (i := 13) rfl)
theorem kw_code_Pm_begin : (.code y_Pm_begin b_Pm_begin 3 (some .int) : Cond) ∈ kW := kW_6_in (List.mem_of_getElem? (i := 14) rfl)
theorem kw_methodLink_Pm_73 : (.methodLink R_Pm 73 y_Ro_beginOf : Cond) ∈ kW := kW_6_in (List.mem_of_getElem? (i := 15) rfl)
theorem kw_instanceMethod_Ro_beginOf : (.instanceMethod y_Ro_beginOf : Cond) ∈ kW := kW_6_in (List.mem_of_getElem? (i := 16) rfl)
theorem kw_selects_Ro_beginOf : (.selects R_Ro y_Ro_beginOf y_Ro_beginOf : Cond) ∈ kW := kW_6_in (List.mem_of_getElem? (i := 17) rfl)
theorem kw_code_Ro_beginOf : (.code y_Ro_beginOf b_Ro_beginOf 4 (some .int) : Cond) ∈ kW := kW_6_in (List.mem_of_getElem? (i := 18) rfl)
theorem kw_instanceMethod_Pm_end : (.instanceMethod y_Pm_end : Cond) ∈ kW := kW_6_in (List.mem_of_getElem? (i := 19) rfl)
theorem kw_selects_Pm_end : (.selects R_Pm y_Pm_end y_Pm_end : Cond) ∈ kW := kW_6_in (List.mem_of_getElem? (i := 20) rfl)
theorem kw_code_Pm_end : (.code y_Pm_end b_Pm_end 3 (some .int) : Cond) ∈ kW := kW_6_in (List.mem_of_getElem? (i := 21) rfl)
theorem kw_methodLink_Pm_77 : (.methodLink R_Pm 77 y_Ro_endOf : Cond) ∈ kW := kW_6_in (List.mem_of_getElem? (i := 22) rfl)
theorem kw_instanceMethod_Ro_endOf : (.instanceMethod y_Ro_endOf : Cond) ∈ kW := kW_6_in (List.mem_of_getElem? (i := 23) rfl)
theorem kw_selects_Ro_endOf : (.selects R_Ro y_Ro_endOf y_Ro_endOf : Cond) ∈ kW := kW_6_in (List.mem_of_getElem? (i := 24) rfl)
theorem kw_code_Ro_endOf : (.code y_Ro_endOf b_Ro_endOf 3 (some .int) : Cond) ∈ kW := kW_6_in (List.mem_of_getElem? (i := 25) rfl)
theorem kw_methodLink_Ro_28 : (.methodLink R_Ro 28 y_Ro_beginOf : Cond) ∈ kW := kW_6_in (List.mem_of_getElem? (i := 26) rfl)
theorem kw_instanceMethod_Pm_covered : (.instanceMethod y_Pm_covered : Cond) ∈ kW := kW_6_in (List.mem_of_getElem? (i := 27) rfl)
theorem kw_selects_Pm_covered : (.selects R_Pm y_Pm_covered y_Pm_covered : Cond) ∈ kW := kW_6_in (List.mem_of_getElem? (i := 28) rfl)
theorem kw_code_Pm_covered : (.code y_Pm_covered b_Pm_covered 2 (some .int) : Cond) ∈ kW := kW_6_in (List.mem_of_getElem? (i := 29) rfl)
theorem kw_methodLink_Pm_80 : (.methodLink R_Pm 80 y_Ro_placesCovered : Cond) ∈ kW := kW_6_in (List.mem_of_getElem? (i := 30) rfl)
theorem kw_instanceMethod_Ro_placesCovered : (.instanceMethod y_Ro_placesCovered : Cond) ∈ kW := kW_6_in (List.mem_of_getElem? (i := 31) rfl)
theorem kw_selects_Ro_placesCovered : (.selects R_Ro y_Ro_placesCovered y_Ro_placesCovered : Cond) ∈ kW := kW_6_in (List.mem_of_getElem? (i := 32) rfl)
theorem kw_code_Ro_placesCovered : (.code y_Ro_placesCovered b_Ro_placesCovered 4 (some .int) : Cond) ∈ kW := kW_6_in (List.mem_of_getElem? (i := 33) rfl)
theorem kw_instanceMethod_Pm_slot : (.instanceMethod y_Pm_slot : Cond) ∈ kW := kW_6_in (List.mem_of_getElem? (i := 34) rfl)
theorem kw_selects_Pm_slot : (.selects R_Pm y_Pm_slot y_Pm_slot : Cond) ∈ kW := kW_6_in (List.mem_of_getElem? (i := 35) rfl)
theorem kw_code_Pm_slot : (.code y_Pm_slot b_Pm_slot 3 (some .int) : Cond) ∈ kW := kW_6_in (List.mem_of_getElem? (i := 36) rfl)
theorem kw_methodLink_Pm_83 : (.methodLink R_Pm 83 y_Ph_append : Cond) ∈ kW := kW_6_in (List.mem_of_getElem? (i := 37) rfl)
theorem kw_instanceMethod_Ph_append : (.instanceMethod y_Ph_append : Cond) ∈ kW := kW_6_in (List.mem_of_getElem? (i := 38) rfl)
theorem kw_selects_Ph_append : (.selects R_Ph y_Ph_append y_Ph_append : Cond) ∈ kW := kW_6_in (List.mem_of_getElem? (i := 39) rfl)
theorem kw_code_Ph_append : (.code y_Ph_append b_Ph_append 3 (some .int) : Cond) ∈ kW := kW_7_in (List.mem_of_getElem? (i := 0) rfl)
theorem kw_methodLink_Ph_52 : (.methodLink R_Ph 52 y_Ph_outdate : Cond) ∈ kW := kW_7_in (List.mem_of_getElem? (i := 1) rfl)
theorem kw_instanceMethod_Pm_unslot : (.instanceMethod y_Pm_unslot : Cond) ∈ kW := kW_7_in (List.mem_of_getElem? (i := 2) rfl)
theorem kw_selects_Pm_unslot : (.selects R_Pm y_Pm_unslot y_Pm_unslot : Cond) ∈ kW := kW_7_in (List.mem_of_getElem? (i := 3) rfl)
theorem kw_code_Pm_unslot : (.code y_Pm_unslot b_Pm_unslot 1 (some .int) : Cond) ∈ kW := kW_7_in (List.mem_of_getElem? (i := 4) rfl)
theorem kw_methodLink_Pm_86 : (.methodLink R_Pm 86 y_Ph_dropAll : Cond) ∈ kW := kW_7_in (List.mem_of_getElem? (i := 5) rfl)
theorem kw_instanceMethod_Ph_dropAll : (.instanceMethod y_Ph_dropAll : Cond) ∈ kW := kW_7_in (List.mem_of_getElem? (i := 6) rfl)
theorem kw_selects_Ph_dropAll : (.selects R_Ph y_Ph_dropAll y_Ph_dropAll : Cond) ∈ kW := kW_7_in (List.mem_of_getElem? (i := 7) rfl)
theorem kw_code_Ph_dropAll : (.code y_Ph_dropAll b_Ph_dropAll 2 (some .int) : Cond) ∈ kW := kW_7_in (List.mem_of_getElem? (i := 8) rfl)
theorem kw_instanceMethod_Pm_matches : (.instanceMethod y_Pm_matches : Cond) ∈ kW := kW_7_in (List.mem_of_getElem? (i := 9) rfl)
theorem kw_selects_Pm_matches : (.selects R_Pm y_Pm_matches y_Pm_matches : Cond) ∈ kW := kW_7_in (List.mem_of_getElem? (i := 10) rfl)
theorem kw_code_Pm_matches : (.code y_Pm_matches b_Pm_matches 2 (some .int) : Cond) ∈ kW := kW_7_in (List.mem_of_getElem? (i := 11) rfl)
theorem kw_methodLink_Pm_87 : (.methodLink R_Pm 87 y_Pm_isSlop : Cond) ∈ kW := kW_7_in (List.mem_of_getElem? (i := 12) rfl)
theorem kw_static_Pm_isSlop : (.static y_Pm_isSlop : Cond) ∈ kW := kW_7_in (List.mem_of_getElem? (i := 13) rfl)
theorem kw_code_Pm_isSlop : (.code y_Pm_isSlop b_Pm_isSlop 1 (some .boolean) : Cond) ∈ kW := kW_7_in (List.mem_of_getElem? (i := 14) rfl)
theorem kw_methodLink_Pm_90 : (.methodLink R_Pm 90 y_Ph_settle : Cond) ∈ kW := kW_7_in (List.mem_of_getElem? (i := 15) rfl)
theorem kw_instanceMethod_Ph_settle : (.instanceMethod y_Ph_settle : Cond) ∈ kW := kW_7_in (List.mem_of_getElem? (i := 16) rfl)
theorem kw_selects_Ph_settle : (.selects R_Ph y_Ph_settle y_Ph_settle : Cond) ∈ kW := kW_7_in (List.mem_of_getElem? (i := 17) rfl)
theorem kw_code_Ph_settle : (.code y_Ph_settle b_Ph_settle 2 none : Cond) ∈ kW := kW_7_in (List.mem_of_getElem? (i := 18) rfl)
theorem kw_methodLink_Ph_61 : (.methodLink R_Ph 61 y_Ja_fill : Cond) ∈ kW := kW_7_in (List.mem_of_getElem? (i := 19) rfl)
theorem kw_methodLink_Ph_67 : (.methodLink R_Ph 67 y_Ph_findPlaces : Cond) ∈ kW := kW_7_in (List.mem_of_getElem? (i := 20) rfl)
theorem kw_instanceMethod_Ph_findPlaces : (.instanceMethod y_Ph_findPlaces : Cond) ∈ kW := kW_7_in (List.mem_of_getElem? (i := 21) rfl)
theorem kw_code_Ph_findPlaces : (.code y_Ph_findPlaces b_Ph_findPlaces 5 none : Cond) ∈ kW := kW_7_in (List.mem_of_getElem? (i := 22) rfl)
theorem kw_methodLink_Ph_71 : (.methodLink R_Ph 71 y_Ph_searchMoved : Cond) ∈ kW := kW_7_in (List.mem_of_getElem? (i := 23) rfl)
theorem kw_instanceMethod_Ph_searchMoved : (.instanceMethod y_Ph_searchMoved : Cond) ∈ kW := kW_7_in (List.mem_of_getElem? (i := 24) rfl)
theorem kw_code_Ph_searchMoved : (.code y_Ph_searchMoved b_Ph_searchMoved 10 none : Cond) ∈ kW := kW_7_in (List.mem_of_getElem? (i := 25) rfl)
theorem kw_methodLink_Ph_79 : (.methodLink R_Ph 79 y_Ph_noteChoice : Cond) ∈ kW := kW_7_in (List.mem_of_getElem? (i := 26) rfl)
theorem kw_instanceMethod_Ph_noteChoice : (.instanceMethod y_Ph_noteChoice : Cond) ∈ kW := kW_7_in (List.mem_of_getElem? (i := 27) rfl)
theorem kw_code_Ph_noteChoice : (.code y_Ph_noteChoice b_Ph_noteChoice 2 none : Cond) ∈ kW := kW_7_in (List.mem_of_getElem? (i := 28) rfl)
theorem kw_methodLink_Ph_100 : (.methodLink R_Ph 100 arraycopyName : Cond) ∈ kW := kW_7_in (List.mem_of_getElem? (i := 29) rfl)
theorem kw_static_System_arraycopy : (.static arraycopyName : Cond) ∈ kW := kW_7_in (List.mem_of_getElem? (i := 30) rfl)
theorem kw_native_System_arraycopy : (.native arraycopyName : Cond) ∈ kW := kW_7_in (List.mem_of_getElem? (i := 31) rfl)
theorem kw_methodLink_Ph_83 : (.methodLink R_Ph 83 Lib.Math.min.name : Cond) ∈ kW := kW_7_in (List.mem_of_getElem? (i := 32) rfl)
theorem kw_methodLink_Ph_89 : (.methodLink R_Ph 89 Lib.Math.max.name : Cond) ∈ kW := kW_7_in (List.mem_of_getElem? (i := 33) rfl)
theorem kw_methodLink_Ph_92 : (.methodLink R_Ph 92 Lib.Math.abs.name : Cond) ∈ kW := kW_7_in (List.mem_of_getElem? (i := 34) rfl)
theorem kw_static_Math_abs : (.static Lib.Math.abs.name : Cond) ∈ kW := kW_7_in (List.mem_of_getElem? (i := 35) rfl)
theorem kw_code_Math_abs : (.code Lib.Math.abs.name Lib.Math.abs.code 1 (some .int) : Cond) ∈ kW := kW_7_in (List.mem_of_getElem? (i := 36) rfl)
theorem kw_methodLink_Ph_96 : (.methodLink R_Ph 96 y_Ph_isFree : Cond) ∈ kW := kW_7_in (List.mem_of_getElem? (i := 37) rfl)
theorem kw_instanceMethod_Ph_isFree : (.instanceMethod y_Ph_isFree : Cond) ∈ kW := kW_7_in (List.mem_of_getElem? (i := 38) rfl)
theorem kw_code_Ph_isFree : (.code y_Ph_isFree b_Ph_isFree 4 (some .boolean) : Cond) ∈ kW := kW_7_in (List.mem_of_getElem? (i := 39) rfl)
theorem kw_methodLink_Ph_75 : (.methodLink R_Ph 75 y_Ph_searchShortest : Cond) ∈ kW := kW_8_in (List.mem_of_getElem? (i := 0) rfl)
theorem kw_instanceMethod_Ph_searchShortest : (.instanceMethod y_Ph_searchShortest : Cond) ∈ kW := kW_8_in (List.mem_of_getElem? (i := 1) rfl)
theorem kw_code_Ph_searchShortest : (.code y_Ph_searchShortest b_Ph_searchShortest 8 none : Cond) ∈ kW := kW_8_in (List.mem_of_getElem? (i := 2) rfl)
theorem kw_methodLink_Ph_106 : (.methodLink R_Ph 106 y_Ph_isShorter : Cond) ∈ kW := kW_8_in (List.mem_of_getElem? (i := 3) rfl)
theorem kw_instanceMethod_Ph_isShorter : (.instanceMethod y_Ph_isShorter : Cond) ∈ kW := kW_8_in (List.mem_of_getElem? (i := 4) rfl)
theorem kw_code_Ph_isShorter : (.code y_Ph_isShorter b_Ph_isShorter 5 (some .boolean) : Cond) ∈ kW := kW_8_in (List.mem_of_getElem? (i := 5) rfl)
theorem kw_methodLink_Pm_94 : (.methodLink R_Pm 94 y_Ph_choicesUpTo : Cond) ∈ kW := kW_8_in (List.mem_of_getElem? (i := 6) rfl)
theorem kw_instanceMethod_Ph_choicesUpTo : (.instanceMethod y_Ph_choicesUpTo : Cond) ∈ kW := kW_8_in (List.mem_of_getElem? (i := 7) rfl)
theorem kw_selects_Ph_choicesUpTo : (.selects R_Ph y_Ph_choicesUpTo y_Ph_choicesUpTo : Cond) ∈ kW := kW_8_in (List.mem_of_getElem? (i := 8) rfl)
theorem kw_code_Ph_choicesUpTo : (.code y_Ph_choicesUpTo b_Ph_choicesUpTo 4 (some .int) : Cond) ∈ kW := kW_8_in (List.mem_of_getElem? (i := 9) rfl)
theorem kw_instanceMethod_Pm_weight : (.instanceMethod y_Pm_weight : Cond) ∈ kW := kW_8_in (List.mem_of_getElem? (i := 10) rfl)
theorem kw_selects_Pm_weight : (.selects R_Pm y_Pm_weight y_Pm_weight : Cond) ∈ kW := kW_8_in (List.mem_of_getElem? (i := 11) rfl)
theorem kw_code_Pm_weight : (.code y_Pm_weight b_Pm_weight 2 (some .long) : Cond) ∈ kW := kW_8_in (List.mem_of_getElem? (i := 12) rfl)
theorem kw_constantLong_Pm_97 : (.constantLong R_Pm 97 (-2) : Cond) ∈ kW := kW_8_in (List.mem_of_getElem? (i := 13) rfl)
theorem kw_methodLink_Pm_99 : (.methodLink R_Pm 99 y_Ph_weightUpTo : Cond) ∈ kW := kW_8_in (List.mem_of_getElem? (i := 14) rfl)
theorem kw_instanceMethod_Ph_weightUpTo : (.instanceMethod y_Ph_weightUpTo : Cond) ∈ kW := kW_8_in (List.mem_of_getElem? (i := 15) rfl)
theorem kw_selects_Ph_weightUpTo : (.selects R_Ph y_Ph_weightUpTo y_Ph_weightUpTo : Cond) ∈ kW := kW_8_in (List.mem_of_getElem? (i := 16) rfl)
theorem kw_code_Ph_weightUpTo : (.code y_Ph_weightUpTo b_Ph_weightUpTo 5 (some .long) : Cond) ∈ kW := kW_8_in (List.mem_of_getElem? (i := 17) rfl)
theorem kw_constantLong_Ph_59 : (.constantLong R_Ph 59 (2520) : Cond) ∈ kW := kW_8_in (List.mem_of_getElem? (i := 18) rfl)
theorem kw_instanceMethod_Pm_least : (.instanceMethod y_Pm_least : Cond) ∈ kW := kW_8_in (List.mem_of_getElem? (i := 19) rfl)
theorem kw_selects_Pm_least : (.selects R_Pm y_Pm_least y_Pm_least : Cond) ∈ kW := kW_8_in (List.mem_of_getElem? (i := 20) rfl)
theorem kw_code_Pm_least : (.code y_Pm_least b_Pm_least 1 (some .int) : Cond) ∈ kW := kW_8_in (List.mem_of_getElem? (i := 21) rfl)
theorem kw_methodLink_Pm_103 : (.methodLink R_Pm 103 y_Ph_hasChoice : Cond) ∈ kW := kW_8_in (List.mem_of_getElem? (i := 22) rfl)
theorem kw_instanceMethod_Ph_hasChoice : (.instanceMethod y_Ph_hasChoice : Cond) ∈ kW := kW_8_in (List.mem_of_getElem? (i := 23) rfl)
theorem kw_selects_Ph_hasChoice : (.selects R_Ph y_Ph_hasChoice y_Ph_hasChoice : Cond) ∈ kW := kW_8_in (List.mem_of_getElem? (i := 24) rfl)
theorem kw_code_Ph_hasChoice : (.code y_Ph_hasChoice b_Ph_hasChoice 1 (some .boolean) : Cond) ∈ kW := kW_8_in (List.mem_of_getElem? (i := 25) rfl)
theorem kw_methodLink_Pm_107 : (.methodLink R_Pm 107 y_Ph_leastMoved : Cond) ∈ kW := kW_8_in (List.mem_of_getElem? (i := 26) rfl)
theorem kw_instanceMethod_Ph_leastMoved : (.instanceMethod y_Ph_leastMoved : Cond) ∈ kW := kW_8_in (List.mem_of_getElem? (i := 27) rfl)
theorem kw_selects_Ph_leastMoved : (.selects R_Ph y_Ph_leastMoved y_Ph_leastMoved : Cond) ∈ kW := kW_8_in (List.mem_of_getElem? (i := 28) rfl)
theorem kw_code_Ph_leastMoved : (.code y_Ph_leastMoved b_Ph_leastMoved 1 (some .int) : Cond) ∈ kW := kW_8_in (List.mem_of_getElem? (i := 29) rfl)
theorem kw_instanceMethod_Pm_chosen : (.instanceMethod y_Pm_chosen : Cond) ∈ kW := kW_8_in (List.mem_of_getElem? (i := 30) rfl)
theorem kw_selects_Pm_chosen : (.selects R_Pm y_Pm_chosen y_Pm_chosen : Cond) ∈ kW := kW_8_in (List.mem_of_getElem? (i := 31) rfl)
theorem kw_code_Pm_chosen : (.code y_Pm_chosen b_Pm_chosen 2 (some .int) : Cond) ∈ kW := kW_8_in (List.mem_of_getElem? (i := 32) rfl)
theorem kw_methodLink_Pm_110 : (.methodLink R_Pm 110 y_Ph_has : Cond) ∈ kW := kW_8_in (List.mem_of_getElem? (i := 33) rfl)
theorem kw_instanceMethod_Ph_has : (.instanceMethod y_Ph_has : Cond) ∈ kW := kW_8_in (List.mem_of_getElem? (i := 34) rfl)
theorem kw_selects_Ph_has : (.selects R_Ph y_Ph_has y_Ph_has : Cond) ∈ kW := kW_8_in (List.mem_of_getElem? (i := 35) rfl)
theorem kw_code_Ph_has : (.code y_Ph_has b_Ph_has 2 (some .boolean) : Cond) ∈ kW := kW_8_in (List.mem_of_getElem? (i := 36) rfl)
theorem kw_methodLink_Pm_111 : (.methodLink R_Pm 111 y_Ph_placeInFirst : Cond) ∈ kW := kW_8_in (List.mem_of_getElem? (i := 37) rfl)
theorem kw_instanceMethod_Ph_placeInFirst : (.instanceMethod y_Ph_placeInFirst : Cond) ∈ kW := kW_8_in (List.mem_of_getElem? (i := 38) rfl)
theorem kw_selects_Ph_placeInFirst : (.selects R_Ph y_Ph_placeInFirst y_Ph_placeInFirst : Cond) ∈ kW := kW_8_in (List.mem_of_getElem? (i := 39) rfl)
theorem kw_code_Ph_placeInFirst : (.code y_Ph_placeInFirst b_Ph_placeInFirst 2 (some .int) : Cond) ∈ kW := kW_9_in (List.mem_of_getElem? (i := 0) rfl)
theorem kw_methodLink_Ph_55 : (.methodLink R_Ph 55 y_Ph_has : Cond) ∈ kW := kW_9_in (List.mem_of_getElem? (i := 1) rfl)
theorem kw_instanceMethod_Pm_ties : (.instanceMethod y_Pm_ties : Cond) ∈ kW := kW_9_in (List.mem_of_getElem? (i := 2) rfl)
theorem kw_selects_Pm_ties : (.selects R_Pm y_Pm_ties y_Pm_ties : Cond) ∈ kW := kW_9_in (List.mem_of_getElem? (i := 3) rfl)
theorem kw_code_Pm_ties : (.code y_Pm_ties b_Pm_ties 1 (some .int) : Cond) ∈ kW := kW_9_in (List.mem_of_getElem? (i := 4) rfl)
theorem kw_methodLink_Pm_114 : (.methodLink R_Pm 114 y_Ph_choicesMovedBy : Cond) ∈ kW := kW_9_in (List.mem_of_getElem? (i := 5) rfl)
theorem kw_instanceMethod_Ph_choicesMovedBy : (.instanceMethod y_Ph_choicesMovedBy : Cond) ∈ kW := kW_9_in (List.mem_of_getElem? (i := 6) rfl)
theorem kw_selects_Ph_choicesMovedBy : (.selects R_Ph y_Ph_choicesMovedBy y_Ph_choicesMovedBy : Cond) ∈ kW := kW_9_in (List.mem_of_getElem? (i := 7) rfl)
theorem kw_code_Ph_choicesMovedBy : (.code y_Ph_choicesMovedBy b_Ph_choicesMovedBy 2 (some .int) : Cond) ∈ kW := kW_9_in (List.mem_of_getElem? (i := 8) rfl)
theorem kw_instanceMethod_Pm_shortest : (.instanceMethod y_Pm_shortest : Cond) ∈ kW := kW_9_in (List.mem_of_getElem? (i := 9) rfl)
theorem kw_selects_Pm_shortest : (.selects R_Pm y_Pm_shortest y_Pm_shortest : Cond) ∈ kW := kW_9_in (List.mem_of_getElem? (i := 10) rfl)
theorem kw_code_Pm_shortest : (.code y_Pm_shortest b_Pm_shortest 2 (some .int) : Cond) ∈ kW := kW_9_in (List.mem_of_getElem? (i := 11) rfl)
theorem kw_methodLink_Pm_117 : (.methodLink R_Pm 117 y_Ph_shortestBegin : Cond) ∈ kW := kW_9_in (List.mem_of_getElem? (i := 12) rfl)
theorem kw_instanceMethod_Ph_shortestBegin : (.instanceMethod y_Ph_shortestBegin : Cond) ∈ kW := kW_9_in (List.mem_of_getElem? (i := 13) rfl)
theorem kw_selects_Ph_shortestBegin : (.selects R_Ph y_Ph_shortestBegin y_Ph_shortestBegin : Cond) ∈ kW := kW_9_in (List.mem_of_getElem? (i := 14) rfl)
theorem kw_code_Ph_shortestBegin : (.code y_Ph_shortestBegin b_Ph_shortestBegin 1 (some .int) : Cond) ∈ kW := kW_9_in (List.mem_of_getElem? (i := 15) rfl)
theorem kw_methodLink_Pm_120 : (.methodLink R_Pm 120 y_Ph_shortestEnd : Cond) ∈ kW := kW_9_in (List.mem_of_getElem? (i := 16) rfl)
theorem kw_instanceMethod_Ph_shortestEnd : (.instanceMethod y_Ph_shortestEnd : Cond) ∈ kW := kW_9_in (List.mem_of_getElem? (i := 17) rfl)
theorem kw_selects_Ph_shortestEnd : (.selects R_Ph y_Ph_shortestEnd y_Ph_shortestEnd : Cond) ∈ kW := kW_9_in (List.mem_of_getElem? (i := 18) rfl)
theorem kw_code_Ph_shortestEnd : (.code y_Ph_shortestEnd b_Ph_shortestEnd 1 (some .int) : Cond) ∈ kW := kW_9_in (List.mem_of_getElem? (i := 19) rfl)
theorem kw_instantiable_Mo : (.instantiable R_Mo 19 : Cond) ∈ kW := kW_9_in (List.mem_of_getElem? (i := 20) rfl)
theorem kw_instanceMethod_Mo_init : (.instanceMethod y_Mo_init : Cond) ∈ kW := kW_9_in (List.mem_of_getElem? (i := 21) rfl)
theorem kw_code_Mo_init : (.code y_Mo_init b_Mo_init 1 none : Cond) ∈ kW := kW_9_in (List.mem_of_getElem? (i := 22) rfl)
theorem kw_methodLink_Mo_1 : (.methodLink R_Mo 1 objectInit : Cond) ∈ kW := kW_9_in (List.mem_of_getElem? (i := 23) rfl)
theorem kw_fieldLink_Mo_7 : (.fieldLink R_Mo 7 "PhraseMovesModel" "text" "[I" : Cond) ∈ kW := kW_9_in (List.mem_of_getElem? (i := 24) rfl)
theorem kw_fieldLink_Mo_57 : (.fieldLink R_Mo 57 "PhraseMovesModel" "asks" "I" : Cond) ∈ kW := kW_9_in (List.mem_of_getElem? (i := 25) rfl)
theorem kw_fieldLink_Mo_13 : (.fieldLink R_Mo 13 "PhraseMovesModel" "kinds" "[I" : Cond) ∈ kW := kW_9_in (List.mem_of_getElem? (i := 26) rfl)
theorem kw_fieldLink_Mo_16 : (.fieldLink R_Mo 16 "PhraseMovesModel" "one" "[I" : Cond) ∈ kW := kW_9_in (List.mem_of_getElem? (i := 27) rfl)
theorem kw_fieldLink_Mo_19 : (.fieldLink R_Mo 19 "PhraseMovesModel" "other" "[I" : Cond) ∈ kW := kW_9_in (List.mem_of_getElem? (i := 28) rfl)
theorem kw_fieldLink_Mo_22 : (.fieldLink R_Mo 22 "PhraseMovesModel" "number" "[I" : Cond) ∈ kW := kW_9_in (List.mem_of_getElem? (i := 29) rfl)
theorem kw_fieldLink_Mo_95 : (.fieldLink R_Mo 95 "PhraseMovesModel" "slots" "I" : Cond) ∈ kW := kW_9_in (List.mem_of_getElem? (i := 30) rfl)
theorem kw_fieldLink_Mo_25 : (.fieldLink R_Mo 25 "PhraseMovesModel" "offsets" "[I" : Cond) ∈ kW := kW_9_in (List.mem_of_getElem? (i := 31) rfl)
theorem kw_fieldLink_Mo_28 : (.fieldLink R_Mo 28 "PhraseMovesModel" "sets" "[I" : Cond) ∈ kW := kW_9_in (List.mem_of_getElem? (i := 32) rfl)
theorem kw_fieldLink_Mo_53 : (.fieldLink R_Mo 53 "PhraseMovesModel" "known" "Z" : Cond) ∈ kW := kW_9_in (List.mem_of_getElem? (i := 33) rfl)
theorem kw_fieldLink_Mo_31 : (.fieldLink R_Mo 31 "PhraseMovesModel" "ends" "[I" : Cond) ∈ kW := kW_9_in (List.mem_of_getElem? (i := 34) rfl)
theorem kw_fieldLink_Mo_34 : (.fieldLink R_Mo 34 "PhraseMovesModel" "under" "[I" : Cond) ∈ kW := kW_9_in (List.mem_of_getElem? (i := 35) rfl)
theorem kw_fieldLink_Mo_37 : (.fieldLink R_Mo 37 "PhraseMovesModel" "many" "[I" : Cond) ∈ kW := kW_9_in (List.mem_of_getElem? (i := 36) rfl)
theorem kw_fieldLink_Mo_103 : (.fieldLink R_Mo 103 "PhraseMovesModel" "choices" "I" : Cond) ∈ kW := kW_9_in (List.mem_of_getElem? (i := 37) rfl)
theorem kw_fieldLink_Mo_106 : (.fieldLink R_Mo 106 "PhraseMovesModel" "least" "I" : Cond) ∈ kW := kW_9_in (List.mem_of_getElem? (i := 38) rfl)
theorem kw_fieldLink_Mo_40 : (.fieldLink R_Mo 40 "PhraseMovesModel" "first" "[I" : Cond) ∈ kW := kW_9_in (List.mem_of_getElem? (i := 39) rfl)
theorem kw_fieldLink_Mo_112 : (.fieldLink R_Mo 112 "PhraseMovesModel" "shortFrom" "I" : Cond) ∈ kW := kW_10_in (List.mem_of_getElem? (i := 0) rfl)
theorem kw_fieldLink_Mo_109 : (.fieldLink R_Mo 109 "PhraseMovesModel" "shortTo" "I" : Cond) ∈ kW := kW_10_in (List.mem_of_getElem? (i := 1) rfl)
theorem kw_fieldLink_Mo_43 : (.fieldLink R_Mo 43 "PhraseMovesModel" "places" "[I" : Cond) ∈ kW := kW_10_in (List.mem_of_getElem? (i := 2) rfl)
theorem kw_laysFinal_Mo_text : (.laysFinal R_Mo "PhraseMovesModel" "text" "[I" : Cond) ∈ kW := kW_10_in (List.mem_of_getElem? (i := 3) rfl)
theorem kw_lays_Mo_asks : (.lays R_Mo "PhraseMovesModel" "asks" "I" : Cond) ∈ kW := kW_10_in (List.mem_of_getElem? (i := 4) rfl)
theorem kw_laysFinal_Mo_kinds : (.laysFinal R_Mo "PhraseMovesModel" "kinds" "[I" : Cond) ∈ kW := kW_10_in (List.mem_of_getElem? (i := 5) rfl)
theorem kw_laysFinal_Mo_one : (.laysFinal R_Mo "PhraseMovesModel" "one" "[I" : Cond) ∈ kW := kW_10_in (List.mem_of_getElem? (i := 6) rfl)
theorem kw_laysFinal_Mo_other : (.laysFinal R_Mo "PhraseMovesModel" "other" "[I" : Cond) ∈ kW := kW_10_in (List.mem_of_getElem? (i := 7) rfl)
theorem kw_laysFinal_Mo_number : (.laysFinal R_Mo "PhraseMovesModel" "number" "[I" : Cond) ∈ kW := kW_10_in (List.mem_of_getElem? (i := 8) rfl)
theorem kw_lays_Mo_slots : (.lays R_Mo "PhraseMovesModel" "slots" "I" : Cond) ∈ kW := kW_10_in (List.mem_of_getElem? (i := 9) rfl)
theorem kw_laysFinal_Mo_offsets : (.laysFinal R_Mo "PhraseMovesModel" "offsets" "[I" : Cond) ∈ kW := kW_10_in (List.mem_of_getElem? (i := 10) rfl)
theorem kw_laysFinal_Mo_sets : (.laysFinal R_Mo "PhraseMovesModel" "sets" "[I" : Cond) ∈ kW := kW_10_in (List.mem_of_getElem? (i := 11) rfl)
theorem kw_lays_Mo_known : (.lays R_Mo "PhraseMovesModel" "known" "Z" : Cond) ∈ kW := kW_10_in (List.mem_of_getElem? (i := 12) rfl)
theorem kw_laysFinal_Mo_ends : (.laysFinal R_Mo "PhraseMovesModel" "ends" "[I" : Cond) ∈ kW := kW_10_in (List.mem_of_getElem? (i := 13) rfl)
theorem kw_laysFinal_Mo_under : (.laysFinal R_Mo "PhraseMovesModel" "under" "[I" : Cond) ∈ kW := kW_10_in (List.mem_of_getElem? (i := 14) rfl)
theorem kw_laysFinal_Mo_many : (.laysFinal R_Mo "PhraseMovesModel" "many" "[I" : Cond) ∈ kW := kW_10_in (List.mem_of_getElem? (i := 15) rfl)
theorem kw_lays_Mo_choices : (.lays R_Mo "PhraseMovesModel" "choices" "I" : Cond) ∈ kW := kW_10_in (List.mem_of_getElem? (i := 16) rfl)
theorem kw_lays_Mo_least : (.lays R_Mo "PhraseMovesModel" "least" "I" : Cond) ∈ kW := kW_10_in (List.mem_of_getElem? (i := 17) rfl)
theorem kw_laysFinal_Mo_first : (.laysFinal R_Mo "PhraseMovesModel" "first" "[I" : Cond) ∈ kW := kW_10_in (List.mem_of_getElem? (i := 18) rfl)
theorem kw_lays_Mo_shortFrom : (.lays R_Mo "PhraseMovesModel" "shortFrom" "I" : Cond) ∈ kW := kW_10_in (List.mem_of_getElem? (i := 19) rfl)
theorem kw_lays_Mo_shortTo : (.lays R_Mo "PhraseMovesModel" "shortTo" "I" : Cond) ∈ kW := kW_10_in (List.mem_of_getElem? (i := 20) rfl)
theorem kw_laysFinal_Mo_places : (.laysFinal R_Mo "PhraseMovesModel" "places" "[I" : Cond) ∈ kW := kW_10_in (List.mem_of_getElem? (i := 21) rfl)
theorem kw_instanceMethod_Mo_put : (.instanceMethod y_Mo_put : Cond) ∈ kW := kW_10_in (List.mem_of_getElem? (i := 22) rfl)
theorem kw_selects_Mo_put : (.selects R_Mo y_Mo_put y_Mo_put : Cond) ∈ kW := kW_10_in (List.mem_of_getElem? (i := 23) rfl)
theorem kw_code_Mo_put : (.code y_Mo_put b_Mo_put 4 (some .int) : Cond) ∈ kW := kW_10_in (List.mem_of_getElem? (i := 24) rfl)
theorem kw_methodLink_Mo_46 : (.methodLink R_Mo 46 y_Mo_isPlace : Cond) ∈ kW := kW_10_in (List.mem_of_getElem? (i := 25) rfl)
theorem kw_static_Mo_isPlace : (.static y_Mo_isPlace : Cond) ∈ kW := kW_10_in (List.mem_of_getElem? (i := 26) rfl)
theorem kw_code_Mo_isPlace : (.code y_Mo_isPlace b_Mo_isPlace 1 (some .boolean) : Cond) ∈ kW := kW_10_in (List.mem_of_getElem? (i := 27) rfl)
theorem kw_methodLink_Mo_50 : (.methodLink R_Mo 50 y_Mo_isSet : Cond) ∈ kW := kW_10_in (List.mem_of_getElem? (i := 28) rfl)
theorem kw_static_Mo_isSet : (.static y_Mo_isSet : Cond) ∈ kW := kW_10_in (List.mem_of_getElem? (i := 29) rfl)
theorem kw_code_Mo_isSet : (.code y_Mo_isSet b_Mo_isSet 1 (some .boolean) : Cond) ∈ kW := kW_10_in (List.mem_of_getElem? (i := 30) rfl)
theorem kw_instanceMethod_Mo_clear : (.instanceMethod y_Mo_clear : Cond) ∈ kW := kW_10_in (List.mem_of_getElem? (i := 31) rfl)
theorem kw_selects_Mo_clear : (.selects R_Mo y_Mo_clear y_Mo_clear : Cond) ∈ kW := kW_10_in (List.mem_of_getElem? (i := 32) rfl)
theorem kw_code_Mo_clear : (.code y_Mo_clear b_Mo_clear 3 (some .int) : Cond) ∈ kW := kW_10_in (List.mem_of_getElem? (i := 33) rfl)
theorem kw_instanceMethod_Mo_ask : (.instanceMethod y_Mo_ask : Cond) ∈ kW := kW_10_in (List.mem_of_getElem? (i := 34) rfl)
theorem kw_selects_Mo_ask : (.selects R_Mo y_Mo_ask y_Mo_ask : Cond) ∈ kW := kW_10_in (List.mem_of_getElem? (i := 35) rfl)
theorem kw_code_Mo_ask : (.code y_Mo_ask b_Mo_ask 6 (some .int) : Cond) ∈ kW := kW_10_in (List.mem_of_getElem? (i := 36) rfl)
theorem kw_methodLink_Mo_61 : (.methodLink R_Mo 61 y_Mo_isAsk : Cond) ∈ kW := kW_10_in (List.mem_of_getElem? (i := 37) rfl)
theorem kw_instanceMethod_Mo_isAsk : (.instanceMethod y_Mo_isAsk : Cond) ∈ kW := kW_10_in (List.mem_of_getElem? (i := 38) rfl)
theorem kw_code_Mo_isAsk : (.code y_Mo_isAsk b_Mo_isAsk 2 (some .boolean) : Cond) ∈ kW := kW_10_in (List.mem_of_getElem? (i := 39) rfl)
theorem kw_instanceMethod_Mo_forget : (.instanceMethod y_Mo_forget : Cond) ∈ kW := kW_11_in (List.mem_of_getElem? (i := 0) rfl)
theorem kw_selects_Mo_forget : (.selects R_Mo y_Mo_forget y_Mo_forget : Cond) ∈ kW := kW_11_in (List.mem_of_getElem? (i := 1) rfl)
theorem kw_code_Mo_forget : (.code y_Mo_forget b_Mo_forget 2 (some .int) : Cond) ∈ kW := kW_11_in (List.mem_of_getElem? (i := 2) rfl)
theorem kw_instanceMethod_Mo_count : (.instanceMethod y_Mo_count : Cond) ∈ kW := kW_11_in (List.mem_of_getElem? (i := 3) rfl)
theorem kw_selects_Mo_count : (.selects R_Mo y_Mo_count y_Mo_count : Cond) ∈ kW := kW_11_in (List.mem_of_getElem? (i := 4) rfl)
theorem kw_code_Mo_count : (.code y_Mo_count b_Mo_count 4 (some .int) : Cond) ∈ kW := kW_11_in (List.mem_of_getElem? (i := 5) rfl)
theorem kw_methodLink_Mo_88 : (.methodLink R_Mo 88 y_Mo_findAll : Cond) ∈ kW := kW_11_in (List.mem_of_getElem? (i := 6) rfl)
theorem kw_instanceMethod_Mo_findAll : (.instanceMethod y_Mo_findAll : Cond) ∈ kW := kW_11_in (List.mem_of_getElem? (i := 7) rfl)
theorem kw_code_Mo_findAll : (.code y_Mo_findAll b_Mo_findAll 3 none : Cond) ∈ kW := kW_11_in (List.mem_of_getElem? (i := 8) rfl)
theorem kw_methodLink_Mo_84 : (.methodLink R_Mo 84 y_Mo_find : Cond) ∈ kW := kW_11_in (List.mem_of_getElem? (i := 9) rfl)
theorem kw_instanceMethod_Mo_find : (.instanceMethod y_Mo_find : Cond) ∈ kW := kW_11_in (List.mem_of_getElem? (i := 10) rfl)
theorem kw_code_Mo_find : (.code y_Mo_find b_Mo_find 6 none : Cond) ∈ kW := kW_11_in (List.mem_of_getElem? (i := 11) rfl)
theorem kw_methodLink_Mo_76 : (.methodLink R_Mo 76 y_Mo_alone : Cond) ∈ kW := kW_11_in (List.mem_of_getElem? (i := 12) rfl)
theorem kw_instanceMethod_Mo_alone : (.instanceMethod y_Mo_alone : Cond) ∈ kW := kW_11_in (List.mem_of_getElem? (i := 13) rfl)
theorem kw_code_Mo_alone : (.code y_Mo_alone b_Mo_alone 6 none : Cond) ∈ kW := kW_11_in (List.mem_of_getElem? (i := 14) rfl)
theorem kw_methodLink_Mo_72 : (.methodLink R_Mo 72 y_Mo_isFar : Cond) ∈ kW := kW_11_in (List.mem_of_getElem? (i := 15) rfl)
theorem kw_instanceMethod_Mo_isFar : (.instanceMethod y_Mo_isFar : Cond) ∈ kW := kW_11_in (List.mem_of_getElem? (i := 16) rfl)
theorem kw_code_Mo_isFar : (.code y_Mo_isFar b_Mo_isFar 8 (some .boolean) : Cond) ∈ kW := kW_11_in (List.mem_of_getElem? (i := 17) rfl)
theorem kw_methodLink_Mo_68 : (.methodLink R_Mo 68 y_Mo_gap : Cond) ∈ kW := kW_11_in (List.mem_of_getElem? (i := 18) rfl)
theorem kw_static_Mo_gap : (.static y_Mo_gap : Cond) ∈ kW := kW_11_in (List.mem_of_getElem? (i := 19) rfl)
theorem kw_code_Mo_gap : (.code y_Mo_gap b_Mo_gap 4 (some .int) : Cond) ∈ kW := kW_11_in (List.mem_of_getElem? (i := 20) rfl)
theorem kw_methodLink_Mo_64 : (.methodLink R_Mo 64 y_Mo_comes : Cond) ∈ kW := kW_11_in (List.mem_of_getElem? (i := 21) rfl)
theorem kw_instanceMethod_Mo_comes : (.instanceMethod y_Mo_comes : Cond) ∈ kW := kW_11_in (List.mem_of_getElem? (i := 22) rfl)
theorem kw_code_Mo_comes : (.code y_Mo_comes b_Mo_comes 3 none : Cond) ∈ kW := kW_11_in (List.mem_of_getElem? (i := 23) rfl)
theorem kw_methodLink_Mo_80 : (.methodLink R_Mo 80 y_Mo_pair : Cond) ∈ kW := kW_11_in (List.mem_of_getElem? (i := 24) rfl)
theorem kw_instanceMethod_Mo_pair : (.instanceMethod y_Mo_pair : Cond) ∈ kW := kW_11_in (List.mem_of_getElem? (i := 25) rfl)
theorem kw_code_Mo_pair : (.code y_Mo_pair b_Mo_pair 10 none : Cond) ∈ kW := kW_11_in (List.mem_of_getElem? (i := 26) rfl)
theorem kw_instanceMethod_Mo_begin : (.instanceMethod y_Mo_begin : Cond) ∈ kW := kW_11_in (List.mem_of_getElem? (i := 27) rfl)
theorem kw_selects_Mo_begin : (.selects R_Mo y_Mo_begin y_Mo_begin : Cond) ∈ kW := kW_11_in (List.mem_of_getElem? (i := 28) rfl)
theorem kw_code_Mo_begin : (.code y_Mo_begin b_Mo_begin 3 (some .int) : Cond) ∈ kW := kW_11_in (List.mem_of_getElem? (i := 29) rfl)
theorem kw_methodLink_Mo_91 : (.methodLink R_Mo 91 y_Mo_nth : Cond) ∈ kW := kW_11_in (List.mem_of_getElem? (i := 30) rfl)
theorem kw_instanceMethod_Mo_nth : (.instanceMethod y_Mo_nth : Cond) ∈ kW := kW_11_in (List.mem_of_getElem? (i := 31) rfl)
theorem kw_code_Mo_nth : (.code y_Mo_nth b_Mo_nth 5 (some .int) : Cond) ∈ kW := kW_11_in (List.mem_of_getElem? (i := 32) rfl)
theorem kw_instanceMethod_Mo_end : (.instanceMethod y_Mo_end : Cond) ∈ kW := kW_11_in (List.mem_of_getElem? (i := 33) rfl)
theorem kw_selects_Mo_end : (.selects R_Mo y_Mo_end y_Mo_end : Cond) ∈ kW := kW_11_in (List.mem_of_getElem? (i := 34) rfl)
theorem kw_code_Mo_end : (.code y_Mo_end b_Mo_end 4 (some .int) : Cond) ∈ kW := kW_11_in (List.mem_of_getElem? (i := 35) rfl)
theorem kw_instanceMethod_Mo_covered : (.instanceMethod y_Mo_covered : Cond) ∈ kW := kW_11_in (List.mem_of_getElem? (i := 36) rfl)
theorem kw_selects_Mo_covered : (.selects R_Mo y_Mo_covered y_Mo_covered : Cond) ∈ kW := kW_11_in (List.mem_of_getElem? (i := 37) rfl)
theorem kw_code_Mo_covered : (.code y_Mo_covered b_Mo_covered 6 (some .int) : Cond) ∈ kW := kW_11_in (List.mem_of_getElem? (i := 38) rfl)
theorem kw_instanceMethod_Mo_slot : (.instanceMethod y_Mo_slot : Cond) ∈ kW := kW_11_in (List.mem_of_getElem? (i := 39) rfl)
theorem kw_selects_Mo_slot : (.selects R_Mo y_Mo_slot y_Mo_slot : Cond) ∈ kW := kW_12_in (List.mem_of_getElem? (i := 0) rfl)
theorem kw_code_Mo_slot : (.code y_Mo_slot b_Mo_slot 3 (some .int) : Cond) ∈ kW := kW_12_in (List.mem_of_getElem? (i := 1) rfl)
theorem kw_instanceMethod_Mo_unslot : (.instanceMethod y_Mo_unslot : Cond) ∈ kW := kW_12_in (List.mem_of_getElem? (i := 2) rfl)
theorem kw_selects_Mo_unslot : (.selects R_Mo y_Mo_unslot y_Mo_unslot : Cond) ∈ kW := kW_12_in (List.mem_of_getElem? (i := 3) rfl)
theorem kw_code_Mo_unslot : (.code y_Mo_unslot b_Mo_unslot 2 (some .int) : Cond) ∈ kW := kW_12_in (List.mem_of_getElem? (i := 4) rfl)
theorem kw_instanceMethod_Mo_matches : (.instanceMethod y_Mo_matches : Cond) ∈ kW := kW_12_in (List.mem_of_getElem? (i := 5) rfl)
theorem kw_selects_Mo_matches : (.selects R_Mo y_Mo_matches y_Mo_matches : Cond) ∈ kW := kW_12_in (List.mem_of_getElem? (i := 6) rfl)
theorem kw_code_Mo_matches : (.code y_Mo_matches b_Mo_matches 4 (some .int) : Cond) ∈ kW := kW_12_in (List.mem_of_getElem? (i := 7) rfl)
theorem kw_methodLink_Mo_122 : (.methodLink R_Mo 122 y_Mo_know : Cond) ∈ kW := kW_12_in (List.mem_of_getElem? (i := 8) rfl)
theorem kw_instanceMethod_Mo_know : (.instanceMethod y_Mo_know : Cond) ∈ kW := kW_12_in (List.mem_of_getElem? (i := 9) rfl)
theorem kw_code_Mo_know : (.code y_Mo_know b_Mo_know 3 none : Cond) ∈ kW := kW_12_in (List.mem_of_getElem? (i := 10) rfl)
theorem kw_methodLink_Mo_115 : (.methodLink R_Mo 115 y_Mo_fits : Cond) ∈ kW := kW_12_in (List.mem_of_getElem? (i := 11) rfl)
theorem kw_instanceMethod_Mo_fits : (.instanceMethod y_Mo_fits : Cond) ∈ kW := kW_12_in (List.mem_of_getElem? (i := 12) rfl)
theorem kw_code_Mo_fits : (.code y_Mo_fits b_Mo_fits 4 (some .boolean) : Cond) ∈ kW := kW_12_in (List.mem_of_getElem? (i := 13) rfl)
theorem kw_methodLink_Mo_119 : (.methodLink R_Mo 119 y_Mo_choose : Cond) ∈ kW := kW_12_in (List.mem_of_getElem? (i := 14) rfl)
theorem kw_instanceMethod_Mo_choose : (.instanceMethod y_Mo_choose : Cond) ∈ kW := kW_12_in (List.mem_of_getElem? (i := 15) rfl)
theorem kw_code_Mo_choose : (.code y_Mo_choose b_Mo_choose 5 none : Cond) ∈ kW := kW_12_in (List.mem_of_getElem? (i := 16) rfl)
theorem kw_methodLink_Mo_99 : (.methodLink R_Mo 99 y_Mo_moved : Cond) ∈ kW := kW_12_in (List.mem_of_getElem? (i := 17) rfl)
theorem kw_instanceMethod_Mo_moved : (.instanceMethod y_Mo_moved : Cond) ∈ kW := kW_12_in (List.mem_of_getElem? (i := 18) rfl)
theorem kw_code_Mo_moved : (.code y_Mo_moved b_Mo_moved 6 (some .int) : Cond) ∈ kW := kW_12_in (List.mem_of_getElem? (i := 19) rfl)
theorem kw_constant_Mo_98 : (.constant R_Mo 98 (1000000) : Cond) ∈ kW := kW_12_in (List.mem_of_getElem? (i := 20) rfl)
theorem kw_instanceMethod_Mo_weight : (.instanceMethod y_Mo_weight : Cond) ∈ kW := kW_12_in (List.mem_of_getElem? (i := 21) rfl)
theorem kw_selects_Mo_weight : (.selects R_Mo y_Mo_weight y_Mo_weight : Cond) ∈ kW := kW_12_in (List.mem_of_getElem? (i := 22) rfl)
theorem kw_code_Mo_weight : (.code y_Mo_weight b_Mo_weight 5 (some .long) : Cond) ∈ kW := kW_12_in (List.mem_of_getElem? (i := 23) rfl)
theorem kw_constantLong_Mo_125 : (.constantLong R_Mo 125 (-2) : Cond) ∈ kW := kW_12_in (List.mem_of_getElem? (i := 24) rfl)
theorem kw_instanceMethod_Mo_least : (.instanceMethod y_Mo_least : Cond) ∈ kW := kW_12_in (List.mem_of_getElem? (i := 25) rfl)
theorem kw_selects_Mo_least : (.selects R_Mo y_Mo_least y_Mo_least : Cond) ∈ kW := kW_12_in (List.mem_of_getElem? (i := 26) rfl)
theorem kw_code_Mo_least : (.code y_Mo_least b_Mo_least 1 (some .int) : Cond) ∈ kW := kW_12_in (List.mem_of_getElem? (i := 27) rfl)
theorem kw_instanceMethod_Mo_chosen : (.instanceMethod y_Mo_chosen : Cond) ∈ kW := kW_12_in (List.mem_of_getElem? (i := 28) rfl)
theorem kw_selects_Mo_chosen : (.selects R_Mo y_Mo_chosen y_Mo_chosen : Cond) ∈ kW := kW_12_in (List.mem_of_getElem? (i := 29) rfl)
theorem kw_code_Mo_chosen : (.code y_Mo_chosen b_Mo_chosen 2 (some .int) : Cond) ∈ kW := kW_12_in (List.mem_of_getElem? (i := 30) rfl)
theorem kw_instanceMethod_Mo_ties : (.instanceMethod y_Mo_ties : Cond) ∈ kW := kW_12_in (List.mem_of_getElem? (i := 31) rfl)
theorem kw_selects_Mo_ties : (.selects R_Mo y_Mo_ties y_Mo_ties : Cond) ∈ kW := kW_12_in (List.mem_of_getElem? (i := 32) rfl)
theorem kw_code_Mo_ties : (.code y_Mo_ties b_Mo_ties 1 (some .int) : Cond) ∈ kW := kW_12_in (List.mem_of_getElem? (i := 33) rfl)
theorem kw_instanceMethod_Mo_shortest : (.instanceMethod y_Mo_shortest : Cond) ∈ kW := kW_12_in (List.mem_of_getElem? (i := 34) rfl)
theorem kw_selects_Mo_shortest : (.selects R_Mo y_Mo_shortest y_Mo_shortest : Cond) ∈ kW := kW_12_in (List.mem_of_getElem? (i := 35) rfl)
theorem kw_code_Mo_shortest : (.code y_Mo_shortest b_Mo_shortest 2 (some .int) : Cond) ∈ kW := kW_12_in (List.mem_of_getElem? (i := 36) rfl)
theorem kin_As : ∀ w ∈ u_ws R_As T_As 7, w ∈ kW := by
  intro w hw
  obtain ⟨k, hk, rfl⟩ := List.mem_map.mp hw
  have hk : k < 7 := List.mem_range.mp hk
  match k, hk with
  | 0, _ => exact kw_laysFinal_As_kinds
  | 1, _ => exact kw_laysFinal_As_firsts
  | 2, _ => exact kw_laysFinal_As_seconds
  | 3, _ => exact kw_laysFinal_As_numbers
  | 4, _ => exact kw_laysFinal_As_rows
  | 5, _ => exact kw_lays_As_size
  | 6, _ => exact kw_lays_As_ready
  | k + 7, h => exact absurd h (by omega)
theorem kin_Ph : ∀ w ∈ u_ws R_Ph T_Ph 12, w ∈ kW := by
  intro w hw
  obtain ⟨k, hk, rfl⟩ := List.mem_map.mp hw
  have hk : k < 12 := List.mem_range.mp hk
  match k, hk with
  | 0, _ => exact kw_laysFinal_Ph_offsets
  | 1, _ => exact kw_laysFinal_Ph_sets
  | 2, _ => exact kw_lays_Ph_size
  | 3, _ => exact kw_lays_Ph_settled
  | 4, _ => exact kw_laysFinal_Ph_places
  | 5, _ => exact kw_laysFinal_Ph_placesOf
  | 6, _ => exact kw_laysFinal_Ph_tried
  | 7, _ => exact kw_laysFinal_Ph_firstChoice
  | 8, _ => exact kw_laysFinal_Ph_counts
  | 9, _ => exact kw_lays_Ph_lowestMoved
  | 10, _ => exact kw_lays_Ph_shortFrom
  | 11, _ => exact kw_lays_Ph_shortTo
  | k + 12, h => exact absurd h (by omega)
theorem kin_Ro : ∀ w ∈ u_ws R_Ro T_Ro 1, w ∈ kW := by
  intro w hw
  obtain ⟨k, hk, rfl⟩ := List.mem_map.mp hw
  have hk : k < 1 := List.mem_range.mp hk
  match k, hk with
  | 0, _ => exact kw_laysFinal_Ro_ends
  | k + 1, h => exact absurd h (by omega)
theorem kin_Pm : ∀ w ∈ u_ws R_Pm T_Pm 3, w ∈ kW := by
  intro w hw
  obtain ⟨k, hk, rfl⟩ := List.mem_map.mp hw
  have hk : k < 3 := List.mem_range.mp hk
  match k, hk with
  | 0, _ => exact kw_laysFinal_Pm_text
  | 1, _ => exact kw_laysFinal_Pm_asks
  | 2, _ => exact kw_laysFinal_Pm_phrase
  | k + 3, h => exact absurd h (by omega)
theorem kin_Mo : ∀ w ∈ u_ws R_Mo T_Mo 19, w ∈ kW := by
  intro w hw
  obtain ⟨k, hk, rfl⟩ := List.mem_map.mp hw
  have hk : k < 19 := List.mem_range.mp hk
  match k, hk with
  | 0, _ => exact kw_laysFinal_Mo_text
  | 1, _ => exact kw_lays_Mo_asks
  | 2, _ => exact kw_laysFinal_Mo_kinds
  | 3, _ => exact kw_laysFinal_Mo_one
  | 4, _ => exact kw_laysFinal_Mo_other
  | 5, _ => exact kw_laysFinal_Mo_number
  | 6, _ => exact kw_lays_Mo_slots
  | 7, _ => exact kw_laysFinal_Mo_offsets
  | 8, _ => exact kw_laysFinal_Mo_sets
  | 9, _ => exact kw_lays_Mo_known
  | 10, _ => exact kw_laysFinal_Mo_ends
  | 11, _ => exact kw_laysFinal_Mo_under
  | 12, _ => exact kw_laysFinal_Mo_many
  | 13, _ => exact kw_lays_Mo_choices
  | 14, _ => exact kw_lays_Mo_least
  | 15, _ => exact kw_laysFinal_Mo_first
  | 16, _ => exact kw_lays_Mo_shortFrom
  | 17, _ => exact kw_lays_Mo_shortTo
  | 18, _ => exact kw_laysFinal_Mo_places
  | k + 19, h => exact absurd h (by omega)
set_option maxRecDepth 20000 in
theorem kW_0_good : kW_0.all goodWord = true := by decide +kernel
set_option maxRecDepth 20000 in
theorem kW_0_tbl : kW_0 = ([0, 1, 2, 3, 4, 5, 6, 7, 8, 9, 10, 11, 12, 13, 14, 15, 16, 17, 18, 19, 20, 21, 22, 23, 24, 26, 27, 28, 29, 30, 31, 32, 33, 35, 37, 38, 39, 40, 41, 42] : List Nat).filterMap (fun i => lw_tbl[i]?) := by decide +kernel
set_option maxRecDepth 20000 in
theorem kW_1_good : kW_1.all goodWord = true := by decide +kernel
set_option maxRecDepth 20000 in
theorem kW_1_tbl : kW_1 = ([43, 44, 45, 46, 47, 48, 50, 51, 52, 53, 54, 55, 56, 57, 58, 59, 62, 63, 64, 65, 66, 67, 68, 69, 70, 72, 74, 76, 78, 80, 82, 85, 86, 87, 88, 89, 90, 91, 93, 94] : List Nat).filterMap (fun i => lw_tbl[i]?) := by decide +kernel
set_option maxRecDepth 20000 in
theorem kW_2_good : kW_2.all goodWord = true := by decide +kernel
set_option maxRecDepth 20000 in
theorem kW_2_tbl : kW_2 = ([95, 96, 97, 98, 99, 100, 101, 102, 103, 104, 105, 107, 109, 111, 113, 115, 117, 119, 121, 123, 125, 127, 130, 131, 132, 133, 135, 137, 141, 142, 143, 144, 145, 146, 147, 148, 149, 150, 152, 153] : List Nat).filterMap (fun i => lw_tbl[i]?) := by decide +kernel
set_option maxRecDepth 20000 in
theorem kW_3_good : kW_3.all goodWord = true := by decide +kernel
set_option maxRecDepth 20000 in
theorem kW_3_tbl : kW_3 = ([154, 155, 156, 157, 158, 159, 160, 161, 163, 164, 165, 167, 168, 169, 170, 171, 172, 173, 174, 175, 176, 177, 178, 179, 180, 181, 182, 183, 184, 185, 186, 187, 188, 189, 190, 191, 192, 194, 195, 196] : List Nat).filterMap (fun i => lw_tbl[i]?) := by decide +kernel
set_option maxRecDepth 20000 in
theorem kW_4_good : kW_4.all goodWord = true := by decide +kernel
set_option maxRecDepth 20000 in
theorem kW_4_tbl : kW_4 = ([197, 198, 199, 200, 202, 203, 204, 205, 206, 207, 208, 209, 211, 212, 213, 214, 215, 216, 217, 218, 219, 220, 221, 222, 223, 224, 226, 227, 228, 229, 230, 231, 232, 233, 234, 235, 236, 237, 238, 239] : List Nat).filterMap (fun i => lw_tbl[i]?) := by decide +kernel
set_option maxRecDepth 20000 in
theorem kW_5_good : kW_5.all goodWord = true := by decide +kernel
set_option maxRecDepth 20000 in
theorem kW_5_tbl : kW_5 = ([240, 241, 242, 243, 244, 245, 247, 248, 249, 250, 251, 252, 253, 255, 256, 257, 258, 259, 260, 261, 262, 263, 264, 266, 267, 268, 269, 270, 271, 272, 274, 275, 276, 277, 278, 279, 280, 282, 283, 284] : List Nat).filterMap (fun i => lw_tbl[i]?) := by decide +kernel
set_option maxRecDepth 20000 in
theorem kW_6_good : kW_6.all goodWord = true := by decide +kernel
set_option maxRecDepth 20000 in
theorem kW_6_tbl : kW_6 = ([285, 286, 287, 288, 289, 290, 291, 292, 293, 294, 295, 296, 298, 299, 300, 301, 302, 303, 304, 306, 307, 308, 309, 310, 311, 312, 313, 315, 316, 317, 318, 319, 320, 321, 323, 324, 325, 326, 327, 328] : List Nat).filterMap (fun i => lw_tbl[i]?) := by decide +kernel
set_option maxRecDepth 20000 in
theorem kW_7_good : kW_7.all goodWord = true := by decide +kernel
set_option maxRecDepth 20000 in
theorem kW_7_tbl : kW_7 = ([329, 330, 332, 333, 334, 335, 336, 337, 338, 340, 341, 342, 343, 344, 345, 346, 347, 348, 349, 350, 351, 353, 354, 355, 357, 358, 359, 361, 362, 363, 364, 365, 366, 367, 368, 369, 370, 371, 373, 374] : List Nat).filterMap (fun i => lw_tbl[i]?) := by decide +kernel
set_option maxRecDepth 20000 in
theorem kW_8_good : kW_8.all goodWord = true := by decide +kernel
set_option maxRecDepth 20000 in
theorem kW_8_tbl : kW_8 = ([375, 377, 378, 379, 381, 382, 383, 384, 385, 386, 388, 389, 390, 391, 392, 393, 394, 395, 396, 398, 399, 400, 401, 402, 403, 404, 405, 406, 407, 408, 410, 411, 412, 413, 414, 415, 416, 417, 418, 419] : List Nat).filterMap (fun i => lw_tbl[i]?) := by decide +kernel
set_option maxRecDepth 20000 in
theorem kW_9_good : kW_9.all goodWord = true := by decide +kernel
set_option maxRecDepth 20000 in
theorem kW_9_tbl : kW_9 = ([420, 421, 423, 424, 425, 426, 427, 428, 429, 431, 432, 433, 434, 435, 436, 437, 438, 439, 440, 441, 443, 445, 446, 447, 448, 449, 450, 451, 452, 453, 454, 455, 456, 457, 458, 459, 460, 461, 462, 463] : List Nat).filterMap (fun i => lw_tbl[i]?) := by decide +kernel
set_option maxRecDepth 20000 in
theorem kW_10_good : kW_10.all goodWord = true := by decide +kernel
set_option maxRecDepth 20000 in
theorem kW_10_tbl : kW_10 = ([464, 465, 466, 467, 469, 471, 473, 475, 477, 479, 481, 483, 485, 487, 489, 491, 493, 495, 497, 499, 501, 503, 507, 508, 509, 510, 511, 512, 513, 514, 515, 517, 518, 519, 521, 522, 523, 524, 526, 527] : List Nat).filterMap (fun i => lw_tbl[i]?) := by decide +kernel
set_option maxRecDepth 20000 in
theorem kW_11_good : kW_11.all goodWord = true := by decide +kernel
set_option maxRecDepth 20000 in
theorem kW_11_tbl : kW_11 = ([529, 530, 531, 533, 534, 535, 536, 538, 539, 540, 542, 543, 544, 546, 547, 548, 550, 551, 552, 553, 554, 555, 557, 558, 559, 561, 562, 564, 565, 566, 567, 569, 570, 572, 573, 574, 576, 577, 578, 580] : List Nat).filterMap (fun i => lw_tbl[i]?) := by decide +kernel
set_option maxRecDepth 20000 in
theorem kW_12_good : kW_12.all goodWord = true := by decide +kernel
set_option maxRecDepth 20000 in
theorem kW_12_tbl : kW_12 = ([581, 582, 584, 585, 586, 588, 589, 590, 591, 593, 594, 595, 597, 598, 599, 601, 602, 603, 605, 606, 607, 609, 610, 611, 612, 614, 615, 616, 618, 619, 620, 622, 623, 624, 626, 627, 628] : List Nat).filterMap (fun i => lw_tbl[i]?) := by decide +kernel
theorem kW_word {w : Cond} (h : w ∈ kW) : goodWord w = true := by
  unfold kW at h
  simp only [List.mem_append] at h
  rcases h with h | h | h | h | h | h | h | h | h | h | h | h | h
  · exact List.all_eq_true.mp kW_0_good w h
  · exact List.all_eq_true.mp kW_1_good w h
  · exact List.all_eq_true.mp kW_2_good w h
  · exact List.all_eq_true.mp kW_3_good w h
  · exact List.all_eq_true.mp kW_4_good w h
  · exact List.all_eq_true.mp kW_5_good w h
  · exact List.all_eq_true.mp kW_6_good w h
  · exact List.all_eq_true.mp kW_7_good w h
  · exact List.all_eq_true.mp kW_8_good w h
  · exact List.all_eq_true.mp kW_9_good w h
  · exact List.all_eq_true.mp kW_10_good w h
  · exact List.all_eq_true.mp kW_11_good w h
  · exact List.all_eq_true.mp kW_12_good w h
theorem kW_tbl {w : Cond} (h : w ∈ kW) : w ∈ lw_tbl := by
  unfold kW at h
  simp only [List.mem_append] at h
  rcases h with h | h | h | h | h | h | h | h | h | h | h | h | h
  · rw [kW_0_tbl] at h; obtain ⟨j, -, hj⟩ := List.mem_filterMap.mp h; exact List.mem_of_getElem? hj
  · rw [kW_1_tbl] at h; obtain ⟨j, -, hj⟩ := List.mem_filterMap.mp h; exact List.mem_of_getElem? hj
  · rw [kW_2_tbl] at h; obtain ⟨j, -, hj⟩ := List.mem_filterMap.mp h; exact List.mem_of_getElem? hj
  · rw [kW_3_tbl] at h; obtain ⟨j, -, hj⟩ := List.mem_filterMap.mp h; exact List.mem_of_getElem? hj
  · rw [kW_4_tbl] at h; obtain ⟨j, -, hj⟩ := List.mem_filterMap.mp h; exact List.mem_of_getElem? hj
  · rw [kW_5_tbl] at h; obtain ⟨j, -, hj⟩ := List.mem_filterMap.mp h; exact List.mem_of_getElem? hj
  · rw [kW_6_tbl] at h; obtain ⟨j, -, hj⟩ := List.mem_filterMap.mp h; exact List.mem_of_getElem? hj
  · rw [kW_7_tbl] at h; obtain ⟨j, -, hj⟩ := List.mem_filterMap.mp h; exact List.mem_of_getElem? hj
  · rw [kW_8_tbl] at h; obtain ⟨j, -, hj⟩ := List.mem_filterMap.mp h; exact List.mem_of_getElem? hj
  · rw [kW_9_tbl] at h; obtain ⟨j, -, hj⟩ := List.mem_filterMap.mp h; exact List.mem_of_getElem? hj
  · rw [kW_10_tbl] at h; obtain ⟨j, -, hj⟩ := List.mem_filterMap.mp h; exact List.mem_of_getElem? hj
  · rw [kW_11_tbl] at h; obtain ⟨j, -, hj⟩ := List.mem_filterMap.mp h; exact List.mem_of_getElem? hj
  · rw [kW_12_tbl] at h; obtain ⟨j, -, hj⟩ := List.mem_filterMap.mp h; exact List.mem_of_getElem? hj
end
section
def k_ns : List (String × Nat × MethodName × String) := [(R_Ro, 21, y_Pm_isPlace, "PhraseMoves")]
abbrev k_ty (cI cR cG : ClassId) : List (ClassId × FieldType) := [(cI, .int), (cR, .object R_Ro), (cG, .array .int)]
theorem k_good {ws : List Cond} (h : ∀ w ∈ ws, w ∈ kW) : GoodIn kW ws := fun w hw => ⟨h w hw, good_of_word (kW_word (h w hw))⟩
theorem k_gN {y : MethodName} {b : ByteArray} {n : Nat} {r : Option FieldType} (h : (.code y b n r : Cond) ∈ kW) : GoodIn kW (.code y b n r :: kW) := k_good (fun w hw => (List.mem_cons.mp hw).elim (fun e => e ▸ h) id)
theorem k_gV {own C : String} {idx : Nat} {y : MethodName} {b : ByteArray} {n : Nat} {r : Option FieldType} (h1 : (.methodLink own idx y : Cond) ∈ kW) (h2 : (.instanceMethod y : Cond) ∈ kW) (h3 : (.selects C y y : Cond) ∈ kW) (h4 : (.initialized C : Cond) ∈ kW) (h : (.code y b n r : Cond) ∈ kW) : GoodIn kW (wsV own idx C y (.code y b n r :: kW)) := k_good (fun w hw => by
  rcases List.mem_append.mp hw with hw | hw
  · simp only [List.mem_cons, List.not_mem_nil, or_false] at hw
    rcases hw with rfl | rfl | rfl | rfl <;> assumption
  · exact (List.mem_cons.mp hw).elim (fun e => e ▸ h) id)
theorem k_gS {own : String} {idx : Nat} {y : MethodName} {b : ByteArray} {n : Nat} {r : Option FieldType} (h1 : (.methodLink own idx y : Cond) ∈ kW) (h2 : (.static y : Cond) ∈ kW) (h3 : (.initialized y.cls : Cond) ∈ kW) (h : (.code y b n r : Cond) ∈ kW) : GoodIn kW (va_wsS own idx y (.code y b n r :: kW)) := k_good (fun w hw => by
  rcases List.mem_append.mp hw with hw | hw
  · simp only [List.mem_cons, List.not_mem_nil, or_false] at hw
    rcases hw with rfl | rfl | rfl <;> assumption
  · exact (List.mem_cons.mp hw).elim (fun e => e ▸ h) id)
/-! numbers: an int of the machine as the value of an integer -/
def zI (z : Int) : Int32 := Int32.ofInt z
/-- small enough for a comparison -/
abbrev k_sm (z : Int) : Prop := -2147483648 ≤ z ∧ z ≤ 2147483647
theorem zI_toInt {z : Int} (h : k_sm z) : (zI z).toInt = z := Int32.toInt_ofInt_of_le (by have := h.1; omega) (by have := h.2; omega)
theorem zI_of (x : Int32) : ∃ z : Int, k_sm z ∧ x = zI z := ⟨x.toInt, ⟨by have := x.le_toInt; omega, by have := x.toInt_lt; omega⟩, (Int32.ofInt_toInt x).symm⟩
theorem zI_add (a b : Int) : zI a + zI b = zI (a + b) := (Int32.ofInt_add a b).symm
theorem zI_sub (a b : Int) : zI a - zI b = zI (a - b) := (Int32.ofInt_sub a b).symm
theorem zI_mul (a b : Int) : zI a * zI b = zI (a * b) := (Int32.ofInt_mul a b).symm
theorem zI_le {a b : Int} (ha : k_sm a) (hb : k_sm b) : zI a ≤ zI b ↔ a ≤ b := by
  rw [Int32.le_iff_toInt_le, zI_toInt ha, zI_toInt hb]
theorem zI_lt {a b : Int} (ha : k_sm a) (hb : k_sm b) : zI a < zI b ↔ a < b := by
  rw [Int32.lt_iff_toInt_lt, zI_toInt ha, zI_toInt hb]
theorem zI_eq {a b : Int} (ha : k_sm a) (hb : k_sm b) : zI a = zI b ↔ a = b := by
  rw [← Int32.toInt_inj, zI_toInt ha, zI_toInt hb]
theorem zI_nat (n : Nat) : zI (n : Int) = nI n := Int32.ofInt_eq_ofNat
theorem zI_0 : zI 0 = 0 := by decide +kernel
theorem zI_1 : zI 1 = 1 := by decide +kernel
theorem zI_cl {n : Nat} (h : n ≤ 2147483647) : (zI (n : Int)).toNatClampNeg = n := by
  rw [zI_nat]; exact nI_clamp (by omega)
theorem zI_in {n N : Nat} (h : n < N) (hN : N ≤ 2147483647) : vp_in (zI (n : Int)) N := by
  rw [zI_nat]; exact vp_in_nI h (by omega)
/-- a truth value as the machine has it -/
def k_b (P : Prop) [Decidable P] : Int32 := if P then 1 else 0
theorem k_b0 {P : Prop} [Decidable P] : k_b P = 0 ↔ ¬ P := by
  unfold k_b; by_cases h : P
  · simp [h]
  · simp [h]
theorem k_bt {P : Prop} [Decidable P] (h : P) : k_b P = 1 := if_pos h
theorem k_bf {P : Prop} [Decidable P] (h : ¬ P) : k_b P = 0 := if_neg h
/-- an array of ints out of a row of natural numbers -/
def kA (F : Nat → Nat) : Nat → Int32 := fun j => zI (F j : Int)
theorem kA_up (F : Nat → Nat) (i v : Nat) : upd (kA F) i (zI (v : Int)) = kA (va_up F i v) := by
  funext j
  by_cases h : j = i
  · simp [upd, kA, va_up, h]
  · simp [upd, kA, va_up, h]
theorem k_upB {F : Nat → Nat} {i v B : Nat} (hF : ∀ j, F j ≤ B) (hv : v ≤ B) : ∀ j, va_up F i v j ≤ B := by
  intro j
  unfold va_up
  split
  · exact hv
  · exact hF j
/-! the world: cells put back in their places -/
def k_put : va_W → List Nat → va_W → va_W
  | w, i :: is, q :: qs => k_put (w.set i q) is qs
  | w, _, _ => w
theorem k_put_old : ∀ (is : List Nat) (qs w : va_W) (k : Nat) (q : Nat × va_E), is.length = qs.length → (k_put w is qs)[k]? = some q → q ∈ qs ∨ (w[k]? = some q ∧ k ∉ is)
  | [], [], w, k, q, _, h => Or.inr ⟨h, by simp⟩
  | [], _ :: _, _, _, _, hl, _ => absurd hl (by simp)
  | _ :: _, [], _, _, _, hl, _ => absurd hl (by simp)
  | i :: is, q0 :: qs, w, k, q, hl, h => by
    rcases k_put_old is qs (w.set i q0) k q (by simpa using hl) h with h1 | ⟨h1, h2⟩
    · exact Or.inl (List.mem_cons_of_mem _ h1)
    · by_cases e : i = k
      · subst e
        rw [List.getElem?_set_self'] at h1
        cases hw : w[i]? with
        | none => rw [hw] at h1; simp at h1
        | some y => rw [hw] at h1; simp at h1; exact Or.inl (by rw [h1]; exact List.mem_cons_self)
      · rw [List.getElem?_set_ne e] at h1
        exact Or.inr ⟨h1, by simp; exact ⟨fun h => e h.symm, h2⟩⟩
theorem k_put_addr : ∀ (is : List Nat) (qs w : va_W), (∀ (j i : Nat) (x : Nat × va_E), is[j]? = some i → qs[j]? = some x → ∃ y, w[i]? = some y ∧ y.1 = x.1) → ∀ (k : Nat) (q : Nat × va_E), (k_put w is qs)[k]? = some q → ∃ y, w[k]? = some y ∧ y.1 = q.1
  | [], [], w, _, k, q, h => ⟨q, h, rfl⟩
  | [], _ :: _, w, _, k, q, h => ⟨q, h, rfl⟩
  | _ :: _, [], w, _, k, q, h => ⟨q, h, rfl⟩
  | i :: is, q0 :: qs, w, hh, k, q, h => by
    obtain ⟨y0, hy0, hy1⟩ := hh 0 i q0 rfl rfl
    have hset : ∀ (k : Nat) (y : Nat × va_E), (w.set i q0)[k]? = some y → ∃ z, w[k]? = some z ∧ z.1 = y.1 := by
      intro k y hk
      by_cases e : i = k
      · subst e
        rw [List.getElem?_set_self', hy0] at hk
        simp at hk
        exact ⟨y0, hy0, by rw [hy1, hk]⟩
      · rw [List.getElem?_set_ne e] at hk
        exact ⟨y, hk, rfl⟩
    have hset2 : ∀ (k : Nat) (z : Nat × va_E), w[k]? = some z → ∃ y, (w.set i q0)[k]? = some y ∧ y.1 = z.1 := by
      intro k z hk
      by_cases e : i = k
      · subst e
        rw [hy0] at hk
        refine ⟨q0, ?_, ?_⟩
        · rw [List.getElem?_set_self', hy0]; rfl
        · rw [← hy1]; exact congrArg Prod.fst (Option.some.inj hk)
      · exact ⟨z, by rw [List.getElem?_set_ne e]; exact hk, rfl⟩
    obtain ⟨y, h1, h2⟩ := k_put_addr is qs (w.set i q0) (fun j i' x a b => by
      obtain ⟨y, c1, c2⟩ := hh (j + 1) i' x (by simpa using a) (by simpa using b)
      obtain ⟨z, d1, d2⟩ := hset2 i' y c1
      exact ⟨z, d1, d2.trans c2⟩) k q h
    obtain ⟨z, c1, c2⟩ := hset k y h1
    exact ⟨z, c1, c2.trans h2⟩
/-- THE FRAME: what a call has given back, in its places -/
theorem k_frame {A0 : Nat → Prop} {D : va_G} {cl : List vw_C} {W0 wc wn : va_W} {H H1 : Heap} (hP : va_P D cl W0 H) (hD : va_D A0 W0) (isC : List Nat) (hC : isC.map (fun i => W0[i]?) = wc.map some) (hE : wn.map (·.1) = wc.map (·.1))
    (hk : ∀ q : Nat, q < H.size → ¬ va_A wc H.size q → H1[q]? = H[q]?) (hP1 : va_P D cl wn H1) : va_P D cl (k_put W0 isC wn) H1 ∧ va_D A0 (k_put W0 isC wn) := by
  have hlen : isC.length = wn.length := by
    have e1 := congrArg List.length hC
    have e2 := congrArg List.length hE
    simp at e1 e2
    omega
  have hadr : ∀ (j i : Nat) (x : Nat × va_E), isC[j]? = some i → wn[j]? = some x → ∃ y, W0[i]? = some y ∧ y.1 = x.1 := by
    intro j i x a b
    have e2 : (wn.map (·.1))[j]? = some x.1 := by simp [b]
    rw [hE, List.getElem?_map] at e2
    cases hz : wc[j]? with
    | none => rw [hz] at e2; simp at e2
    | some z =>
      rw [hz] at e2
      have hzx : z.1 = x.1 := by simpa using e2
      have e1 : (isC.map (fun i => W0[i]?))[j]? = some W0[i]? := by rw [List.getElem?_map, a]; rfl
      rw [hC, List.getElem?_map, hz] at e1
      exact ⟨z, (Option.some.inj e1).symm, hzx⟩
  have hin := k_put_addr isC wn W0 hadr
  refine ⟨?_, ?_, ?_⟩
  · intro k q h
    rcases k_put_old isC wn W0 k q hlen h with h1 | ⟨h1, h2⟩
    · obtain ⟨j, hj⟩ := List.getElem?_of_mem h1
      exact hP1 j q hj
    · have ha := hP k q h1
      have hlt : q.1 < H.size := va_at.lt ha
      refine va_at.kept ha (hk q.1 hlt ?_)
      rintro (⟨j, e, hj⟩ | hge)
      · obtain ⟨i, hi1, hi2⟩ := va_in_of isC hC hj
        have hik : i = k := hD.1 i k _ _ hi2 h1 rfl
        subst hik
        exact h2 (List.mem_of_getElem? hi1)
      · omega
  · intro i j p q hi hj he
    obtain ⟨y, y1, y2⟩ := hin i p hi
    obtain ⟨z, z1, z2⟩ := hin j q hj
    exact hD.1 i j y z y1 z1 (by rw [y2, z2, he])
  · intro k q h
    obtain ⟨y, y1, y2⟩ := hin k q h
    rw [← y2]
    exact hD.2 k y y1
/-! contracts: what a method takes, what it gives -/
/-- links that hold from start to end: private members of nest mates -/
def k_G (ns : List (String × Nat × MethodName × String)) (U : State) : Prop := ∀ q ∈ ns, va_Nw (.methodLinkNest q.1 q.2.1 q.2.2.1 q.2.2.2) U
theorem k_G.warm {ns : List (String × Nat × MethodName × String)} {s U : State} (hW : s.WarmedH U.vm) (h : k_G ns s) : k_G ns U := fun q hq => va_Nw.warmM hW (h q hq)
theorem k_G.same {ns : List (String × Nat × MethodName × String)} {u U : State} (e : u.vm = U.vm) (h : k_G ns u) : k_G ns U := fun q hq => va_Nw.same rfl e (h q hq)
def k_In (D : va_G) (cl : List vw_C) (tys : List (ClassId × FieldType)) (wc : va_W) (sz : Nat) (U : State) : Prop := U.heap.size = sz ∧ va_P D cl wc U.heap ∧ va_K D cl tys U ∧ k_G k_ns U ∧ va_D (fun _ => True) wc
abbrev k_Qi (D : va_G) (cl : List vw_C) (rr : Int32) (wn : va_W) (A : Nat → Prop) : Array Value → State → Outcome → State → Prop := va_Qi (fun r (_ : Unit) => r = rr) (fun _ t => va_P D cl wn t.heap) A
abbrev k_Ql (D : va_G) (cl : List vw_C) (rr : Int64) (wn : va_W) (A : Nat → Prop) : Array Value → State → Outcome → State → Prop := va_Ql (fun r (_ : Unit) => r = rr) (fun _ t => va_P D cl wn t.heap) A
abbrev k_Qv (D : va_G) (cl : List vw_C) (wn : va_W) (A : Nat → Prop) : Array Value → State → Outcome → State → Prop := va_Qv (fun (_ : Unit) => True) (fun _ t => va_P D cl wn t.heap) A
abbrev k_Qr (D : va_G) (cl : List vw_C) (rr : Nat) (wn : va_W) (A : Nat → Prop) : Array Value → State → Outcome → State → Prop := va_Qr (fun (_ : Unit) => True) (fun _ a t => a = rr ∧ va_P D cl wn t.heap) A
abbrev k_M (l : Launch) (y : MethodName) (ws : List Cond) (rm : Room) (D : va_G) (cl : List vw_C) (tys : List (ClassId × FieldType)) (as : List Value) (wc : va_W) (Qq : (Nat → Prop) → Array Value → State → Outcome → State → Prop) : Prop :=
  ∀ sz : Nat, Met l y ws rm (va_Pc as (k_In D cl tys wc sz)) (Qq (va_A wc sz)) 0 0 (va_A wc sz)
theorem k_blind {as : List Value} {D : va_G} {cl : List vw_C} {tys : List (ClassId × FieldType)} {wc : va_W} {sz : Nat} : FrameBlind (va_Pc as (k_In D cl tys wc sz)) := by
  intro a U g mk q
  obtain ⟨q0, q1, qP, qK, qG, qD⟩ := q
  exact ⟨q0, q1, qP, va_K.moved (u := U) (U := U.calling g mk a) (Vm.Alike.refl U.vm) qK, qG.same rfl, qD⟩
end
section
theorem nx_and (a b : Nat) : nI a &&& nI b = nI (a &&& b) := by
  apply Int32.toBitVec_inj.1
  show BitVec.ofNat 32 a &&& BitVec.ofNat 32 b = BitVec.ofNat 32 (a &&& b)
  apply BitVec.eq_of_getLsbD_eq
  intro i hi
  simp [hi]
theorem k_and_le (a b B : Nat) (h : a ≤ B) : a &&& b ≤ B := Nat.le_trans Nat.and_le_left h
/-! rows for instructions, in words of integers -/
section KROWS
variable {p : Program} {l : Launch} {e : Env} {R : Room} {s : State} {m : MethodId} {args : Array Value} {below : List Frame} {meth : Method} {c : Code} {H : Heap} {locs : List Loc} {cells slots : Nat} {Q : State → Prop}
variable {cc : ByteArray} {pc : Nat} {ls : Array Slot} {rest : List Value} {D : va_G} {cl : List vw_C} {A : Nat → Prop} {a : Nat} {tys : List (ClassId × FieldType)} {ws : va_W} {H0 : Heap}
theorem k_top {x y : Int} (h : x = y) (k : W p l e R s m args below meth c H locs cells slots Q (F0 m pc ls (.int (zI y) :: rest))) : W p l e R s m args below meth c H locs cells slots Q (F0 m pc ls (.int (zI x) :: rest)) := by
  rw [h]; exact k
theorem k_stk {st1 st2 : List Value} (h : st1 = st2) (k : W p l e R s m args below meth c H locs cells slots Q (F0 m pc ls st2)) : W p l e R s m args below meth c H locs cells slots Q (F0 m pc ls st1) := by
  rw [h]; exact k
theorem k_iadd (hx : p.tables.exec = Jvm.exec) (hb : c.code = cc) {x y v : Int} (hdg : decode cc pc = .ok (.iadd, 1)) (hv : x + y = v) (k : W p l e R s m args below meth c H locs cells slots Q (F0 m (pc + 1) ls (.int (zI v) :: rest))) : W p l e R s m args below meth c H locs cells slots Q (F0 m pc ls (.int (zI y) :: .int (zI x) :: rest)) :=
  lv_iadd hx hb hdg (by rw [zI_add, hv]; exact k)
theorem k_isub (hx : p.tables.exec = Jvm.exec) (hb : c.code = cc) {x y v : Int} (hdg : decode cc pc = .ok (.isub, 1)) (hv : x - y = v) (k : W p l e R s m args below meth c H locs cells slots Q (F0 m (pc + 1) ls (.int (zI v) :: rest))) : W p l e R s m args below meth c H locs cells slots Q (F0 m pc ls (.int (zI y) :: .int (zI x) :: rest)) :=
  lv_isub hx hb hdg (by rw [zI_sub, hv]; exact k)
theorem k_imul (hx : p.tables.exec = Jvm.exec) (hb : c.code = cc) {x y v : Int} (hdg : decode cc pc = .ok (.imul, 1)) (hv : x * y = v) (k : W p l e R s m args below meth c H locs cells slots Q (F0 m (pc + 1) ls (.int (zI v) :: rest))) : W p l e R s m args below meth c H locs cells slots Q (F0 m pc ls (.int (zI y) :: .int (zI x) :: rest)) :=
  lv_imul hx hb hdg (by rw [zI_mul, hv]; exact k)
theorem k_iand (hx : p.tables.exec = Jvm.exec) (hb : c.code = cc) {a b : Nat} (hdg : decode cc pc = .ok (.iand, 1)) (k : W p l e R s m args below meth c H locs cells slots Q (F0 m (pc + 1) ls (.int (zI ((a &&& b : Nat) : Int)) :: rest))) : W p l e R s m args below meth c H locs cells slots Q (F0 m pc ls (.int (zI (b : Int)) :: .int (zI (a : Int)) :: rest)) :=
  lv_iand hx hb hdg (by rw [zI_nat, zI_nat, nx_and, ← zI_nat]; exact k)
theorem k_iinc (hx : p.tables.exec = Jvm.exec) (hb : c.code = cc) {i nL k : Nat} {n : Int} {x v : Int} {lv lv' : List (Nat × Value)} (hdg : decode cc pc = .ok (.iinc i n, 3)) (h : lv_has ls nL lv) (hk : lv[k]? = some (i, .int (zI x))) (hv : x + n = v) (hn : i < nL) (hl : (i, Value.int (zI v)) :: lv.filter (fun q => !(q.1 == i) && !(q.1 + 1 == i && q.2.category == 2)) = lv')
    (kk : ∀ ls' : Array Slot, lv_has ls' nL lv' → W p l e R s m args below meth c H locs cells slots Q (F0 m (pc + 3) ls' rest)) : W p l e R s m args below meth c H locs cells slots Q (F0 m pc ls rest) :=
  lv_iinc hx hb hdg h hk (by subst hv; exact zI_add x n) hn hl kk
theorem k_icmp_ge (hx : p.tables.exec = Jvm.exec) (hb : c.code = cc) {x y : Int} {off : Int} {tgt : Nat} (hdg : decode cc pc = .ok (.if_icmp .ge off, 3)) (ht : (pc : Int) + off = (tgt : Int)) (h1 : k_sm x) (h2 : k_sm y)
    (kt : ¬ x < y → W p l e R s m args below meth c H locs cells slots Q (F0 m tgt ls rest)) (kf : x < y → W p l e R s m args below meth c H locs cells slots Q (F0 m (pc + 3) ls rest)) : W p l e R s m args below meth c H locs cells slots Q (F0 m pc ls (.int (zI y) :: .int (zI x) :: rest)) :=
  lv_icmp_ge hx hb hdg ht (fun h => kt (by have := (zI_le h2 h1).mp h; omega)) (fun h => kf (by have := mt (zI_le h2 h1).mpr h; omega))
theorem k_icmp_gt (hx : p.tables.exec = Jvm.exec) (hb : c.code = cc) {x y : Int} {off : Int} {tgt : Nat} (hdg : decode cc pc = .ok (.if_icmp .gt off, 3)) (ht : (pc : Int) + off = (tgt : Int)) (h1 : k_sm x) (h2 : k_sm y)
    (kt : ¬ x ≤ y → W p l e R s m args below meth c H locs cells slots Q (F0 m tgt ls rest)) (kf : x ≤ y → W p l e R s m args below meth c H locs cells slots Q (F0 m (pc + 3) ls rest)) : W p l e R s m args below meth c H locs cells slots Q (F0 m pc ls (.int (zI y) :: .int (zI x) :: rest)) :=
  lv_icmp_gt hx hb hdg ht (fun h => kt (by have := (zI_lt h2 h1).mp h; omega)) (fun h => kf (by have := mt (zI_lt h2 h1).mpr h; omega))
theorem k_icmp_lt (hx : p.tables.exec = Jvm.exec) (hb : c.code = cc) {x y : Int} {off : Int} {tgt : Nat} (hdg : decode cc pc = .ok (.if_icmp .lt off, 3)) (ht : (pc : Int) + off = (tgt : Int)) (h1 : k_sm x) (h2 : k_sm y)
    (kt : ¬ y ≤ x → W p l e R s m args below meth c H locs cells slots Q (F0 m tgt ls rest)) (kf : y ≤ x → W p l e R s m args below meth c H locs cells slots Q (F0 m (pc + 3) ls rest)) : W p l e R s m args below meth c H locs cells slots Q (F0 m pc ls (.int (zI y) :: .int (zI x) :: rest)) :=
  lv_icmp_lt hx hb hdg ht (fun h => kt (by have := (zI_lt h1 h2).mp h; omega)) (fun h => kf (by have := mt (zI_lt h1 h2).mpr h; omega))
theorem k_icmp_le (hx : p.tables.exec = Jvm.exec) (hb : c.code = cc) {x y : Int} {off : Int} {tgt : Nat} (hdg : decode cc pc = .ok (.if_icmp .le off, 3)) (ht : (pc : Int) + off = (tgt : Int)) (h1 : k_sm x) (h2 : k_sm y)
    (kt : ¬ y < x → W p l e R s m args below meth c H locs cells slots Q (F0 m tgt ls rest)) (kf : y < x → W p l e R s m args below meth c H locs cells slots Q (F0 m (pc + 3) ls rest)) : W p l e R s m args below meth c H locs cells slots Q (F0 m pc ls (.int (zI y) :: .int (zI x) :: rest)) :=
  lv_icmp_le hx hb hdg ht (fun h => kt (by have := (zI_le h1 h2).mp h; omega)) (fun h => kf (by have := mt (zI_le h1 h2).mpr h; omega))
theorem k_icmp_eq (hx : p.tables.exec = Jvm.exec) (hb : c.code = cc) {x y : Int} {off : Int} {tgt : Nat} (hdg : decode cc pc = .ok (.if_icmp .eq off, 3)) (ht : (pc : Int) + off = (tgt : Int)) (h1 : k_sm x) (h2 : k_sm y)
    (kt : ¬ x ≠ y → W p l e R s m args below meth c H locs cells slots Q (F0 m tgt ls rest)) (kf : x ≠ y → W p l e R s m args below meth c H locs cells slots Q (F0 m (pc + 3) ls rest)) : W p l e R s m args below meth c H locs cells slots Q (F0 m pc ls (.int (zI y) :: .int (zI x) :: rest)) :=
  lv_icmp_eq hx hb hdg ht (fun h => kt (fun g => g ((zI_eq h1 h2).mp h))) (fun h => kf (fun g => h ((zI_eq h1 h2).mpr g)))
theorem k_icmp_ne (hx : p.tables.exec = Jvm.exec) (hb : c.code = cc) {x y : Int} {off : Int} {tgt : Nat} (hdg : decode cc pc = .ok (.if_icmp .ne off, 3)) (ht : (pc : Int) + off = (tgt : Int)) (h1 : k_sm x) (h2 : k_sm y)
    (kt : ¬ x = y → W p l e R s m args below meth c H locs cells slots Q (F0 m tgt ls rest)) (kf : x = y → W p l e R s m args below meth c H locs cells slots Q (F0 m (pc + 3) ls rest)) : W p l e R s m args below meth c H locs cells slots Q (F0 m pc ls (.int (zI y) :: .int (zI x) :: rest)) :=
  lv_icmp_ne hx hb hdg ht (fun h => kt (fun g => h ((zI_eq h1 h2).mpr g))) (fun h => kf ((zI_eq h1 h2).mp h))
theorem k_if_lt (hx : p.tables.exec = Jvm.exec) (hb : c.code = cc) {x : Int} {off : Int} {tgt : Nat} (hdg : decode cc pc = .ok (.ifCond .lt off, 3)) (ht : (pc : Int) + off = (tgt : Int)) (h1 : k_sm x)
    (kt : ¬ 0 ≤ x → W p l e R s m args below meth c H locs cells slots Q (F0 m tgt ls rest)) (kf : 0 ≤ x → W p l e R s m args below meth c H locs cells slots Q (F0 m (pc + 3) ls rest)) : W p l e R s m args below meth c H locs cells slots Q (F0 m pc ls (.int (zI x) :: rest)) :=
  lv_if_lt hx hb hdg ht (fun h => kt (by rw [← zI_0] at h; have := (zI_lt h1 (by decide)).mp h; omega)) (fun h => kf (by rw [← zI_0] at h; have := mt (zI_lt h1 (by decide)).mpr h; omega))
theorem k_if_ge (hx : p.tables.exec = Jvm.exec) (hb : c.code = cc) {x : Int} {off : Int} {tgt : Nat} (hdg : decode cc pc = .ok (.ifCond .ge off, 3)) (ht : (pc : Int) + off = (tgt : Int)) (h1 : k_sm x)
    (kt : ¬ x < 0 → W p l e R s m args below meth c H locs cells slots Q (F0 m tgt ls rest)) (kf : x < 0 → W p l e R s m args below meth c H locs cells slots Q (F0 m (pc + 3) ls rest)) : W p l e R s m args below meth c H locs cells slots Q (F0 m pc ls (.int (zI x) :: rest)) :=
  lv_if_ge hx hb hdg ht (fun h => kt (by rw [← zI_0] at h; have := (zI_le (by decide) h1).mp h; omega)) (fun h => kf (by rw [← zI_0] at h; have := mt (zI_le (by decide) h1).mpr h; omega))
theorem k_if_le (hx : p.tables.exec = Jvm.exec) (hb : c.code = cc) {x : Int} {off : Int} {tgt : Nat} (hdg : decode cc pc = .ok (.ifCond .le off, 3)) (ht : (pc : Int) + off = (tgt : Int)) (h1 : k_sm x)
    (kt : ¬ 0 < x → W p l e R s m args below meth c H locs cells slots Q (F0 m tgt ls rest)) (kf : 0 < x → W p l e R s m args below meth c H locs cells slots Q (F0 m (pc + 3) ls rest)) : W p l e R s m args below meth c H locs cells slots Q (F0 m pc ls (.int (zI x) :: rest)) :=
  lv_if_le hx hb hdg ht (fun h => kt (by rw [← zI_0] at h; have := (zI_le h1 (by decide)).mp h; omega)) (fun h => kf (by rw [← zI_0] at h; have := mt (zI_le h1 (by decide)).mpr h; omega))
theorem k_if_gt (hx : p.tables.exec = Jvm.exec) (hb : c.code = cc) {x : Int} {off : Int} {tgt : Nat} (hdg : decode cc pc = .ok (.ifCond .gt off, 3)) (ht : (pc : Int) + off = (tgt : Int)) (h1 : k_sm x)
    (kt : ¬ x ≤ 0 → W p l e R s m args below meth c H locs cells slots Q (F0 m tgt ls rest)) (kf : x ≤ 0 → W p l e R s m args below meth c H locs cells slots Q (F0 m (pc + 3) ls rest)) : W p l e R s m args below meth c H locs cells slots Q (F0 m pc ls (.int (zI x) :: rest)) :=
  lv_if_gt hx hb hdg ht (fun h => kt (by rw [← zI_0] at h; have := (zI_lt (by decide) h1).mp h; omega)) (fun h => kf (by rw [← zI_0] at h; have := mt (zI_lt (by decide) h1).mpr h; omega))
theorem k_if_eq (hx : p.tables.exec = Jvm.exec) (hb : c.code = cc) {x : Int} {off : Int} {tgt : Nat} (hdg : decode cc pc = .ok (.ifCond .eq off, 3)) (ht : (pc : Int) + off = (tgt : Int)) (h1 : k_sm x)
    (kt : ¬ x ≠ 0 → W p l e R s m args below meth c H locs cells slots Q (F0 m tgt ls rest)) (kf : x ≠ 0 → W p l e R s m args below meth c H locs cells slots Q (F0 m (pc + 3) ls rest)) : W p l e R s m args below meth c H locs cells slots Q (F0 m pc ls (.int (zI x) :: rest)) :=
  lv_if_eq hx hb hdg ht (fun h => kt (fun g => g ((zI_eq h1 (by decide)).mp (h.trans zI_0.symm)))) (fun h => kf (fun g => h (by rw [g, zI_0])))
theorem k_if_ne (hx : p.tables.exec = Jvm.exec) (hb : c.code = cc) {x : Int} {off : Int} {tgt : Nat} (hdg : decode cc pc = .ok (.ifCond .ne off, 3)) (ht : (pc : Int) + off = (tgt : Int)) (h1 : k_sm x)
    (kt : ¬ x = 0 → W p l e R s m args below meth c H locs cells slots Q (F0 m tgt ls rest)) (kf : x = 0 → W p l e R s m args below meth c H locs cells slots Q (F0 m (pc + 3) ls rest)) : W p l e R s m args below meth c H locs cells slots Q (F0 m pc ls (.int (zI x) :: rest)) :=
  lv_if_ne hx hb hdg ht (fun h => kt (fun g => h (by rw [g, zI_0]))) (fun h => kf ((zI_eq h1 (by decide)).mp (h.trans zI_0.symm)))
/-- a truth value is looked at -/
theorem k_bif_eq (hx : p.tables.exec = Jvm.exec) (hb : c.code = cc) {P : Prop} [Decidable P] {off : Int} {tgt : Nat} (hdg : decode cc pc = .ok (.ifCond .eq off, 3)) (ht : (pc : Int) + off = (tgt : Int))
    (kt : ¬ P → W p l e R s m args below meth c H locs cells slots Q (F0 m tgt ls rest)) (kf : P → W p l e R s m args below meth c H locs cells slots Q (F0 m (pc + 3) ls rest)) : W p l e R s m args below meth c H locs cells slots Q (F0 m pc ls (.int (k_b P) :: rest)) :=
  lv_if_eq hx hb hdg ht (fun h => kt (k_b0.mp h)) (fun h => kf (Decidable.of_not_not (fun g => h (k_b0.mpr g))))
theorem k_bif_ne (hx : p.tables.exec = Jvm.exec) (hb : c.code = cc) {P : Prop} [Decidable P] {off : Int} {tgt : Nat} (hdg : decode cc pc = .ok (.ifCond .ne off, 3)) (ht : (pc : Int) + off = (tgt : Int))
    (kt : P → W p l e R s m args below meth c H locs cells slots Q (F0 m tgt ls rest)) (kf : ¬ P → W p l e R s m args below meth c H locs cells slots Q (F0 m (pc + 3) ls rest)) : W p l e R s m args below meth c H locs cells slots Q (F0 m pc ls (.int (k_b P) :: rest)) :=
  lv_if_ne hx hb hdg ht (fun h => kt (Decidable.of_not_not (fun g => h (k_b0.mpr g)))) (fun h => kf (k_b0.mp h))
theorem k_b_inj {P1 P2 : Bool} (h : k_b (P1 = true) = k_b (P2 = true)) : P1 = P2 := by
  cases P1 <;> cases P2 <;> first | rfl | (exfalso; revert h; decide)
theorem k_bcmp_ne (hx : p.tables.exec = Jvm.exec) (hb : c.code = cc) {P1 P2 : Bool} {off : Int} {tgt : Nat} (hdg : decode cc pc = .ok (.if_icmp .ne off, 3)) (ht : (pc : Int) + off = (tgt : Int))
    (kt : ¬ P1 = P2 → W p l e R s m args below meth c H locs cells slots Q (F0 m tgt ls rest)) (kf : P1 = P2 → W p l e R s m args below meth c H locs cells slots Q (F0 m (pc + 3) ls rest)) : W p l e R s m args below meth c H locs cells slots Q (F0 m pc ls (.int (k_b (P2 = true)) :: .int (k_b (P1 = true)) :: rest)) :=
  lv_icmp_ne hx hb hdg ht (fun h => kt (fun g => h (by rw [g]))) (fun h => kf (k_b_inj h))
/-- an element is read -/
theorem k_ald (hx : p.tables.exec = Jvm.exec) (hb : c.code = cc) (hK : va_K D cl tys s) (hP : va_P D cl ws H) (q0 t0 : Nat) {cA : ClassId} {n : Nat} {F : Nat → Nat} (ha : ws[q0]? = some (a, .inl (cA, n, .inl (kA F)))) (ht : tys[t0]? = some (cA, .int)) {x : Int} {i : Nat} (hxi : x = (i : Int)) (hi : i < n) (hn : n ≤ 2147483647) (hdg : decode cc pc = .ok (.iaload, 1))
    (kk : W p l e R s m args below meth c H locs cells slots Q (F0 m (pc + 1) ls (.int (zI (F i : Int)) :: rest))) : W p l e R s m args below meth c H locs cells slots Q (F0 m pc ls (.int (zI x) :: .ref a :: rest)) := by
  subst hxi
  exact va_iald hx hb hK hP q0 t0 ha ht (zI_in hi hn) hdg (by rw [zI_cl (by omega)]; exact kk)
/-- an element is written -/
theorem k_ast (hx : p.tables.exec = Jvm.exec) (hb : c.code = cc) (hK : va_K D cl tys s) (hP : va_P D cl ws H) (hD : va_D A ws) (hS : va_S A H0 H locs) (q0 t0 : Nat) {cA : ClassId} {n : Nat} {F : Nat → Nat} (ha : ws[q0]? = some (a, .inl (cA, n, .inl (kA F)))) (ht : tys[t0]? = some (cA, .int)) {x y : Int} {i v : Nat} (hxi : x = (i : Int)) (hyv : y = (v : Int)) (hi : i < n) (hn : n ≤ 2147483647) (hdg : decode cc pc = .ok (.iastore, 1))
    (kk : ∀ (H1 : Heap) (locs1 : List Loc), va_P D cl (ws.set q0 (a, .inl (cA, n, .inl (kA (va_up F i v))))) H1 → va_D A (ws.set q0 (a, .inl (cA, n, .inl (kA (va_up F i v))))) → va_S A H0 H1 locs1 → W p l e R s m args below meth c H1 locs1 cells slots Q (F0 m (pc + 1) ls rest)) : W p l e R s m args below meth c H locs cells slots Q (F0 m pc ls (.int (zI y) :: .int (zI x) :: .ref a :: rest)) := by
  subst hxi hyv
  exact va_iast hx hb hK hP hD hS q0 t0 ha ht (zI_in hi hn) hdg (fun H1 locs1 h1 h2 h3 => by
    rw [zI_cl (by omega), kA_up] at h1 h2
    exact kk H1 locs1 h1 h2 h3)
/-- Math.max, min, abs -/
theorem k_max (hx : p.tables.exec = Jvm.exec) (hb : c.code = cc) (hml : c.maxLocals = ls.size) {own : String} {index : Nat} (hown : s.vm.findClass own = some m.cls) (hlink : (Cond.methodLink own index Lib.Math.max.name).before args s = true) (hstat : (Cond.static Lib.Math.max.name).before args s = true) (hini : (Cond.initialized "java/lang/Math").before args s = true) (hcode : (Cond.code Lib.Math.max.name Lib.Math.max.code 2 (some .int)).before args s = true)
    (hframes : 1 ≤ R.frames) (hlocals : (rest.map fun v => v.category).sum + 13 ≤ R.locals) (hc : cells ≤ R.cells) (hs : slots ≤ R.slots) {x y v : Int} (hdg : decode cc pc = .ok (.invokestatic index, 3)) (h1 : k_sm x) (h2 : k_sm y) (hv : max x y = v)
    (kk : W p l e R s m args below meth c H locs cells slots Q (F0 m (pc + 3) ls (.int (zI v) :: rest))) : W p l e R s m args below meth c H locs cells slots Q (F0 m pc ls (.int (zI y) :: .int (zI x) :: rest)) :=
  va_mmax hx hb hml hown hlink hstat hini hcode hframes hlocals hc hs hdg (by
    have e : (if zI x < zI y then zI y else zI x) = zI v := by
      by_cases h : x < y
      · rw [if_pos ((zI_lt h1 h2).mpr h), ← hv]; congr 1; omega
      · rw [if_neg (mt (zI_lt h1 h2).mp h), ← hv]; congr 1; omega
    rw [e]; exact kk)
theorem k_min (hx : p.tables.exec = Jvm.exec) (hb : c.code = cc) (hml : c.maxLocals = ls.size) {own : String} {index : Nat} (hown : s.vm.findClass own = some m.cls) (hlink : (Cond.methodLink own index Lib.Math.min.name).before args s = true) (hstat : (Cond.static Lib.Math.min.name).before args s = true) (hini : (Cond.initialized "java/lang/Math").before args s = true) (hcode : (Cond.code Lib.Math.min.name Lib.Math.min.code 2 (some .int)).before args s = true)
    (hframes : 1 ≤ R.frames) (hlocals : (rest.map fun v => v.category).sum + 13 ≤ R.locals) (hc : cells ≤ R.cells) (hs : slots ≤ R.slots) {x y v : Int} (hdg : decode cc pc = .ok (.invokestatic index, 3)) (h1 : k_sm x) (h2 : k_sm y) (hv : min x y = v)
    (kk : W p l e R s m args below meth c H locs cells slots Q (F0 m (pc + 3) ls (.int (zI v) :: rest))) : W p l e R s m args below meth c H locs cells slots Q (F0 m pc ls (.int (zI y) :: .int (zI x) :: rest)) :=
  va_mmin hx hb hml hown hlink hstat hini hcode hframes hlocals hc hs hdg (by
    have e : (if zI y < zI x then zI y else zI x) = zI v := by
      by_cases h : y < x
      · rw [if_pos ((zI_lt h2 h1).mpr h), ← hv]; congr 1; omega
      · rw [if_neg (mt (zI_lt h2 h1).mp h), ← hv]; congr 1; omega
    rw [e]; exact kk)
theorem k_abs (hx : p.tables.exec = Jvm.exec) (hb : c.code = cc) (hml : c.maxLocals = ls.size) {own : String} {index : Nat} (hown : s.vm.findClass own = some m.cls) (hlink : (Cond.methodLink own index Lib.Math.abs.name).before args s = true) (hstat : (Cond.static Lib.Math.abs.name).before args s = true) (hini : (Cond.initialized "java/lang/Math").before args s = true) (hcode : (Cond.code Lib.Math.abs.name Lib.Math.abs.code 1 (some .int)).before args s = true)
    (hframes : 1 ≤ R.frames) (hlocals : (rest.map fun v => v.category).sum + 13 ≤ R.locals) (hc : cells ≤ R.cells) (hs : slots ≤ R.slots) {x v : Int} (hdg : decode cc pc = .ok (.invokestatic index, 3)) (h1 : k_sm x) (hv : v = if 0 ≤ x then x else 0 - x)
    (kk : W p l e R s m args below meth c H locs cells slots Q (F0 m (pc + 3) ls (.int (zI v) :: rest))) : W p l e R s m args below meth c H locs cells slots Q (F0 m pc ls (.int (zI x) :: rest)) :=
  va_mabs hx hb hml hown hlink hstat hini hcode hframes hlocals hc hs hdg (by
    have e : (if 0 ≤ zI x then zI x else 0 - zI x) = zI v := by
      rw [← zI_0]
      by_cases h : 0 ≤ x
      · rw [if_pos ((zI_le (by decide) h1).mpr h), hv, if_pos h]
      · rw [if_neg (mt (zI_le (by decide) h1).mp h), zI_sub, hv, if_neg h]
    rw [e]; exact kk)
/-! the start of a contract -/
theorem k_start {y : MethodName} {wsm ws' : List Cond} {rm : Room} {cc : ByteArray} {maxL : Nat} {ret : Option FieldType} {as : List Value} {wc : va_W} {Qq : (Nat → Prop) → Array Value → State → Outcome → State → Prop} (hy : plainName y.cls = true) (hw : wsm = Cond.code y cc maxL ret :: ws') (hlen : (lg_sl as).length ≤ maxL)
    (body : ∀ (p : Program) (e : Env) (s : State) (m : MethodId) (ar : Array Value) (below : List Frame) (meth : Method) (c : Code) (A : Nat → Prop) (ls : Array Slot) (Qf : State → Prop), MQ below (Qq A) ar s 0 0 A = Qf → p.tables.exec = Jvm.exec → c.code = cc → meth.sig.returnType = ret → c.maxLocals = maxL → (∀ w ∈ wsm, w.before ar s = true) → s.vm.findClass y.cls = some m.cls → meth.locks = false → meth.name = y.name → va_K D cl tys s → k_G k_ns s → (∀ q : Nat, s.heap.size ≤ q → A q) → va_P D cl wc s.heap → va_D A wc → va_S A s.heap s.heap [] → lv_has ls maxL (lv_args 0 as) →
      W p l e rm s m ar below meth c s.heap [] 0 0 Qf (F0 m 0 ls [])) : k_M l y wsm rm D cl tys as wc Qq := by
  intro sz
  refine Met.ofW (cc := cc) (maxL := maxL) (ret := ret) hy hw ?_
  intro p e s m args below meth c s₁ B hml hv
  obtain ⟨rfl, hsz, hP, hK, hG, hD0⟩ := hv
  subst hsz
  rw [lg_entry_eq]
  exact body p e s m as.toArray below meth c (va_A wc s.heap.size) _ _ rfl B.exec B.bytes B.returns hml (atoms_spec (ws := wsm) B.pre) (findClass_of_methodNamed B.named) B.notSynchronized (name_of_methodNamed B.named B.method).1 hK hG (fun q h => Or.inr h) hP hD0.self va_S.rf (lv_entry as hlen)
/-! the end of a contract -/
theorem k_iret {rr v : Int32} {wn : va_W} (hx : p.tables.exec = Jvm.exec) (hb : c.code = cc) (hr : meth.sig.returnType = some .int) (hlocks : meth.locks = false) (hP : va_P D cl wn H) (hS : va_S A s.heap H locs) (hv : v = rr) (hdg : decode cc pc = .ok (.ireturn, 1)) : W p l e R s m args below meth c H locs cells slots (MQ below (k_Qi D cl rr wn A) args s cells slots A) (F0 m pc ls [.int v]) :=
  W.iret hx hb hr (fun t ht _ => ⟨⟨v, (), rfl, hv, by subst ht; exact hP⟩, hS.F ht⟩) hS.2.2 hdg hlocks
theorem k_zret {P : Prop} [Decidable P] {v : Int32} {wn : va_W} (hx : p.tables.exec = Jvm.exec) (hb : c.code = cc) (hr : meth.sig.returnType = some .boolean) (hlocks : meth.locks = false) (hP : va_P D cl wn H) (hS : va_S A s.heap H locs) (hv : v = k_b P) (hdg : decode cc pc = .ok (.ireturn, 1)) : W p l e R s m args below meth c H locs cells slots (MQ below (k_Qi D cl (k_b P) wn A) args s cells slots A) (F0 m pc ls [.int v]) :=
  W.zret hx hb hr (by subst hv; unfold k_b; split <;> decide) (fun t ht _ => ⟨⟨v, (), rfl, hv, by subst ht; exact hP⟩, hS.F ht⟩) hS.2.2 hdg hlocks
theorem k_lret {rr v : Int64} {wn : va_W} (hx : p.tables.exec = Jvm.exec) (hb : c.code = cc) (hr : meth.sig.returnType = some .long) (hlocks : meth.locks = false) (hP : va_P D cl wn H) (hS : va_S A s.heap H locs) (hv : v = rr) (hdg : decode cc pc = .ok (.lreturn, 1)) : W p l e R s m args below meth c H locs cells slots (MQ below (k_Ql D cl rr wn A) args s cells slots A) (F0 m pc ls [.long v]) :=
  W.lret hx hb hr (fun t ht _ => ⟨⟨v, (), rfl, hv, by subst ht; exact hP⟩, hS.F ht⟩) hS.2.2 hdg hlocks
theorem k_vret {wn : va_W} (hx : p.tables.exec = Jvm.exec) (hb : c.code = cc) (hr : meth.sig.returnType = none) (hlocks : meth.locks = false) (hP : va_P D cl wn H) (hS : va_S A s.heap H locs) (hdg : decode cc pc = .ok (.return_, 1)) : W p l e R s m args below meth c H locs cells slots (MQ below (k_Qv D cl wn A) args s cells slots A) (F0 m pc ls []) :=
  W.vret hx hb hr (fun t ht _ => ⟨⟨(), rfl, trivial, by subst ht; exact hP⟩, hS.F ht⟩) hS.2.2 hdg hlocks
theorem k_aret {C : String} {rr v : Nat} {wn : va_W} (hx : p.tables.exec = Jvm.exec) (hb : c.code = cc) (hr : meth.sig.returnType = some (.object C)) (hlocks : meth.locks = false) (hP : va_P D cl wn H) (hS : va_S A s.heap H locs) (hv : v = rr) (hdg : decode cc pc = .ok (.areturn, 1)) : W p l e R s m args below meth c H locs cells slots (MQ below (k_Qr D cl rr wn A) args s cells slots A) (F0 m pc ls [.ref v]) :=
  W.aret hx hb hr (Or.inl ⟨C, rfl⟩) (Or.inr ⟨v, rfl⟩) (fun t ht _ => ⟨⟨(), v, rfl, trivial, hv, by subst ht; exact hP⟩, hS.F ht⟩) hS.2.2 hdg hlocks
/-! calls -/
theorem k_cut {wc : va_W} (hP : va_P D cl ws H) (isC : List Nat) (hC : isC.map (fun i => ws[i]?) = wc.map some) : va_P D cl wc H := fun k q h => by
  obtain ⟨i, _, h2⟩ := va_in_of isC hC h
  exact hP i q h2
theorem k_cutD {wc : va_W} (hD : va_D A ws) (isC : List Nat) (hni : va_nd isC = true) (hC : isC.map (fun i => ws[i]?) = wc.map some) : va_D (fun _ => True) wc :=
  (va_D.sub hD isC hni hC).weaken (fun _ _ _ _ => trivial)
section KCALLS
variable {y : MethodName} {bytes : ByteArray} {maxL nL n index : Nat} {ret : Option FieldType} {wsc : List Cond} {rm : Room} {Ts : List Cond} {own C : String} {b : Nat} {As : List Value} {wc wn : va_W}
/-- what is the same for all calls: the callee's start -/
theorem k_preV {ci q0 : Nat} {fs : List Value} {Tq : u_T} {Nq : Nat} (hK : va_K D cl tys s) (hG : k_G k_ns s) (hP : va_P D cl ws H) (hD : va_D A ws) (isC : List Nat) (hC : isC.map (fun i => ws[i]?) = wc.map some) (hni : va_nd isC = true) (hq : cl[ci]? = some (C, Tq, Nq)) (he : wc[q0]? = some (b, .inr (ci, fs))) : PreV s H C b (va_Pc (.ref b :: As) (k_In D cl tys wc H.size)) As :=
  ⟨k_blind, va_recv hK (k_cut hP isC hC) hq he, fun U hU hW => ⟨rfl, by rw [hU], by rw [hU]; exact k_cut hP isC hC, va_K.moved hW.alike hK, hG.warm hW, k_cutD hD isC hni hC⟩⟩
theorem k_preS (hK : va_K D cl tys s) (hG : k_G k_ns s) (hP : va_P D cl ws H) (hD : va_D A ws) (isC : List Nat) (hC : isC.map (fun i => ws[i]?) = wc.map some) (hni : va_nd isC = true) : PreS s H (va_Pc As (k_In D cl tys wc H.size)) As :=
  ⟨k_blind, fun U hU hW => ⟨rfl, by rw [hU], by rw [hU]; exact k_cut hP isC hC, va_K.moved hW.alike hK, hG.warm hW, k_cutD hD isC hni hC⟩⟩
/-- what is the same for all calls: behind it, by what comes back -/
theorem k_beI {rr : Int32} {aa : Array Value} {st0 : List Value} (hr : va_Run p l e R s m args below meth c H locs cells slots 0 0 (F0 m pc ls st0) rest (k_Qi D cl rr wn (va_A wc H.size) aa) (va_A wc H.size)) (hP : va_P D cl ws H) (hD : va_D A ws) (hS : va_S A H0 H locs) (hA : ∀ q, H0.size ≤ q → A q) (isC : List Nat) (hC : isC.map (fun i => ws[i]?) = wc.map some) (hE : wn.map (·.1) = wc.map (·.1))
    (kk : ∀ (H1 : Heap) (locs1 : List Loc), va_P D cl (k_put ws isC wn) H1 → va_D A (k_put ws isC wn) → va_S A H0 H1 locs1 → W p l e R s m args below meth c H1 locs1 cells slots Q (F0 m (pc + 3) ls (.int rr :: rest))) : W p l e R s m args below meth c H locs cells slots Q (F0 m pc ls st0) := by
  have hFc := va_free (wc := wc) hD hS hA isC hC
  refine va_calli hr hS (fun q _ h => hFc q h) hFc (fun r u t H1 locs1 ht hvm hw hB hz1 hk1 hS1 => ?_)
  subst hw
  rw [ht] at hB
  obtain ⟨g1, g2⟩ := k_frame hP hD isC hC hE hk1 hB
  exact kk H1 locs1 g1 g2 hS1
theorem k_beL {rr : Int64} {aa : Array Value} {st0 : List Value} (hr : va_Run p l e R s m args below meth c H locs cells slots 0 0 (F0 m pc ls st0) rest (k_Ql D cl rr wn (va_A wc H.size) aa) (va_A wc H.size)) (hP : va_P D cl ws H) (hD : va_D A ws) (hS : va_S A H0 H locs) (hA : ∀ q, H0.size ≤ q → A q) (isC : List Nat) (hC : isC.map (fun i => ws[i]?) = wc.map some) (hE : wn.map (·.1) = wc.map (·.1))
    (kk : ∀ (H1 : Heap) (locs1 : List Loc), va_P D cl (k_put ws isC wn) H1 → va_D A (k_put ws isC wn) → va_S A H0 H1 locs1 → W p l e R s m args below meth c H1 locs1 cells slots Q (F0 m (pc + 3) ls (.long rr :: rest))) : W p l e R s m args below meth c H locs cells slots Q (F0 m pc ls st0) := by
  have hFc := va_free (wc := wc) hD hS hA isC hC
  refine va_calll hr hS (fun q _ h => hFc q h) hFc (fun r u t H1 locs1 ht hvm hw hB hz1 hk1 hS1 => ?_)
  subst hw
  rw [ht] at hB
  obtain ⟨g1, g2⟩ := k_frame hP hD isC hC hE hk1 hB
  exact kk H1 locs1 g1 g2 hS1
theorem k_beV {aa : Array Value} {st0 : List Value} (hr : va_Run p l e R s m args below meth c H locs cells slots 0 0 (F0 m pc ls st0) rest (k_Qv D cl wn (va_A wc H.size) aa) (va_A wc H.size)) (hP : va_P D cl ws H) (hD : va_D A ws) (hS : va_S A H0 H locs) (hA : ∀ q, H0.size ≤ q → A q) (isC : List Nat) (hC : isC.map (fun i => ws[i]?) = wc.map some) (hE : wn.map (·.1) = wc.map (·.1))
    (kk : ∀ (H1 : Heap) (locs1 : List Loc), va_P D cl (k_put ws isC wn) H1 → va_D A (k_put ws isC wn) → va_S A H0 H1 locs1 → W p l e R s m args below meth c H1 locs1 cells slots Q (F0 m (pc + 3) ls rest)) : W p l e R s m args below meth c H locs cells slots Q (F0 m pc ls st0) := by
  have hFc := va_free (wc := wc) hD hS hA isC hC
  refine va_callv hr hS (fun q _ h => hFc q h) hFc (fun u t H1 locs1 ht hvm hw hB hz1 hk1 hS1 => ?_)
  rw [ht] at hB
  obtain ⟨g1, g2⟩ := k_frame hP hD isC hC hE hk1 hB
  exact kk H1 locs1 g1 g2 hS1
theorem k_beR {rr : Nat} {aa : Array Value} {st0 : List Value} (hr : va_Run p l e R s m args below meth c H locs cells slots 0 0 (F0 m pc ls st0) rest (k_Qr D cl rr wn (va_A wc H.size) aa) (va_A wc H.size)) (hP : va_P D cl ws H) (hD : va_D A ws) (hS : va_S A H0 H locs) (hA : ∀ q, H0.size ≤ q → A q) (isC : List Nat) (hC : isC.map (fun i => ws[i]?) = wc.map some) (hE : wn.map (·.1) = wc.map (·.1))
    (kk : ∀ (H1 : Heap) (locs1 : List Loc), va_P D cl (k_put ws isC wn) H1 → va_D A (k_put ws isC wn) → va_S A H0 H1 locs1 → W p l e R s m args below meth c H1 locs1 cells slots Q (F0 m (pc + 3) ls (.ref rr :: rest))) : W p l e R s m args below meth c H locs cells slots Q (F0 m pc ls st0) := by
  have hFc := va_free (wc := wc) hD hS hA isC hC
  refine va_callr hr hS (fun q _ h => hFc q h) hFc (fun u ra t H1 locs1 ht hvm hw hB hz1 hk1 hS1 => ?_)
  obtain ⟨rfl, hB⟩ := hB
  rw [ht] at hB
  obtain ⟨g1, g2⟩ := k_frame hP hD isC hC hE hk1 hB
  exact kk H1 locs1 g1 g2 hS1
end KCALLS
end KROWS
end
section
theorem d_Pm_isPlace_0 : decode b_Pm_isPlace 0 = .ok (.iload_n 0, 1) := by decide +kernel
theorem d_Pm_isPlace_1 : decode b_Pm_isPlace 1 = .ok (.ifCond .lt 13, 3) := by decide +kernel
theorem d_Pm_isPlace_4 : decode b_Pm_isPlace 4 = .ok (.iload_n 0, 1) := by decide +kernel
theorem d_Pm_isPlace_5 : decode b_Pm_isPlace 5 = .ok (.bipush 30, 2) := by decide +kernel
theorem d_Pm_isPlace_7 : decode b_Pm_isPlace 7 = .ok (.if_icmp .ge 7, 3) := by decide +kernel
theorem d_Pm_isPlace_10 : decode b_Pm_isPlace 10 = .ok (.iconst 1, 1) := by decide +kernel
theorem d_Pm_isPlace_11 : decode b_Pm_isPlace 11 = .ok (.goto 4, 3) := by decide +kernel
theorem d_Pm_isPlace_14 : decode b_Pm_isPlace 14 = .ok (.iconst 0, 1) := by decide +kernel
theorem d_Pm_isPlace_15 : decode b_Pm_isPlace 15 = .ok (.ireturn, 1) := by decide +kernel
theorem d_Pm_isSet_0 : decode b_Pm_isSet 0 = .ok (.iload_n 0, 1) := by decide +kernel
theorem d_Pm_isSet_1 : decode b_Pm_isSet 1 = .ok (.ifCond .lt 14, 3) := by decide +kernel
theorem d_Pm_isSet_4 : decode b_Pm_isSet 4 = .ok (.iload_n 0, 1) := by decide +kernel
theorem d_Pm_isSet_5 : decode b_Pm_isSet 5 = .ok (.sipush 1023, 3) := by decide +kernel
theorem d_Pm_isSet_8 : decode b_Pm_isSet 8 = .ok (.if_icmp .gt 7, 3) := by decide +kernel
theorem d_Pm_isSet_11 : decode b_Pm_isSet 11 = .ok (.iconst 1, 1) := by decide +kernel
theorem d_Pm_isSet_12 : decode b_Pm_isSet 12 = .ok (.goto 4, 3) := by decide +kernel
theorem d_Pm_isSet_15 : decode b_Pm_isSet 15 = .ok (.iconst 0, 1) := by decide +kernel
theorem d_Pm_isSet_16 : decode b_Pm_isSet 16 = .ok (.ireturn, 1) := by decide +kernel
theorem d_Pm_isSlop_0 : decode b_Pm_isSlop 0 = .ok (.iload_n 0, 1) := by decide +kernel
theorem d_Pm_isSlop_1 : decode b_Pm_isSlop 1 = .ok (.ifCond .lt 13, 3) := by decide +kernel
theorem d_Pm_isSlop_4 : decode b_Pm_isSlop 4 = .ok (.iload_n 0, 1) := by decide +kernel
theorem d_Pm_isSlop_5 : decode b_Pm_isSlop 5 = .ok (.bipush 9, 2) := by decide +kernel
theorem d_Pm_isSlop_7 : decode b_Pm_isSlop 7 = .ok (.if_icmp .gt 7, 3) := by decide +kernel
theorem d_Pm_isSlop_10 : decode b_Pm_isSlop 10 = .ok (.iconst 1, 1) := by decide +kernel
theorem d_Pm_isSlop_11 : decode b_Pm_isSlop 11 = .ok (.goto 4, 3) := by decide +kernel
theorem d_Pm_isSlop_14 : decode b_Pm_isSlop 14 = .ok (.iconst 0, 1) := by decide +kernel
theorem d_Pm_isSlop_15 : decode b_Pm_isSlop 15 = .ok (.ireturn, 1) := by decide +kernel
theorem d_Pm_isKind_0 : decode b_Pm_isKind 0 = .ok (.iload_n 0, 1) := by decide +kernel
theorem d_Pm_isKind_1 : decode b_Pm_isKind 1 = .ok (.ifCond .lt 13, 3) := by decide +kernel
theorem d_Pm_isKind_4 : decode b_Pm_isKind 4 = .ok (.iload_n 0, 1) := by decide +kernel
theorem d_Pm_isKind_5 : decode b_Pm_isKind 5 = .ok (.bipush 10, 2) := by decide +kernel
theorem d_Pm_isKind_7 : decode b_Pm_isKind 7 = .ok (.if_icmp .gt 7, 3) := by decide +kernel
theorem d_Pm_isKind_10 : decode b_Pm_isKind 10 = .ok (.iconst 1, 1) := by decide +kernel
theorem d_Pm_isKind_11 : decode b_Pm_isKind 11 = .ok (.goto 4, 3) := by decide +kernel
theorem d_Pm_isKind_14 : decode b_Pm_isKind 14 = .ok (.iconst 0, 1) := by decide +kernel
theorem d_Pm_isKind_15 : decode b_Pm_isKind 15 = .ok (.ireturn, 1) := by decide +kernel
theorem d_Pm_isNumberOf_0 : decode b_Pm_isNumberOf 0 = .ok (.iload_n 1, 1) := by decide +kernel
theorem d_Pm_isNumberOf_1 : decode b_Pm_isNumberOf 1 = .ok (.ifCond .lt 26, 3) := by decide +kernel
theorem d_Pm_isNumberOf_4 : decode b_Pm_isNumberOf 4 = .ok (.iload_n 0, 1) := by decide +kernel
theorem d_Pm_isNumberOf_5 : decode b_Pm_isNumberOf 5 = .ok (.ifCond .ne 12, 3) := by decide +kernel
theorem d_Pm_isNumberOf_8 : decode b_Pm_isNumberOf 8 = .ok (.iload_n 1, 1) := by decide +kernel
theorem d_Pm_isNumberOf_9 : decode b_Pm_isNumberOf 9 = .ok (.bipush 10, 2) := by decide +kernel
theorem d_Pm_isNumberOf_11 : decode b_Pm_isNumberOf 11 = .ok (.if_icmp .ge 16, 3) := by decide +kernel
theorem d_Pm_isNumberOf_14 : decode b_Pm_isNumberOf 14 = .ok (.goto 9, 3) := by decide +kernel
theorem d_Pm_isNumberOf_17 : decode b_Pm_isNumberOf 17 = .ok (.iload_n 1, 1) := by decide +kernel
theorem d_Pm_isNumberOf_18 : decode b_Pm_isNumberOf 18 = .ok (.bipush 30, 2) := by decide +kernel
theorem d_Pm_isNumberOf_20 : decode b_Pm_isNumberOf 20 = .ok (.if_icmp .gt 7, 3) := by decide +kernel
theorem d_Pm_isNumberOf_23 : decode b_Pm_isNumberOf 23 = .ok (.iconst 1, 1) := by decide +kernel
theorem d_Pm_isNumberOf_24 : decode b_Pm_isNumberOf 24 = .ok (.goto 4, 3) := by decide +kernel
theorem d_Pm_isNumberOf_27 : decode b_Pm_isNumberOf 27 = .ok (.iconst 0, 1) := by decide +kernel
theorem d_Pm_isNumberOf_28 : decode b_Pm_isNumberOf 28 = .ok (.ireturn, 1) := by decide +kernel
theorem d_Pm_countsFirst_0 : decode b_Pm_countsFirst 0 = .ok (.iload_n 0, 1) := by decide +kernel
theorem d_Pm_countsFirst_1 : decode b_Pm_countsFirst 1 = .ok (.ifCond .eq 7, 3) := by decide +kernel
theorem d_Pm_countsFirst_4 : decode b_Pm_countsFirst 4 = .ok (.iconst 1, 1) := by decide +kernel
theorem d_Pm_countsFirst_5 : decode b_Pm_countsFirst 5 = .ok (.goto 4, 3) := by decide +kernel
theorem d_Pm_countsFirst_8 : decode b_Pm_countsFirst 8 = .ok (.iconst 0, 1) := by decide +kernel
theorem d_Pm_countsFirst_9 : decode b_Pm_countsFirst 9 = .ok (.ireturn, 1) := by decide +kernel
theorem d_Pm_countsSecond_0 : decode b_Pm_countsSecond 0 = .ok (.iload_n 0, 1) := by decide +kernel
theorem d_Pm_countsSecond_1 : decode b_Pm_countsSecond 1 = .ok (.iconst 1, 1) := by decide +kernel
theorem d_Pm_countsSecond_2 : decode b_Pm_countsSecond 2 = .ok (.if_icmp .lt 13, 3) := by decide +kernel
theorem d_Pm_countsSecond_5 : decode b_Pm_countsSecond 5 = .ok (.iload_n 0, 1) := by decide +kernel
theorem d_Pm_countsSecond_6 : decode b_Pm_countsSecond 6 = .ok (.bipush 8, 2) := by decide +kernel
theorem d_Pm_countsSecond_8 : decode b_Pm_countsSecond 8 = .ok (.if_icmp .gt 7, 3) := by decide +kernel
theorem d_Pm_countsSecond_11 : decode b_Pm_countsSecond 11 = .ok (.iconst 1, 1) := by decide +kernel
theorem d_Pm_countsSecond_12 : decode b_Pm_countsSecond 12 = .ok (.goto 4, 3) := by decide +kernel
theorem d_Pm_countsSecond_15 : decode b_Pm_countsSecond 15 = .ok (.iconst 0, 1) := by decide +kernel
theorem d_Pm_countsSecond_16 : decode b_Pm_countsSecond 16 = .ok (.ireturn, 1) := by decide +kernel
theorem d_Pm_countsNumber_0 : decode b_Pm_countsNumber 0 = .ok (.iload_n 0, 1) := by decide +kernel
theorem d_Pm_countsNumber_1 : decode b_Pm_countsNumber 1 = .ok (.iconst 1, 1) := by decide +kernel
theorem d_Pm_countsNumber_2 : decode b_Pm_countsNumber 2 = .ok (.if_icmp .eq 24, 3) := by decide +kernel
theorem d_Pm_countsNumber_5 : decode b_Pm_countsNumber 5 = .ok (.iload_n 0, 1) := by decide +kernel
theorem d_Pm_countsNumber_6 : decode b_Pm_countsNumber 6 = .ok (.iconst 5, 1) := by decide +kernel
theorem d_Pm_countsNumber_7 : decode b_Pm_countsNumber 7 = .ok (.if_icmp .eq 19, 3) := by decide +kernel
theorem d_Pm_countsNumber_10 : decode b_Pm_countsNumber 10 = .ok (.iload_n 0, 1) := by decide +kernel
theorem d_Pm_countsNumber_11 : decode b_Pm_countsNumber 11 = .ok (.bipush 6, 2) := by decide +kernel
theorem d_Pm_countsNumber_13 : decode b_Pm_countsNumber 13 = .ok (.if_icmp .eq 13, 3) := by decide +kernel
theorem d_Pm_countsNumber_16 : decode b_Pm_countsNumber 16 = .ok (.iload_n 0, 1) := by decide +kernel
theorem d_Pm_countsNumber_17 : decode b_Pm_countsNumber 17 = .ok (.bipush 7, 2) := by decide +kernel
theorem d_Pm_countsNumber_19 : decode b_Pm_countsNumber 19 = .ok (.if_icmp .eq 7, 3) := by decide +kernel
theorem d_Pm_countsNumber_22 : decode b_Pm_countsNumber 22 = .ok (.iconst 1, 1) := by decide +kernel
theorem d_Pm_countsNumber_23 : decode b_Pm_countsNumber 23 = .ok (.goto 4, 3) := by decide +kernel
theorem d_Pm_countsNumber_26 : decode b_Pm_countsNumber 26 = .ok (.iconst 0, 1) := by decide +kernel
theorem d_Pm_countsNumber_27 : decode b_Pm_countsNumber 27 = .ok (.ireturn, 1) := by decide +kernel
theorem d_Ro_init_0 : decode b_Ro_init 0 = .ok (.aload_n 0, 1) := by decide +kernel
theorem d_Ro_init_1 : decode b_Ro_init 1 = .ok (.invokespecial 3, 3) := by decide +kernel
theorem d_Ro_init_4 : decode b_Ro_init 4 = .ok (.aload_n 0, 1) := by decide +kernel
theorem d_Ro_init_5 : decode b_Ro_init 5 = .ok (.bipush 30, 2) := by decide +kernel
theorem d_Ro_init_7 : decode b_Ro_init 7 = .ok (.newarray .int, 2) := by decide +kernel
theorem d_Ro_init_9 : decode b_Ro_init 9 = .ok (.putfield 9, 3) := by decide +kernel
theorem d_Ro_init_12 : decode b_Ro_init 12 = .ok (.aload_n 0, 1) := by decide +kernel
theorem d_Ro_init_13 : decode b_Ro_init 13 = .ok (.getfield 9, 3) := by decide +kernel
theorem d_Ro_init_16 : decode b_Ro_init 16 = .ok (.bipush 30, 2) := by decide +kernel
theorem d_Ro_init_18 : decode b_Ro_init 18 = .ok (.invokestatic 15, 3) := by decide +kernel
theorem d_Ro_init_21 : decode b_Ro_init 21 = .ok (.return_, 1) := by decide +kernel
theorem d_Ro_empty_0 : decode b_Ro_empty 0 = .ok (.aload_n 0, 1) := by decide +kernel
theorem d_Ro_empty_1 : decode b_Ro_empty 1 = .ok (.getfield 9, 3) := by decide +kernel
theorem d_Ro_empty_4 : decode b_Ro_empty 4 = .ok (.bipush 30, 2) := by decide +kernel
theorem d_Ro_empty_6 : decode b_Ro_empty 6 = .ok (.invokestatic 15, 3) := by decide +kernel
theorem d_Ro_empty_9 : decode b_Ro_empty 9 = .ok (.return_, 1) := by decide +kernel
theorem d_Ro_add_0 : decode b_Ro_add 0 = .ok (.iload_n 1, 1) := by decide +kernel
theorem d_Ro_add_1 : decode b_Ro_add 1 = .ok (.invokestatic 21, 3) := by decide +kernel
theorem d_Ro_add_4 : decode b_Ro_add 4 = .ok (.ifCond .eq 20, 3) := by decide +kernel
theorem d_Ro_add_7 : decode b_Ro_add 7 = .ok (.iload_n 2, 1) := by decide +kernel
theorem d_Ro_add_8 : decode b_Ro_add 8 = .ok (.aload_n 0, 1) := by decide +kernel
theorem d_Ro_add_9 : decode b_Ro_add 9 = .ok (.getfield 9, 3) := by decide +kernel
theorem d_Ro_add_12 : decode b_Ro_add 12 = .ok (.iload_n 1, 1) := by decide +kernel
theorem d_Ro_add_13 : decode b_Ro_add 13 = .ok (.iaload, 1) := by decide +kernel
theorem d_Ro_add_14 : decode b_Ro_add 14 = .ok (.if_icmp .ge 10, 3) := by decide +kernel
theorem d_Ro_add_17 : decode b_Ro_add 17 = .ok (.aload_n 0, 1) := by decide +kernel
theorem d_Ro_add_18 : decode b_Ro_add 18 = .ok (.getfield 9, 3) := by decide +kernel
theorem d_Ro_add_21 : decode b_Ro_add 21 = .ok (.iload_n 1, 1) := by decide +kernel
theorem d_Ro_add_22 : decode b_Ro_add 22 = .ok (.iload_n 2, 1) := by decide +kernel
theorem d_Ro_add_23 : decode b_Ro_add 23 = .ok (.iastore, 1) := by decide +kernel
theorem d_Ro_add_24 : decode b_Ro_add 24 = .ok (.return_, 1) := by decide +kernel
theorem d_Ro_keepLeast_0 : decode b_Ro_keepLeast 0 = .ok (.bipush 30, 2) := by decide +kernel
theorem d_Ro_keepLeast_2 : decode b_Ro_keepLeast 2 = .ok (.istore_n 1, 1) := by decide +kernel
theorem d_Ro_keepLeast_3 : decode b_Ro_keepLeast 3 = .ok (.bipush 29, 2) := by decide +kernel
theorem d_Ro_keepLeast_5 : decode b_Ro_keepLeast 5 = .ok (.istore_n 2, 1) := by decide +kernel
theorem d_Ro_keepLeast_6 : decode b_Ro_keepLeast 6 = .ok (.iload_n 2, 1) := by decide +kernel
theorem d_Ro_keepLeast_7 : decode b_Ro_keepLeast 7 = .ok (.ifCond .lt 37, 3) := by decide +kernel
theorem d_Ro_keepLeast_10 : decode b_Ro_keepLeast 10 = .ok (.aload_n 0, 1) := by decide +kernel
theorem d_Ro_keepLeast_11 : decode b_Ro_keepLeast 11 = .ok (.getfield 9, 3) := by decide +kernel
theorem d_Ro_keepLeast_14 : decode b_Ro_keepLeast 14 = .ok (.iload_n 2, 1) := by decide +kernel
theorem d_Ro_keepLeast_15 : decode b_Ro_keepLeast 15 = .ok (.iaload, 1) := by decide +kernel
theorem d_Ro_keepLeast_16 : decode b_Ro_keepLeast 16 = .ok (.iload_n 1, 1) := by decide +kernel
theorem d_Ro_keepLeast_17 : decode b_Ro_keepLeast 17 = .ok (.if_icmp .ge 13, 3) := by decide +kernel
theorem d_Ro_keepLeast_20 : decode b_Ro_keepLeast 20 = .ok (.aload_n 0, 1) := by decide +kernel
theorem d_Ro_keepLeast_21 : decode b_Ro_keepLeast 21 = .ok (.getfield 9, 3) := by decide +kernel
theorem d_Ro_keepLeast_24 : decode b_Ro_keepLeast 24 = .ok (.iload_n 2, 1) := by decide +kernel
theorem d_Ro_keepLeast_25 : decode b_Ro_keepLeast 25 = .ok (.iaload, 1) := by decide +kernel
theorem d_Ro_keepLeast_26 : decode b_Ro_keepLeast 26 = .ok (.istore_n 1, 1) := by decide +kernel
theorem d_Ro_keepLeast_27 : decode b_Ro_keepLeast 27 = .ok (.goto 11, 3) := by decide +kernel
theorem d_Ro_keepLeast_30 : decode b_Ro_keepLeast 30 = .ok (.aload_n 0, 1) := by decide +kernel
theorem d_Ro_keepLeast_31 : decode b_Ro_keepLeast 31 = .ok (.getfield 9, 3) := by decide +kernel
theorem d_Ro_keepLeast_34 : decode b_Ro_keepLeast 34 = .ok (.iload_n 2, 1) := by decide +kernel
theorem d_Ro_keepLeast_35 : decode b_Ro_keepLeast 35 = .ok (.bipush 30, 2) := by decide +kernel
theorem d_Ro_keepLeast_37 : decode b_Ro_keepLeast 37 = .ok (.iastore, 1) := by decide +kernel
theorem d_Ro_keepLeast_38 : decode b_Ro_keepLeast 38 = .ok (.iinc 2 (-1), 3) := by decide +kernel
theorem d_Ro_keepLeast_41 : decode b_Ro_keepLeast 41 = .ok (.goto (-35), 3) := by decide +kernel
theorem d_Ro_keepLeast_44 : decode b_Ro_keepLeast 44 = .ok (.return_, 1) := by decide +kernel
theorem d_Ro_beginsAt_0 : decode b_Ro_beginsAt 0 = .ok (.iload_n 1, 1) := by decide +kernel
theorem d_Ro_beginsAt_1 : decode b_Ro_beginsAt 1 = .ok (.invokestatic 21, 3) := by decide +kernel
theorem d_Ro_beginsAt_4 : decode b_Ro_beginsAt 4 = .ok (.ifCond .eq 18, 3) := by decide +kernel
theorem d_Ro_beginsAt_7 : decode b_Ro_beginsAt 7 = .ok (.aload_n 0, 1) := by decide +kernel
theorem d_Ro_beginsAt_8 : decode b_Ro_beginsAt 8 = .ok (.getfield 9, 3) := by decide +kernel
theorem d_Ro_beginsAt_11 : decode b_Ro_beginsAt 11 = .ok (.iload_n 1, 1) := by decide +kernel
theorem d_Ro_beginsAt_12 : decode b_Ro_beginsAt 12 = .ok (.iaload, 1) := by decide +kernel
theorem d_Ro_beginsAt_13 : decode b_Ro_beginsAt 13 = .ok (.bipush 30, 2) := by decide +kernel
theorem d_Ro_beginsAt_15 : decode b_Ro_beginsAt 15 = .ok (.if_icmp .eq 7, 3) := by decide +kernel
theorem d_Ro_beginsAt_18 : decode b_Ro_beginsAt 18 = .ok (.iconst 1, 1) := by decide +kernel
theorem d_Ro_beginsAt_19 : decode b_Ro_beginsAt 19 = .ok (.goto 4, 3) := by decide +kernel
theorem d_Ro_beginsAt_22 : decode b_Ro_beginsAt 22 = .ok (.iconst 0, 1) := by decide +kernel
theorem d_Ro_beginsAt_23 : decode b_Ro_beginsAt 23 = .ok (.ireturn, 1) := by decide +kernel
theorem d_Ro_size_0 : decode b_Ro_size 0 = .ok (.iconst 0, 1) := by decide +kernel
theorem d_Ro_size_1 : decode b_Ro_size 1 = .ok (.istore_n 1, 1) := by decide +kernel
theorem d_Ro_size_2 : decode b_Ro_size 2 = .ok (.iconst 0, 1) := by decide +kernel
theorem d_Ro_size_3 : decode b_Ro_size 3 = .ok (.istore_n 2, 1) := by decide +kernel
theorem d_Ro_size_4 : decode b_Ro_size 4 = .ok (.iload_n 2, 1) := by decide +kernel
theorem d_Ro_size_5 : decode b_Ro_size 5 = .ok (.bipush 30, 2) := by decide +kernel
theorem d_Ro_size_7 : decode b_Ro_size 7 = .ok (.if_icmp .ge 20, 3) := by decide +kernel
theorem d_Ro_size_10 : decode b_Ro_size 10 = .ok (.aload_n 0, 1) := by decide +kernel
theorem d_Ro_size_11 : decode b_Ro_size 11 = .ok (.iload_n 2, 1) := by decide +kernel
theorem d_Ro_size_12 : decode b_Ro_size 12 = .ok (.invokevirtual 25, 3) := by decide +kernel
theorem d_Ro_size_15 : decode b_Ro_size 15 = .ok (.ifCond .eq 6, 3) := by decide +kernel
theorem d_Ro_size_18 : decode b_Ro_size 18 = .ok (.iinc 1 1, 3) := by decide +kernel
theorem d_Ro_size_21 : decode b_Ro_size 21 = .ok (.iinc 2 1, 3) := by decide +kernel
theorem d_Ro_size_24 : decode b_Ro_size 24 = .ok (.goto (-20), 3) := by decide +kernel
theorem d_Ro_size_27 : decode b_Ro_size 27 = .ok (.iload_n 1, 1) := by decide +kernel
theorem d_Ro_size_28 : decode b_Ro_size 28 = .ok (.ireturn, 1) := by decide +kernel
theorem d_Ro_beginOf_0 : decode b_Ro_beginOf 0 = .ok (.iconst 0, 1) := by decide +kernel
theorem d_Ro_beginOf_1 : decode b_Ro_beginOf 1 = .ok (.istore_n 2, 1) := by decide +kernel
theorem d_Ro_beginOf_2 : decode b_Ro_beginOf 2 = .ok (.iconst 0, 1) := by decide +kernel
theorem d_Ro_beginOf_3 : decode b_Ro_beginOf 3 = .ok (.istore_n 3, 1) := by decide +kernel
theorem d_Ro_beginOf_4 : decode b_Ro_beginOf 4 = .ok (.iload_n 3, 1) := by decide +kernel
theorem d_Ro_beginOf_5 : decode b_Ro_beginOf 5 = .ok (.bipush 30, 2) := by decide +kernel
theorem d_Ro_beginOf_7 : decode b_Ro_beginOf 7 = .ok (.if_icmp .ge 27, 3) := by decide +kernel
theorem d_Ro_beginOf_10 : decode b_Ro_beginOf 10 = .ok (.aload_n 0, 1) := by decide +kernel
theorem d_Ro_beginOf_11 : decode b_Ro_beginOf 11 = .ok (.iload_n 3, 1) := by decide +kernel
theorem d_Ro_beginOf_12 : decode b_Ro_beginOf 12 = .ok (.invokevirtual 25, 3) := by decide +kernel
theorem d_Ro_beginOf_15 : decode b_Ro_beginOf 15 = .ok (.ifCond .eq 13, 3) := by decide +kernel
theorem d_Ro_beginOf_18 : decode b_Ro_beginOf 18 = .ok (.iload_n 2, 1) := by decide +kernel
theorem d_Ro_beginOf_19 : decode b_Ro_beginOf 19 = .ok (.iload_n 1, 1) := by decide +kernel
theorem d_Ro_beginOf_20 : decode b_Ro_beginOf 20 = .ok (.if_icmp .ne 5, 3) := by decide +kernel
theorem d_Ro_beginOf_23 : decode b_Ro_beginOf 23 = .ok (.iload_n 3, 1) := by decide +kernel
theorem d_Ro_beginOf_24 : decode b_Ro_beginOf 24 = .ok (.ireturn, 1) := by decide +kernel
theorem d_Ro_beginOf_25 : decode b_Ro_beginOf 25 = .ok (.iinc 2 1, 3) := by decide +kernel
theorem d_Ro_beginOf_28 : decode b_Ro_beginOf 28 = .ok (.iinc 3 1, 3) := by decide +kernel
theorem d_Ro_beginOf_31 : decode b_Ro_beginOf 31 = .ok (.goto (-27), 3) := by decide +kernel
theorem d_Ro_beginOf_34 : decode b_Ro_beginOf 34 = .ok (.iconst (-1), 1) := by decide +kernel
theorem d_Ro_beginOf_35 : decode b_Ro_beginOf 35 = .ok (.ireturn, 1) := by decide +kernel
theorem d_Ro_endOf_0 : decode b_Ro_endOf 0 = .ok (.aload_n 0, 1) := by decide +kernel
theorem d_Ro_endOf_1 : decode b_Ro_endOf 1 = .ok (.iload_n 1, 1) := by decide +kernel
theorem d_Ro_endOf_2 : decode b_Ro_endOf 2 = .ok (.invokevirtual 28, 3) := by decide +kernel
theorem d_Ro_endOf_5 : decode b_Ro_endOf 5 = .ok (.istore_n 2, 1) := by decide +kernel
theorem d_Ro_endOf_6 : decode b_Ro_endOf 6 = .ok (.iload_n 2, 1) := by decide +kernel
theorem d_Ro_endOf_7 : decode b_Ro_endOf 7 = .ok (.invokestatic 21, 3) := by decide +kernel
theorem d_Ro_endOf_10 : decode b_Ro_endOf 10 = .ok (.ifCond .eq 12, 3) := by decide +kernel
theorem d_Ro_endOf_13 : decode b_Ro_endOf 13 = .ok (.aload_n 0, 1) := by decide +kernel
theorem d_Ro_endOf_14 : decode b_Ro_endOf 14 = .ok (.getfield 9, 3) := by decide +kernel
theorem d_Ro_endOf_17 : decode b_Ro_endOf 17 = .ok (.iload_n 2, 1) := by decide +kernel
theorem d_Ro_endOf_18 : decode b_Ro_endOf 18 = .ok (.iaload, 1) := by decide +kernel
theorem d_Ro_endOf_19 : decode b_Ro_endOf 19 = .ok (.goto 4, 3) := by decide +kernel
theorem d_Ro_endOf_22 : decode b_Ro_endOf 22 = .ok (.iconst (-1), 1) := by decide +kernel
theorem d_Ro_endOf_23 : decode b_Ro_endOf 23 = .ok (.ireturn, 1) := by decide +kernel
theorem d_Ro_placesCovered_0 : decode b_Ro_placesCovered 0 = .ok (.iconst 0, 1) := by decide +kernel
theorem d_Ro_placesCovered_1 : decode b_Ro_placesCovered 1 = .ok (.istore_n 1, 1) := by decide +kernel
theorem d_Ro_placesCovered_2 : decode b_Ro_placesCovered 2 = .ok (.iconst (-1), 1) := by decide +kernel
theorem d_Ro_placesCovered_3 : decode b_Ro_placesCovered 3 = .ok (.istore_n 2, 1) := by decide +kernel
theorem d_Ro_placesCovered_4 : decode b_Ro_placesCovered 4 = .ok (.iconst 0, 1) := by decide +kernel
theorem d_Ro_placesCovered_5 : decode b_Ro_placesCovered 5 = .ok (.istore_n 3, 1) := by decide +kernel
theorem d_Ro_placesCovered_6 : decode b_Ro_placesCovered 6 = .ok (.iload_n 3, 1) := by decide +kernel
theorem d_Ro_placesCovered_7 : decode b_Ro_placesCovered 7 = .ok (.bipush 30, 2) := by decide +kernel
theorem d_Ro_placesCovered_9 : decode b_Ro_placesCovered 9 = .ok (.if_icmp .ge 41, 3) := by decide +kernel
theorem d_Ro_placesCovered_12 : decode b_Ro_placesCovered 12 = .ok (.aload_n 0, 1) := by decide +kernel
theorem d_Ro_placesCovered_13 : decode b_Ro_placesCovered 13 = .ok (.iload_n 3, 1) := by decide +kernel
theorem d_Ro_placesCovered_14 : decode b_Ro_placesCovered 14 = .ok (.invokevirtual 25, 3) := by decide +kernel
theorem d_Ro_placesCovered_17 : decode b_Ro_placesCovered 17 = .ok (.ifCond .eq 27, 3) := by decide +kernel
theorem d_Ro_placesCovered_20 : decode b_Ro_placesCovered 20 = .ok (.iload_n 1, 1) := by decide +kernel
theorem d_Ro_placesCovered_21 : decode b_Ro_placesCovered 21 = .ok (.aload_n 0, 1) := by decide +kernel
theorem d_Ro_placesCovered_22 : decode b_Ro_placesCovered 22 = .ok (.getfield 9, 3) := by decide +kernel
theorem d_Ro_placesCovered_25 : decode b_Ro_placesCovered 25 = .ok (.iload_n 3, 1) := by decide +kernel
theorem d_Ro_placesCovered_26 : decode b_Ro_placesCovered 26 = .ok (.iaload, 1) := by decide +kernel
theorem d_Ro_placesCovered_27 : decode b_Ro_placesCovered 27 = .ok (.iload_n 2, 1) := by decide +kernel
theorem d_Ro_placesCovered_28 : decode b_Ro_placesCovered 28 = .ok (.iload_n 3, 1) := by decide +kernel
theorem d_Ro_placesCovered_29 : decode b_Ro_placesCovered 29 = .ok (.iconst 1, 1) := by decide +kernel
theorem d_Ro_placesCovered_30 : decode b_Ro_placesCovered 30 = .ok (.isub, 1) := by decide +kernel
theorem d_Ro_placesCovered_31 : decode b_Ro_placesCovered 31 = .ok (.invokestatic 32, 3) := by decide +kernel
theorem d_Ro_placesCovered_34 : decode b_Ro_placesCovered 34 = .ok (.isub, 1) := by decide +kernel
theorem d_Ro_placesCovered_35 : decode b_Ro_placesCovered 35 = .ok (.iadd, 1) := by decide +kernel
theorem d_Ro_placesCovered_36 : decode b_Ro_placesCovered 36 = .ok (.istore_n 1, 1) := by decide +kernel
theorem d_Ro_placesCovered_37 : decode b_Ro_placesCovered 37 = .ok (.aload_n 0, 1) := by decide +kernel
theorem d_Ro_placesCovered_38 : decode b_Ro_placesCovered 38 = .ok (.getfield 9, 3) := by decide +kernel
theorem d_Ro_placesCovered_41 : decode b_Ro_placesCovered 41 = .ok (.iload_n 3, 1) := by decide +kernel
theorem d_Ro_placesCovered_42 : decode b_Ro_placesCovered 42 = .ok (.iaload, 1) := by decide +kernel
theorem d_Ro_placesCovered_43 : decode b_Ro_placesCovered 43 = .ok (.istore_n 2, 1) := by decide +kernel
theorem d_Ro_placesCovered_44 : decode b_Ro_placesCovered 44 = .ok (.iinc 3 1, 3) := by decide +kernel
theorem d_Ro_placesCovered_47 : decode b_Ro_placesCovered 47 = .ok (.goto (-41), 3) := by decide +kernel
theorem d_Ro_placesCovered_50 : decode b_Ro_placesCovered 50 = .ok (.iload_n 1, 1) := by decide +kernel
theorem d_Ro_placesCovered_51 : decode b_Ro_placesCovered 51 = .ok (.ireturn, 1) := by decide +kernel
theorem d_Ro_addPlacesWith_0 : decode b_Ro_addPlacesWith 0 = .ok (.iconst 0, 1) := by decide +kernel
theorem d_Ro_addPlacesWith_1 : decode b_Ro_addPlacesWith 1 = .ok (.istore_n 3, 1) := by decide +kernel
theorem d_Ro_addPlacesWith_2 : decode b_Ro_addPlacesWith 2 = .ok (.iload_n 3, 1) := by decide +kernel
theorem d_Ro_addPlacesWith_3 : decode b_Ro_addPlacesWith 3 = .ok (.bipush 30, 2) := by decide +kernel
theorem d_Ro_addPlacesWith_5 : decode b_Ro_addPlacesWith 5 = .ok (.if_icmp .ge 23, 3) := by decide +kernel
theorem d_Ro_addPlacesWith_8 : decode b_Ro_addPlacesWith 8 = .ok (.aload_n 2, 1) := by decide +kernel
theorem d_Ro_addPlacesWith_9 : decode b_Ro_addPlacesWith 9 = .ok (.iload_n 3, 1) := by decide +kernel
theorem d_Ro_addPlacesWith_10 : decode b_Ro_addPlacesWith 10 = .ok (.iaload, 1) := by decide +kernel
theorem d_Ro_addPlacesWith_11 : decode b_Ro_addPlacesWith 11 = .ok (.iload_n 1, 1) := by decide +kernel
theorem d_Ro_addPlacesWith_12 : decode b_Ro_addPlacesWith 12 = .ok (.iand, 1) := by decide +kernel
theorem d_Ro_addPlacesWith_13 : decode b_Ro_addPlacesWith 13 = .ok (.ifCond .eq 9, 3) := by decide +kernel
theorem d_Ro_addPlacesWith_16 : decode b_Ro_addPlacesWith 16 = .ok (.aload_n 0, 1) := by decide +kernel
theorem d_Ro_addPlacesWith_17 : decode b_Ro_addPlacesWith 17 = .ok (.iload_n 3, 1) := by decide +kernel
theorem d_Ro_addPlacesWith_18 : decode b_Ro_addPlacesWith 18 = .ok (.iload_n 3, 1) := by decide +kernel
theorem d_Ro_addPlacesWith_19 : decode b_Ro_addPlacesWith 19 = .ok (.invokevirtual 38, 3) := by decide +kernel
theorem d_Ro_addPlacesWith_22 : decode b_Ro_addPlacesWith 22 = .ok (.iinc 3 1, 3) := by decide +kernel
theorem d_Ro_addPlacesWith_25 : decode b_Ro_addPlacesWith 25 = .ok (.goto (-23), 3) := by decide +kernel
theorem d_Ro_addPlacesWith_28 : decode b_Ro_addPlacesWith 28 = .ok (.return_, 1) := by decide +kernel
theorem d_Ro_addAll_0 : decode b_Ro_addAll 0 = .ok (.aload_n 0, 1) := by decide +kernel
theorem d_Ro_addAll_1 : decode b_Ro_addAll 1 = .ok (.aload_n 1, 1) := by decide +kernel
theorem d_Ro_addAll_2 : decode b_Ro_addAll 2 = .ok (.iconst 0, 1) := by decide +kernel
theorem d_Ro_addAll_3 : decode b_Ro_addAll 3 = .ok (.invokevirtual 42, 3) := by decide +kernel
theorem d_Ro_addAll_6 : decode b_Ro_addAll 6 = .ok (.return_, 1) := by decide +kernel
theorem d_Ro_addGrown_0 : decode b_Ro_addGrown 0 = .ok (.iconst 0, 1) := by decide +kernel
theorem d_Ro_addGrown_1 : decode b_Ro_addGrown 1 = .ok (.istore_n 3, 1) := by decide +kernel
theorem d_Ro_addGrown_2 : decode b_Ro_addGrown 2 = .ok (.iload_n 3, 1) := by decide +kernel
theorem d_Ro_addGrown_3 : decode b_Ro_addGrown 3 = .ok (.bipush 30, 2) := by decide +kernel
theorem d_Ro_addGrown_5 : decode b_Ro_addGrown 5 = .ok (.if_icmp .ge 34, 3) := by decide +kernel
theorem d_Ro_addGrown_8 : decode b_Ro_addGrown 8 = .ok (.aload_n 1, 1) := by decide +kernel
theorem d_Ro_addGrown_9 : decode b_Ro_addGrown 9 = .ok (.iload_n 3, 1) := by decide +kernel
theorem d_Ro_addGrown_10 : decode b_Ro_addGrown 10 = .ok (.invokevirtual 25, 3) := by decide +kernel
theorem d_Ro_addGrown_13 : decode b_Ro_addGrown 13 = .ok (.ifCond .eq 20, 3) := by decide +kernel
theorem d_Ro_addGrown_16 : decode b_Ro_addGrown 16 = .ok (.aload_n 0, 1) := by decide +kernel
theorem d_Ro_addGrown_17 : decode b_Ro_addGrown 17 = .ok (.iconst 0, 1) := by decide +kernel
theorem d_Ro_addGrown_18 : decode b_Ro_addGrown 18 = .ok (.iload_n 3, 1) := by decide +kernel
theorem d_Ro_addGrown_19 : decode b_Ro_addGrown 19 = .ok (.iload_n 2, 1) := by decide +kernel
theorem d_Ro_addGrown_20 : decode b_Ro_addGrown 20 = .ok (.isub, 1) := by decide +kernel
theorem d_Ro_addGrown_21 : decode b_Ro_addGrown 21 = .ok (.invokestatic 32, 3) := by decide +kernel
theorem d_Ro_addGrown_24 : decode b_Ro_addGrown 24 = .ok (.aload_n 1, 1) := by decide +kernel
theorem d_Ro_addGrown_25 : decode b_Ro_addGrown 25 = .ok (.getfield 9, 3) := by decide +kernel
theorem d_Ro_addGrown_28 : decode b_Ro_addGrown 28 = .ok (.iload_n 3, 1) := by decide +kernel
theorem d_Ro_addGrown_29 : decode b_Ro_addGrown 29 = .ok (.iaload, 1) := by decide +kernel
theorem d_Ro_addGrown_30 : decode b_Ro_addGrown 30 = .ok (.invokevirtual 38, 3) := by decide +kernel
theorem d_Ro_addGrown_33 : decode b_Ro_addGrown 33 = .ok (.iinc 3 1, 3) := by decide +kernel
theorem d_Ro_addGrown_36 : decode b_Ro_addGrown 36 = .ok (.goto (-34), 3) := by decide +kernel
theorem d_Ro_addGrown_39 : decode b_Ro_addGrown 39 = .ok (.return_, 1) := by decide +kernel
theorem d_Ro_addEndingBefore_0 : decode b_Ro_addEndingBefore 0 = .ok (.iconst 0, 1) := by decide +kernel
theorem d_Ro_addEndingBefore_1 : decode b_Ro_addEndingBefore 1 = .ok (.istore_n 3, 1) := by decide +kernel
theorem d_Ro_addEndingBefore_2 : decode b_Ro_addEndingBefore 2 = .ok (.iload_n 3, 1) := by decide +kernel
theorem d_Ro_addEndingBefore_3 : decode b_Ro_addEndingBefore 3 = .ok (.bipush 30, 2) := by decide +kernel
theorem d_Ro_addEndingBefore_5 : decode b_Ro_addEndingBefore 5 = .ok (.if_icmp .ge 38, 3) := by decide +kernel
theorem d_Ro_addEndingBefore_8 : decode b_Ro_addEndingBefore 8 = .ok (.aload_n 1, 1) := by decide +kernel
theorem d_Ro_addEndingBefore_9 : decode b_Ro_addEndingBefore 9 = .ok (.iload_n 3, 1) := by decide +kernel
theorem d_Ro_addEndingBefore_10 : decode b_Ro_addEndingBefore 10 = .ok (.invokevirtual 25, 3) := by decide +kernel
theorem d_Ro_addEndingBefore_13 : decode b_Ro_addEndingBefore 13 = .ok (.ifCond .eq 24, 3) := by decide +kernel
theorem d_Ro_addEndingBefore_16 : decode b_Ro_addEndingBefore 16 = .ok (.aload_n 1, 1) := by decide +kernel
theorem d_Ro_addEndingBefore_17 : decode b_Ro_addEndingBefore 17 = .ok (.getfield 9, 3) := by decide +kernel
theorem d_Ro_addEndingBefore_20 : decode b_Ro_addEndingBefore 20 = .ok (.iload_n 3, 1) := by decide +kernel
theorem d_Ro_addEndingBefore_21 : decode b_Ro_addEndingBefore 21 = .ok (.iaload, 1) := by decide +kernel
theorem d_Ro_addEndingBefore_22 : decode b_Ro_addEndingBefore 22 = .ok (.iload_n 2, 1) := by decide +kernel
theorem d_Ro_addEndingBefore_23 : decode b_Ro_addEndingBefore 23 = .ok (.if_icmp .ge 14, 3) := by decide +kernel
theorem d_Ro_addEndingBefore_26 : decode b_Ro_addEndingBefore 26 = .ok (.aload_n 0, 1) := by decide +kernel
theorem d_Ro_addEndingBefore_27 : decode b_Ro_addEndingBefore 27 = .ok (.iload_n 3, 1) := by decide +kernel
theorem d_Ro_addEndingBefore_28 : decode b_Ro_addEndingBefore 28 = .ok (.aload_n 1, 1) := by decide +kernel
theorem d_Ro_addEndingBefore_29 : decode b_Ro_addEndingBefore 29 = .ok (.getfield 9, 3) := by decide +kernel
theorem d_Ro_addEndingBefore_32 : decode b_Ro_addEndingBefore 32 = .ok (.iload_n 3, 1) := by decide +kernel
theorem d_Ro_addEndingBefore_33 : decode b_Ro_addEndingBefore 33 = .ok (.iaload, 1) := by decide +kernel
theorem d_Ro_addEndingBefore_34 : decode b_Ro_addEndingBefore 34 = .ok (.invokevirtual 38, 3) := by decide +kernel
theorem d_Ro_addEndingBefore_37 : decode b_Ro_addEndingBefore 37 = .ok (.iinc 3 1, 3) := by decide +kernel
theorem d_Ro_addEndingBefore_40 : decode b_Ro_addEndingBefore 40 = .ok (.goto (-38), 3) := by decide +kernel
theorem d_Ro_addEndingBefore_43 : decode b_Ro_addEndingBefore 43 = .ok (.return_, 1) := by decide +kernel
theorem d_Ro_addBehind_0 : decode b_Ro_addBehind 0 = .ok (.iconst 0, 1) := by decide +kernel
theorem d_Ro_addBehind_1 : decode b_Ro_addBehind 1 = .ok (.istore 4, 2) := by decide +kernel
theorem d_Ro_addBehind_3 : decode b_Ro_addBehind 3 = .ok (.iload 4, 2) := by decide +kernel
theorem d_Ro_addBehind_5 : decode b_Ro_addBehind 5 = .ok (.bipush 30, 2) := by decide +kernel
theorem d_Ro_addBehind_7 : decode b_Ro_addBehind 7 = .ok (.if_icmp .ge 33, 3) := by decide +kernel
theorem d_Ro_addBehind_10 : decode b_Ro_addBehind 10 = .ok (.aload_n 1, 1) := by decide +kernel
theorem d_Ro_addBehind_11 : decode b_Ro_addBehind 11 = .ok (.iload 4, 2) := by decide +kernel
theorem d_Ro_addBehind_13 : decode b_Ro_addBehind 13 = .ok (.invokevirtual 25, 3) := by decide +kernel
theorem d_Ro_addBehind_16 : decode b_Ro_addBehind 16 = .ok (.ifCond .eq 18, 3) := by decide +kernel
theorem d_Ro_addBehind_19 : decode b_Ro_addBehind 19 = .ok (.aload_n 0, 1) := by decide +kernel
theorem d_Ro_addBehind_20 : decode b_Ro_addBehind 20 = .ok (.iload 4, 2) := by decide +kernel
theorem d_Ro_addBehind_22 : decode b_Ro_addBehind 22 = .ok (.aload_n 1, 1) := by decide +kernel
theorem d_Ro_addBehind_23 : decode b_Ro_addBehind 23 = .ok (.getfield 9, 3) := by decide +kernel
theorem d_Ro_addBehind_26 : decode b_Ro_addBehind 26 = .ok (.iload 4, 2) := by decide +kernel
theorem d_Ro_addBehind_28 : decode b_Ro_addBehind 28 = .ok (.iaload, 1) := by decide +kernel
theorem d_Ro_addBehind_29 : decode b_Ro_addBehind 29 = .ok (.aload_n 2, 1) := by decide +kernel
theorem d_Ro_addBehind_30 : decode b_Ro_addBehind 30 = .ok (.iload_n 3, 1) := by decide +kernel
theorem d_Ro_addBehind_31 : decode b_Ro_addBehind 31 = .ok (.invokevirtual 46, 3) := by decide +kernel
theorem d_Ro_addBehind_34 : decode b_Ro_addBehind 34 = .ok (.iinc 4 1, 3) := by decide +kernel
theorem d_Ro_addBehind_37 : decode b_Ro_addBehind 37 = .ok (.goto (-34), 3) := by decide +kernel
theorem d_Ro_addBehind_40 : decode b_Ro_addBehind 40 = .ok (.return_, 1) := by decide +kernel
theorem d_Ro_addBehindOne_0 : decode b_Ro_addBehindOne 0 = .ok (.iload_n 2, 1) := by decide +kernel
theorem d_Ro_addBehindOne_1 : decode b_Ro_addBehindOne 1 = .ok (.iconst 1, 1) := by decide +kernel
theorem d_Ro_addBehindOne_2 : decode b_Ro_addBehindOne 2 = .ok (.iadd, 1) := by decide +kernel
theorem d_Ro_addBehindOne_3 : decode b_Ro_addBehindOne 3 = .ok (.istore 5, 2) := by decide +kernel
theorem d_Ro_addBehindOne_5 : decode b_Ro_addBehindOne 5 = .ok (.iload 5, 2) := by decide +kernel
theorem d_Ro_addBehindOne_7 : decode b_Ro_addBehindOne 7 = .ok (.bipush 30, 2) := by decide +kernel
theorem d_Ro_addBehindOne_9 : decode b_Ro_addBehindOne 9 = .ok (.if_icmp .ge 41, 3) := by decide +kernel
theorem d_Ro_addBehindOne_12 : decode b_Ro_addBehindOne 12 = .ok (.iload 5, 2) := by decide +kernel
theorem d_Ro_addBehindOne_14 : decode b_Ro_addBehindOne 14 = .ok (.iload_n 2, 1) := by decide +kernel
theorem d_Ro_addBehindOne_15 : decode b_Ro_addBehindOne 15 = .ok (.isub, 1) := by decide +kernel
theorem d_Ro_addBehindOne_16 : decode b_Ro_addBehindOne 16 = .ok (.iconst 1, 1) := by decide +kernel
theorem d_Ro_addBehindOne_17 : decode b_Ro_addBehindOne 17 = .ok (.isub, 1) := by decide +kernel
theorem d_Ro_addBehindOne_18 : decode b_Ro_addBehindOne 18 = .ok (.iload 4, 2) := by decide +kernel
theorem d_Ro_addBehindOne_20 : decode b_Ro_addBehindOne 20 = .ok (.if_icmp .gt 30, 3) := by decide +kernel
theorem d_Ro_addBehindOne_23 : decode b_Ro_addBehindOne 23 = .ok (.aload_n 3, 1) := by decide +kernel
theorem d_Ro_addBehindOne_24 : decode b_Ro_addBehindOne 24 = .ok (.iload 5, 2) := by decide +kernel
theorem d_Ro_addBehindOne_26 : decode b_Ro_addBehindOne 26 = .ok (.invokevirtual 25, 3) := by decide +kernel
theorem d_Ro_addBehindOne_29 : decode b_Ro_addBehindOne 29 = .ok (.ifCond .eq 15, 3) := by decide +kernel
theorem d_Ro_addBehindOne_32 : decode b_Ro_addBehindOne 32 = .ok (.aload_n 0, 1) := by decide +kernel
theorem d_Ro_addBehindOne_33 : decode b_Ro_addBehindOne 33 = .ok (.iload_n 1, 1) := by decide +kernel
theorem d_Ro_addBehindOne_34 : decode b_Ro_addBehindOne 34 = .ok (.aload_n 3, 1) := by decide +kernel
theorem d_Ro_addBehindOne_35 : decode b_Ro_addBehindOne 35 = .ok (.getfield 9, 3) := by decide +kernel
theorem d_Ro_addBehindOne_38 : decode b_Ro_addBehindOne 38 = .ok (.iload 5, 2) := by decide +kernel
theorem d_Ro_addBehindOne_40 : decode b_Ro_addBehindOne 40 = .ok (.iaload, 1) := by decide +kernel
theorem d_Ro_addBehindOne_41 : decode b_Ro_addBehindOne 41 = .ok (.invokevirtual 38, 3) := by decide +kernel
theorem d_Ro_addBehindOne_44 : decode b_Ro_addBehindOne 44 = .ok (.iinc 5 1, 3) := by decide +kernel
theorem d_Ro_addBehindOne_47 : decode b_Ro_addBehindOne 47 = .ok (.goto (-42), 3) := by decide +kernel
theorem d_Ro_addBehindOne_50 : decode b_Ro_addBehindOne 50 = .ok (.return_, 1) := by decide +kernel
theorem d_Ro_addBoth_0 : decode b_Ro_addBoth 0 = .ok (.iconst 0, 1) := by decide +kernel
theorem d_Ro_addBoth_1 : decode b_Ro_addBoth 1 = .ok (.istore 4, 2) := by decide +kernel
theorem d_Ro_addBoth_3 : decode b_Ro_addBoth 3 = .ok (.iload 4, 2) := by decide +kernel
theorem d_Ro_addBoth_5 : decode b_Ro_addBoth 5 = .ok (.bipush 30, 2) := by decide +kernel
theorem d_Ro_addBoth_7 : decode b_Ro_addBoth 7 = .ok (.if_icmp .ge 33, 3) := by decide +kernel
theorem d_Ro_addBoth_10 : decode b_Ro_addBoth 10 = .ok (.aload_n 1, 1) := by decide +kernel
theorem d_Ro_addBoth_11 : decode b_Ro_addBoth 11 = .ok (.iload 4, 2) := by decide +kernel
theorem d_Ro_addBoth_13 : decode b_Ro_addBoth 13 = .ok (.invokevirtual 25, 3) := by decide +kernel
theorem d_Ro_addBoth_16 : decode b_Ro_addBoth 16 = .ok (.ifCond .eq 18, 3) := by decide +kernel
theorem d_Ro_addBoth_19 : decode b_Ro_addBoth 19 = .ok (.aload_n 0, 1) := by decide +kernel
theorem d_Ro_addBoth_20 : decode b_Ro_addBoth 20 = .ok (.iload 4, 2) := by decide +kernel
theorem d_Ro_addBoth_22 : decode b_Ro_addBoth 22 = .ok (.aload_n 1, 1) := by decide +kernel
theorem d_Ro_addBoth_23 : decode b_Ro_addBoth 23 = .ok (.getfield 9, 3) := by decide +kernel
theorem d_Ro_addBoth_26 : decode b_Ro_addBoth 26 = .ok (.iload 4, 2) := by decide +kernel
theorem d_Ro_addBoth_28 : decode b_Ro_addBoth 28 = .ok (.iaload, 1) := by decide +kernel
theorem d_Ro_addBoth_29 : decode b_Ro_addBoth 29 = .ok (.aload_n 2, 1) := by decide +kernel
theorem d_Ro_addBoth_30 : decode b_Ro_addBoth 30 = .ok (.iload_n 3, 1) := by decide +kernel
theorem d_Ro_addBoth_31 : decode b_Ro_addBoth 31 = .ok (.invokevirtual 50, 3) := by decide +kernel
theorem d_Ro_addBoth_34 : decode b_Ro_addBoth 34 = .ok (.iinc 4 1, 3) := by decide +kernel
theorem d_Ro_addBoth_37 : decode b_Ro_addBoth 37 = .ok (.goto (-34), 3) := by decide +kernel
theorem d_Ro_addBoth_40 : decode b_Ro_addBoth 40 = .ok (.return_, 1) := by decide +kernel
theorem d_Ro_addBothOfOne_0 : decode b_Ro_addBothOfOne 0 = .ok (.iconst 0, 1) := by decide +kernel
theorem d_Ro_addBothOfOne_1 : decode b_Ro_addBothOfOne 1 = .ok (.istore 5, 2) := by decide +kernel
theorem d_Ro_addBothOfOne_3 : decode b_Ro_addBothOfOne 3 = .ok (.iload 5, 2) := by decide +kernel
theorem d_Ro_addBothOfOne_5 : decode b_Ro_addBothOfOne 5 = .ok (.bipush 30, 2) := by decide +kernel
theorem d_Ro_addBothOfOne_7 : decode b_Ro_addBothOfOne 7 = .ok (.if_icmp .ge 59, 3) := by decide +kernel
theorem d_Ro_addBothOfOne_10 : decode b_Ro_addBothOfOne 10 = .ok (.aload_n 3, 1) := by decide +kernel
theorem d_Ro_addBothOfOne_11 : decode b_Ro_addBothOfOne 11 = .ok (.iload 5, 2) := by decide +kernel
theorem d_Ro_addBothOfOne_13 : decode b_Ro_addBothOfOne 13 = .ok (.invokevirtual 25, 3) := by decide +kernel
theorem d_Ro_addBothOfOne_16 : decode b_Ro_addBothOfOne 16 = .ok (.ifCond .eq 44, 3) := by decide +kernel
theorem d_Ro_addBothOfOne_19 : decode b_Ro_addBothOfOne 19 = .ok (.iload_n 1, 1) := by decide +kernel
theorem d_Ro_addBothOfOne_20 : decode b_Ro_addBothOfOne 20 = .ok (.iload 5, 2) := by decide +kernel
theorem d_Ro_addBothOfOne_22 : decode b_Ro_addBothOfOne 22 = .ok (.invokestatic 53, 3) := by decide +kernel
theorem d_Ro_addBothOfOne_25 : decode b_Ro_addBothOfOne 25 = .ok (.istore 6, 2) := by decide +kernel
theorem d_Ro_addBothOfOne_27 : decode b_Ro_addBothOfOne 27 = .ok (.iload_n 2, 1) := by decide +kernel
theorem d_Ro_addBothOfOne_28 : decode b_Ro_addBothOfOne 28 = .ok (.aload_n 3, 1) := by decide +kernel
theorem d_Ro_addBothOfOne_29 : decode b_Ro_addBothOfOne 29 = .ok (.getfield 9, 3) := by decide +kernel
theorem d_Ro_addBothOfOne_32 : decode b_Ro_addBothOfOne 32 = .ok (.iload 5, 2) := by decide +kernel
theorem d_Ro_addBothOfOne_34 : decode b_Ro_addBothOfOne 34 = .ok (.iaload, 1) := by decide +kernel
theorem d_Ro_addBothOfOne_35 : decode b_Ro_addBothOfOne 35 = .ok (.invokestatic 32, 3) := by decide +kernel
theorem d_Ro_addBothOfOne_38 : decode b_Ro_addBothOfOne 38 = .ok (.istore 7, 2) := by decide +kernel
theorem d_Ro_addBothOfOne_40 : decode b_Ro_addBothOfOne 40 = .ok (.iload 7, 2) := by decide +kernel
theorem d_Ro_addBothOfOne_42 : decode b_Ro_addBothOfOne 42 = .ok (.iload 6, 2) := by decide +kernel
theorem d_Ro_addBothOfOne_44 : decode b_Ro_addBothOfOne 44 = .ok (.isub, 1) := by decide +kernel
theorem d_Ro_addBothOfOne_45 : decode b_Ro_addBothOfOne 45 = .ok (.iconst 1, 1) := by decide +kernel
theorem d_Ro_addBothOfOne_46 : decode b_Ro_addBothOfOne 46 = .ok (.iadd, 1) := by decide +kernel
theorem d_Ro_addBothOfOne_47 : decode b_Ro_addBothOfOne 47 = .ok (.iload 4, 2) := by decide +kernel
theorem d_Ro_addBothOfOne_49 : decode b_Ro_addBothOfOne 49 = .ok (.if_icmp .gt 11, 3) := by decide +kernel
theorem d_Ro_addBothOfOne_52 : decode b_Ro_addBothOfOne 52 = .ok (.aload_n 0, 1) := by decide +kernel
theorem d_Ro_addBothOfOne_53 : decode b_Ro_addBothOfOne 53 = .ok (.iload 6, 2) := by decide +kernel
theorem d_Ro_addBothOfOne_55 : decode b_Ro_addBothOfOne 55 = .ok (.iload 7, 2) := by decide +kernel
theorem d_Ro_addBothOfOne_57 : decode b_Ro_addBothOfOne 57 = .ok (.invokevirtual 38, 3) := by decide +kernel
theorem d_Ro_addBothOfOne_60 : decode b_Ro_addBothOfOne 60 = .ok (.iinc 5 1, 3) := by decide +kernel
theorem d_Ro_addBothOfOne_63 : decode b_Ro_addBothOfOne 63 = .ok (.goto (-60), 3) := by decide +kernel
theorem d_Ro_addBothOfOne_66 : decode b_Ro_addBothOfOne 66 = .ok (.return_, 1) := by decide +kernel
theorem d_Ro_addHolding_0 : decode b_Ro_addHolding 0 = .ok (.iconst 0, 1) := by decide +kernel
theorem d_Ro_addHolding_1 : decode b_Ro_addHolding 1 = .ok (.istore_n 3, 1) := by decide +kernel
theorem d_Ro_addHolding_2 : decode b_Ro_addHolding 2 = .ok (.iload_n 3, 1) := by decide +kernel
theorem d_Ro_addHolding_3 : decode b_Ro_addHolding 3 = .ok (.bipush 30, 2) := by decide +kernel
theorem d_Ro_addHolding_5 : decode b_Ro_addHolding 5 = .ok (.if_icmp .ge 42, 3) := by decide +kernel
theorem d_Ro_addHolding_8 : decode b_Ro_addHolding 8 = .ok (.aload_n 1, 1) := by decide +kernel
theorem d_Ro_addHolding_9 : decode b_Ro_addHolding 9 = .ok (.iload_n 3, 1) := by decide +kernel
theorem d_Ro_addHolding_10 : decode b_Ro_addHolding 10 = .ok (.invokevirtual 25, 3) := by decide +kernel
theorem d_Ro_addHolding_13 : decode b_Ro_addHolding 13 = .ok (.ifCond .eq 28, 3) := by decide +kernel
theorem d_Ro_addHolding_16 : decode b_Ro_addHolding 16 = .ok (.aload_n 2, 1) := by decide +kernel
theorem d_Ro_addHolding_17 : decode b_Ro_addHolding 17 = .ok (.iload_n 3, 1) := by decide +kernel
theorem d_Ro_addHolding_18 : decode b_Ro_addHolding 18 = .ok (.aload_n 1, 1) := by decide +kernel
theorem d_Ro_addHolding_19 : decode b_Ro_addHolding 19 = .ok (.getfield 9, 3) := by decide +kernel
theorem d_Ro_addHolding_22 : decode b_Ro_addHolding 22 = .ok (.iload_n 3, 1) := by decide +kernel
theorem d_Ro_addHolding_23 : decode b_Ro_addHolding 23 = .ok (.iaload, 1) := by decide +kernel
theorem d_Ro_addHolding_24 : decode b_Ro_addHolding 24 = .ok (.invokevirtual 56, 3) := by decide +kernel
theorem d_Ro_addHolding_27 : decode b_Ro_addHolding 27 = .ok (.ifCond .eq 14, 3) := by decide +kernel
theorem d_Ro_addHolding_30 : decode b_Ro_addHolding 30 = .ok (.aload_n 0, 1) := by decide +kernel
theorem d_Ro_addHolding_31 : decode b_Ro_addHolding 31 = .ok (.iload_n 3, 1) := by decide +kernel
theorem d_Ro_addHolding_32 : decode b_Ro_addHolding 32 = .ok (.aload_n 1, 1) := by decide +kernel
theorem d_Ro_addHolding_33 : decode b_Ro_addHolding 33 = .ok (.getfield 9, 3) := by decide +kernel
theorem d_Ro_addHolding_36 : decode b_Ro_addHolding 36 = .ok (.iload_n 3, 1) := by decide +kernel
theorem d_Ro_addHolding_37 : decode b_Ro_addHolding 37 = .ok (.iaload, 1) := by decide +kernel
theorem d_Ro_addHolding_38 : decode b_Ro_addHolding 38 = .ok (.invokevirtual 38, 3) := by decide +kernel
theorem d_Ro_addHolding_41 : decode b_Ro_addHolding 41 = .ok (.iinc 3 1, 3) := by decide +kernel
theorem d_Ro_addHolding_44 : decode b_Ro_addHolding 44 = .ok (.goto (-42), 3) := by decide +kernel
theorem d_Ro_addHolding_47 : decode b_Ro_addHolding 47 = .ok (.return_, 1) := by decide +kernel
theorem d_Ro_addIn_0 : decode b_Ro_addIn 0 = .ok (.iconst 0, 1) := by decide +kernel
theorem d_Ro_addIn_1 : decode b_Ro_addIn 1 = .ok (.istore_n 3, 1) := by decide +kernel
theorem d_Ro_addIn_2 : decode b_Ro_addIn 2 = .ok (.iload_n 3, 1) := by decide +kernel
theorem d_Ro_addIn_3 : decode b_Ro_addIn 3 = .ok (.bipush 30, 2) := by decide +kernel
theorem d_Ro_addIn_5 : decode b_Ro_addIn 5 = .ok (.if_icmp .ge 42, 3) := by decide +kernel
theorem d_Ro_addIn_8 : decode b_Ro_addIn 8 = .ok (.aload_n 1, 1) := by decide +kernel
theorem d_Ro_addIn_9 : decode b_Ro_addIn 9 = .ok (.iload_n 3, 1) := by decide +kernel
theorem d_Ro_addIn_10 : decode b_Ro_addIn 10 = .ok (.invokevirtual 25, 3) := by decide +kernel
theorem d_Ro_addIn_13 : decode b_Ro_addIn 13 = .ok (.ifCond .eq 28, 3) := by decide +kernel
theorem d_Ro_addIn_16 : decode b_Ro_addIn 16 = .ok (.aload_n 2, 1) := by decide +kernel
theorem d_Ro_addIn_17 : decode b_Ro_addIn 17 = .ok (.iload_n 3, 1) := by decide +kernel
theorem d_Ro_addIn_18 : decode b_Ro_addIn 18 = .ok (.aload_n 1, 1) := by decide +kernel
theorem d_Ro_addIn_19 : decode b_Ro_addIn 19 = .ok (.getfield 9, 3) := by decide +kernel
theorem d_Ro_addIn_22 : decode b_Ro_addIn 22 = .ok (.iload_n 3, 1) := by decide +kernel
theorem d_Ro_addIn_23 : decode b_Ro_addIn 23 = .ok (.iaload, 1) := by decide +kernel
theorem d_Ro_addIn_24 : decode b_Ro_addIn 24 = .ok (.invokevirtual 60, 3) := by decide +kernel
theorem d_Ro_addIn_27 : decode b_Ro_addIn 27 = .ok (.ifCond .eq 14, 3) := by decide +kernel
theorem d_Ro_addIn_30 : decode b_Ro_addIn 30 = .ok (.aload_n 0, 1) := by decide +kernel
theorem d_Ro_addIn_31 : decode b_Ro_addIn 31 = .ok (.iload_n 3, 1) := by decide +kernel
theorem d_Ro_addIn_32 : decode b_Ro_addIn 32 = .ok (.aload_n 1, 1) := by decide +kernel
theorem d_Ro_addIn_33 : decode b_Ro_addIn 33 = .ok (.getfield 9, 3) := by decide +kernel
theorem d_Ro_addIn_36 : decode b_Ro_addIn 36 = .ok (.iload_n 3, 1) := by decide +kernel
theorem d_Ro_addIn_37 : decode b_Ro_addIn 37 = .ok (.iaload, 1) := by decide +kernel
theorem d_Ro_addIn_38 : decode b_Ro_addIn 38 = .ok (.invokevirtual 38, 3) := by decide +kernel
theorem d_Ro_addIn_41 : decode b_Ro_addIn 41 = .ok (.iinc 3 1, 3) := by decide +kernel
theorem d_Ro_addIn_44 : decode b_Ro_addIn 44 = .ok (.goto (-42), 3) := by decide +kernel
theorem d_Ro_addIn_47 : decode b_Ro_addIn 47 = .ok (.return_, 1) := by decide +kernel
theorem d_Ro_addByNearness_0 : decode b_Ro_addByNearness 0 = .ok (.iconst 0, 1) := by decide +kernel
theorem d_Ro_addByNearness_1 : decode b_Ro_addByNearness 1 = .ok (.istore 5, 2) := by decide +kernel
theorem d_Ro_addByNearness_3 : decode b_Ro_addByNearness 3 = .ok (.iload 5, 2) := by decide +kernel
theorem d_Ro_addByNearness_5 : decode b_Ro_addByNearness 5 = .ok (.bipush 30, 2) := by decide +kernel
theorem d_Ro_addByNearness_7 : decode b_Ro_addByNearness 7 = .ok (.if_icmp .ge 50, 3) := by decide +kernel
theorem d_Ro_addByNearness_10 : decode b_Ro_addByNearness 10 = .ok (.aload_n 1, 1) := by decide +kernel
theorem d_Ro_addByNearness_11 : decode b_Ro_addByNearness 11 = .ok (.iload 5, 2) := by decide +kernel
theorem d_Ro_addByNearness_13 : decode b_Ro_addByNearness 13 = .ok (.invokevirtual 25, 3) := by decide +kernel
theorem d_Ro_addByNearness_16 : decode b_Ro_addByNearness 16 = .ok (.ifCond .eq 35, 3) := by decide +kernel
theorem d_Ro_addByNearness_19 : decode b_Ro_addByNearness 19 = .ok (.aload_n 2, 1) := by decide +kernel
theorem d_Ro_addByNearness_20 : decode b_Ro_addByNearness 20 = .ok (.iload 5, 2) := by decide +kernel
theorem d_Ro_addByNearness_22 : decode b_Ro_addByNearness 22 = .ok (.aload_n 1, 1) := by decide +kernel
theorem d_Ro_addByNearness_23 : decode b_Ro_addByNearness 23 = .ok (.getfield 9, 3) := by decide +kernel
theorem d_Ro_addByNearness_26 : decode b_Ro_addByNearness 26 = .ok (.iload 5, 2) := by decide +kernel
theorem d_Ro_addByNearness_28 : decode b_Ro_addByNearness 28 = .ok (.iaload, 1) := by decide +kernel
theorem d_Ro_addByNearness_29 : decode b_Ro_addByNearness 29 = .ok (.iload_n 3, 1) := by decide +kernel
theorem d_Ro_addByNearness_30 : decode b_Ro_addByNearness 30 = .ok (.invokevirtual 63, 3) := by decide +kernel
theorem d_Ro_addByNearness_33 : decode b_Ro_addByNearness 33 = .ok (.iload 4, 2) := by decide +kernel
theorem d_Ro_addByNearness_35 : decode b_Ro_addByNearness 35 = .ok (.if_icmp .ne 16, 3) := by decide +kernel
theorem d_Ro_addByNearness_38 : decode b_Ro_addByNearness 38 = .ok (.aload_n 0, 1) := by decide +kernel
theorem d_Ro_addByNearness_39 : decode b_Ro_addByNearness 39 = .ok (.iload 5, 2) := by decide +kernel
theorem d_Ro_addByNearness_41 : decode b_Ro_addByNearness 41 = .ok (.aload_n 1, 1) := by decide +kernel
theorem d_Ro_addByNearness_42 : decode b_Ro_addByNearness 42 = .ok (.getfield 9, 3) := by decide +kernel
theorem d_Ro_addByNearness_45 : decode b_Ro_addByNearness 45 = .ok (.iload 5, 2) := by decide +kernel
theorem d_Ro_addByNearness_47 : decode b_Ro_addByNearness 47 = .ok (.iaload, 1) := by decide +kernel
theorem d_Ro_addByNearness_48 : decode b_Ro_addByNearness 48 = .ok (.invokevirtual 38, 3) := by decide +kernel
theorem d_Ro_addByNearness_51 : decode b_Ro_addByNearness 51 = .ok (.iinc 5 1, 3) := by decide +kernel
theorem d_Ro_addByNearness_54 : decode b_Ro_addByNearness 54 = .ok (.goto (-51), 3) := by decide +kernel
theorem d_Ro_addByNearness_57 : decode b_Ro_addByNearness 57 = .ok (.return_, 1) := by decide +kernel
theorem d_Ro_hasWithin_0 : decode b_Ro_hasWithin 0 = .ok (.iconst 0, 1) := by decide +kernel
theorem d_Ro_hasWithin_1 : decode b_Ro_hasWithin 1 = .ok (.iload_n 1, 1) := by decide +kernel
theorem d_Ro_hasWithin_2 : decode b_Ro_hasWithin 2 = .ok (.invokestatic 32, 3) := by decide +kernel
theorem d_Ro_hasWithin_5 : decode b_Ro_hasWithin 5 = .ok (.istore_n 3, 1) := by decide +kernel
theorem d_Ro_hasWithin_6 : decode b_Ro_hasWithin 6 = .ok (.iload_n 3, 1) := by decide +kernel
theorem d_Ro_hasWithin_7 : decode b_Ro_hasWithin 7 = .ok (.bipush 30, 2) := by decide +kernel
theorem d_Ro_hasWithin_9 : decode b_Ro_hasWithin 9 = .ok (.if_icmp .ge 29, 3) := by decide +kernel
theorem d_Ro_hasWithin_12 : decode b_Ro_hasWithin 12 = .ok (.aload_n 0, 1) := by decide +kernel
theorem d_Ro_hasWithin_13 : decode b_Ro_hasWithin 13 = .ok (.iload_n 3, 1) := by decide +kernel
theorem d_Ro_hasWithin_14 : decode b_Ro_hasWithin 14 = .ok (.invokevirtual 25, 3) := by decide +kernel
theorem d_Ro_hasWithin_17 : decode b_Ro_hasWithin 17 = .ok (.ifCond .eq 15, 3) := by decide +kernel
theorem d_Ro_hasWithin_20 : decode b_Ro_hasWithin 20 = .ok (.aload_n 0, 1) := by decide +kernel
theorem d_Ro_hasWithin_21 : decode b_Ro_hasWithin 21 = .ok (.getfield 9, 3) := by decide +kernel
theorem d_Ro_hasWithin_24 : decode b_Ro_hasWithin 24 = .ok (.iload_n 3, 1) := by decide +kernel
theorem d_Ro_hasWithin_25 : decode b_Ro_hasWithin 25 = .ok (.iaload, 1) := by decide +kernel
theorem d_Ro_hasWithin_26 : decode b_Ro_hasWithin 26 = .ok (.iload_n 2, 1) := by decide +kernel
theorem d_Ro_hasWithin_27 : decode b_Ro_hasWithin 27 = .ok (.if_icmp .gt 5, 3) := by decide +kernel
theorem d_Ro_hasWithin_30 : decode b_Ro_hasWithin 30 = .ok (.iconst 1, 1) := by decide +kernel
theorem d_Ro_hasWithin_31 : decode b_Ro_hasWithin 31 = .ok (.ireturn, 1) := by decide +kernel
theorem d_Ro_hasWithin_32 : decode b_Ro_hasWithin 32 = .ok (.iinc 3 1, 3) := by decide +kernel
theorem d_Ro_hasWithin_35 : decode b_Ro_hasWithin 35 = .ok (.goto (-29), 3) := by decide +kernel
theorem d_Ro_hasWithin_38 : decode b_Ro_hasWithin 38 = .ok (.iconst 0, 1) := by decide +kernel
theorem d_Ro_hasWithin_39 : decode b_Ro_hasWithin 39 = .ok (.ireturn, 1) := by decide +kernel
theorem d_Ro_hasAround_0 : decode b_Ro_hasAround 0 = .ok (.iconst 0, 1) := by decide +kernel
theorem d_Ro_hasAround_1 : decode b_Ro_hasAround 1 = .ok (.istore_n 3, 1) := by decide +kernel
theorem d_Ro_hasAround_2 : decode b_Ro_hasAround 2 = .ok (.iload_n 3, 1) := by decide +kernel
theorem d_Ro_hasAround_3 : decode b_Ro_hasAround 3 = .ok (.bipush 30, 2) := by decide +kernel
theorem d_Ro_hasAround_5 : decode b_Ro_hasAround 5 = .ok (.if_icmp .ge 34, 3) := by decide +kernel
theorem d_Ro_hasAround_8 : decode b_Ro_hasAround 8 = .ok (.iload_n 3, 1) := by decide +kernel
theorem d_Ro_hasAround_9 : decode b_Ro_hasAround 9 = .ok (.iload_n 1, 1) := by decide +kernel
theorem d_Ro_hasAround_10 : decode b_Ro_hasAround 10 = .ok (.if_icmp .gt 29, 3) := by decide +kernel
theorem d_Ro_hasAround_13 : decode b_Ro_hasAround 13 = .ok (.aload_n 0, 1) := by decide +kernel
theorem d_Ro_hasAround_14 : decode b_Ro_hasAround 14 = .ok (.iload_n 3, 1) := by decide +kernel
theorem d_Ro_hasAround_15 : decode b_Ro_hasAround 15 = .ok (.invokevirtual 25, 3) := by decide +kernel
theorem d_Ro_hasAround_18 : decode b_Ro_hasAround 18 = .ok (.ifCond .eq 15, 3) := by decide +kernel
theorem d_Ro_hasAround_21 : decode b_Ro_hasAround 21 = .ok (.aload_n 0, 1) := by decide +kernel
theorem d_Ro_hasAround_22 : decode b_Ro_hasAround 22 = .ok (.getfield 9, 3) := by decide +kernel
theorem d_Ro_hasAround_25 : decode b_Ro_hasAround 25 = .ok (.iload_n 3, 1) := by decide +kernel
theorem d_Ro_hasAround_26 : decode b_Ro_hasAround 26 = .ok (.iaload, 1) := by decide +kernel
theorem d_Ro_hasAround_27 : decode b_Ro_hasAround 27 = .ok (.iload_n 2, 1) := by decide +kernel
theorem d_Ro_hasAround_28 : decode b_Ro_hasAround 28 = .ok (.if_icmp .lt 5, 3) := by decide +kernel
theorem d_Ro_hasAround_31 : decode b_Ro_hasAround 31 = .ok (.iconst 1, 1) := by decide +kernel
theorem d_Ro_hasAround_32 : decode b_Ro_hasAround 32 = .ok (.ireturn, 1) := by decide +kernel
theorem d_Ro_hasAround_33 : decode b_Ro_hasAround 33 = .ok (.iinc 3 1, 3) := by decide +kernel
theorem d_Ro_hasAround_36 : decode b_Ro_hasAround 36 = .ok (.goto (-34), 3) := by decide +kernel
theorem d_Ro_hasAround_39 : decode b_Ro_hasAround 39 = .ok (.iconst 0, 1) := by decide +kernel
theorem d_Ro_hasAround_40 : decode b_Ro_hasAround 40 = .ok (.ireturn, 1) := by decide +kernel
theorem d_Ro_hasNear_0 : decode b_Ro_hasNear 0 = .ok (.iconst 0, 1) := by decide +kernel
theorem d_Ro_hasNear_1 : decode b_Ro_hasNear 1 = .ok (.istore 4, 2) := by decide +kernel
theorem d_Ro_hasNear_3 : decode b_Ro_hasNear 3 = .ok (.iload 4, 2) := by decide +kernel
theorem d_Ro_hasNear_5 : decode b_Ro_hasNear 5 = .ok (.bipush 30, 2) := by decide +kernel
theorem d_Ro_hasNear_7 : decode b_Ro_hasNear 7 = .ok (.if_icmp .ge 45, 3) := by decide +kernel
theorem d_Ro_hasNear_10 : decode b_Ro_hasNear 10 = .ok (.aload_n 0, 1) := by decide +kernel
theorem d_Ro_hasNear_11 : decode b_Ro_hasNear 11 = .ok (.iload 4, 2) := by decide +kernel
theorem d_Ro_hasNear_13 : decode b_Ro_hasNear 13 = .ok (.invokevirtual 25, 3) := by decide +kernel
theorem d_Ro_hasNear_16 : decode b_Ro_hasNear 16 = .ok (.ifCond .eq 30, 3) := by decide +kernel
theorem d_Ro_hasNear_19 : decode b_Ro_hasNear 19 = .ok (.iload 4, 2) := by decide +kernel
theorem d_Ro_hasNear_21 : decode b_Ro_hasNear 21 = .ok (.iload_n 2, 1) := by decide +kernel
theorem d_Ro_hasNear_22 : decode b_Ro_hasNear 22 = .ok (.isub, 1) := by decide +kernel
theorem d_Ro_hasNear_23 : decode b_Ro_hasNear 23 = .ok (.iconst 1, 1) := by decide +kernel
theorem d_Ro_hasNear_24 : decode b_Ro_hasNear 24 = .ok (.isub, 1) := by decide +kernel
theorem d_Ro_hasNear_25 : decode b_Ro_hasNear 25 = .ok (.iload_n 3, 1) := by decide +kernel
theorem d_Ro_hasNear_26 : decode b_Ro_hasNear 26 = .ok (.if_icmp .gt 20, 3) := by decide +kernel
theorem d_Ro_hasNear_29 : decode b_Ro_hasNear 29 = .ok (.iload_n 1, 1) := by decide +kernel
theorem d_Ro_hasNear_30 : decode b_Ro_hasNear 30 = .ok (.aload_n 0, 1) := by decide +kernel
theorem d_Ro_hasNear_31 : decode b_Ro_hasNear 31 = .ok (.getfield 9, 3) := by decide +kernel
theorem d_Ro_hasNear_34 : decode b_Ro_hasNear 34 = .ok (.iload 4, 2) := by decide +kernel
theorem d_Ro_hasNear_36 : decode b_Ro_hasNear 36 = .ok (.iaload, 1) := by decide +kernel
theorem d_Ro_hasNear_37 : decode b_Ro_hasNear 37 = .ok (.isub, 1) := by decide +kernel
theorem d_Ro_hasNear_38 : decode b_Ro_hasNear 38 = .ok (.iconst 1, 1) := by decide +kernel
theorem d_Ro_hasNear_39 : decode b_Ro_hasNear 39 = .ok (.isub, 1) := by decide +kernel
theorem d_Ro_hasNear_40 : decode b_Ro_hasNear 40 = .ok (.iload_n 3, 1) := by decide +kernel
theorem d_Ro_hasNear_41 : decode b_Ro_hasNear 41 = .ok (.if_icmp .gt 5, 3) := by decide +kernel
theorem d_Ro_hasNear_44 : decode b_Ro_hasNear 44 = .ok (.iconst 1, 1) := by decide +kernel
theorem d_Ro_hasNear_45 : decode b_Ro_hasNear 45 = .ok (.ireturn, 1) := by decide +kernel
theorem d_Ro_hasNear_46 : decode b_Ro_hasNear 46 = .ok (.iinc 4 1, 3) := by decide +kernel
theorem d_Ro_hasNear_49 : decode b_Ro_hasNear 49 = .ok (.goto (-46), 3) := by decide +kernel
theorem d_Ro_hasNear_52 : decode b_Ro_hasNear 52 = .ok (.iconst 0, 1) := by decide +kernel
theorem d_Ro_hasNear_53 : decode b_Ro_hasNear 53 = .ok (.ireturn, 1) := by decide +kernel
end
section
/-! Row: an end for each begin; 30 stands for none -/
def rAdd (F : Nat → Nat) (i v : Nat) : Nat → Nat := if v < F i then va_up F i v else F
theorem rAdd_le {F : Nat → Nat} {i v : Nat} (hF : ∀ j, F j ≤ 30) (hv : v ≤ 30) : ∀ j, rAdd F i v j ≤ 30 := by
  unfold rAdd
  split
  · exact k_upB hF hv
  · exact hF
/-- keepLeast, from n places down -/
def rKL : Nat → (Nat → Nat) → Nat → (Nat → Nat)
  | 0, F, _ => F
  | n + 1, F, le => if F n < le then rKL n F (F n) else rKL n (va_up F n 30) le
/-- size, from place i on -/
def rSize (F : Nat → Nat) : Nat → Nat → Nat → Nat
  | 0, _, acc => acc
  | n + 1, i, acc => if F i ≠ 30 then rSize F n (i + 1) (acc + 1) else rSize F n (i + 1) acc
/-- beginOf -/
def rBegin (F : Nat → Nat) (k : Int) : Nat → Nat → Nat → Int
  | 0, _, _ => -1
  | n + 1, i, b => if F i ≠ 30 then (if (b : Int) = k then (i : Int) else rBegin F k n (i + 1) (b + 1)) else rBegin F k n (i + 1) b
def rEnd (F : Nat → Nat) (k : Int) : Int := if 0 ≤ rBegin F k 30 0 0 then (F (rBegin F k 30 0 0).toNat : Int) else -1
/-- placesCovered -/
def rCov (F : Nat → Nat) : Nat → Nat → Int → Int → Int
  | 0, _, cov, _ => cov
  | n + 1, i, cov, last => if F i ≠ 30 then rCov F n (i + 1) (cov + ((F i : Int) - max last ((i : Int) - 1))) (F i) else rCov F n (i + 1) cov last
/-- addPlacesWith -/
def rWith (t : Nat → Nat) (set : Nat) : Nat → Nat → (Nat → Nat) → (Nat → Nat)
  | 0, _, F => F
  | n + 1, i, F => if t i &&& set ≠ 0 then rWith t set n (i + 1) (rAdd F i i) else rWith t set n (i + 1) F
/-- addGrown -/
def rGrown (a : Nat → Nat) (k : Nat) : Nat → Nat → (Nat → Nat) → (Nat → Nat)
  | 0, _, F => F
  | n + 1, i, F => if a i ≠ 30 then rGrown a k n (i + 1) (rAdd F (i - k) (a i)) else rGrown a k n (i + 1) F
/-- addEndingBefore -/
def rBefore (a : Nat → Nat) (k : Nat) : Nat → Nat → (Nat → Nat) → (Nat → Nat)
  | 0, _, F => F
  | n + 1, i, F => if a i ≠ 30 then (if a i < k then rBefore a k n (i + 1) (rAdd F i (a i)) else rBefore a k n (i + 1) F) else rBefore a k n (i + 1) F
/-- addBehindOne, next at i -/
def rBehind1 (b : Nat → Nat) (from_ to k : Nat) : Nat → Nat → (Nat → Nat) → (Nat → Nat)
  | 0, _, F => F
  | n + 1, i, F => if (i : Int) - to - 1 ≤ k then (if b i ≠ 30 then rBehind1 b from_ to k n (i + 1) (rAdd F from_ (b i)) else rBehind1 b from_ to k n (i + 1) F) else F
def rBehind (a b : Nat → Nat) (k : Nat) : Nat → Nat → (Nat → Nat) → (Nat → Nat)
  | 0, _, F => F
  | n + 1, i, F => if a i ≠ 30 then rBehind a b k n (i + 1) (rBehind1 b i (a i) k (29 - a i) (a i + 1) F) else rBehind a b k n (i + 1) F
/-- addBothOfOne -/
def rBoth1 (b : Nat → Nat) (from_ to k : Nat) : Nat → Nat → (Nat → Nat) → (Nat → Nat)
  | 0, _, F => F
  | n + 1, i, F => if b i ≠ 30 then (if max to (b i) + 1 ≤ k + min from_ i then rBoth1 b from_ to k n (i + 1) (rAdd F (min from_ i) (max to (b i))) else rBoth1 b from_ to k n (i + 1) F) else rBoth1 b from_ to k n (i + 1) F
def rBoth (a b : Nat → Nat) (k : Nat) : Nat → Nat → (Nat → Nat) → (Nat → Nat)
  | 0, _, F => F
  | n + 1, i, F => if a i ≠ 30 then rBoth a b k n (i + 1) (rBoth1 b i (a i) k 30 0 F) else rBoth a b k n (i + 1) F
/-- hasWithin, hasAround, hasNear: from place i on -/
def rHW (b : Nat → Nat) (high : Nat) : Nat → Nat → Bool
  | 0, _ => false
  | n + 1, i => if b i ≠ 30 then (if b i ≤ high then true else rHW b high n (i + 1)) else rHW b high n (i + 1)
def rHA (b : Nat → Nat) (low high : Nat) : Nat → Nat → Bool
  | 0, _ => false
  | n + 1, i => if i ≤ low then (if b i ≠ 30 then (if high ≤ b i then true else rHA b low high n (i + 1)) else rHA b low high n (i + 1)) else false
def rHN (b : Nat → Nat) (low high : Nat) (k : Int) : Nat → Nat → Bool
  | 0, _ => false
  | n + 1, i => if b i ≠ 30 then (if (i : Int) - high - 1 ≤ k then (if (low : Int) - b i - 1 ≤ k then true else rHN b low high k n (i + 1)) else rHN b low high k n (i + 1)) else rHN b low high k n (i + 1)
def rHolding (a b : Nat → Nat) : Nat → Nat → (Nat → Nat) → (Nat → Nat)
  | 0, _, F => F
  | n + 1, i, F => if a i ≠ 30 then (if rHW b (a i) (30 - i) i = true then rHolding a b n (i + 1) (rAdd F i (a i)) else rHolding a b n (i + 1) F) else rHolding a b n (i + 1) F
def rIn (a b : Nat → Nat) : Nat → Nat → (Nat → Nat) → (Nat → Nat)
  | 0, _, F => F
  | n + 1, i, F => if a i ≠ 30 then (if rHA b i (a i) 30 0 = true then rIn a b n (i + 1) (rAdd F i (a i)) else rIn a b n (i + 1) F) else rIn a b n (i + 1) F
def rNear (a b : Nat → Nat) (k : Int) (want : Bool) : Nat → Nat → (Nat → Nat) → (Nat → Nat)
  | 0, _, F => F
  | n + 1, i, F => if a i ≠ 30 then (if rHN b i (a i) k 30 0 = want then rNear a b k want n (i + 1) (rAdd F i (a i)) else rNear a b k want n (i + 1) F) else rNear a b k want n (i + 1) F
theorem rBegin_bd (F : Nat → Nat) (k : Int) : ∀ (n i b : Nat), i + n ≤ 30 → -1 ≤ rBegin F k n i b ∧ rBegin F k n i b < 30
  | 0, i, b, h => by unfold rBegin; omega
  | n + 1, i, b, h => by
    have h1 := rBegin_bd F k n (i + 1) (b + 1) (by omega)
    have h2 := rBegin_bd F k n (i + 1) b (by omega)
    unfold rBegin
    repeat' split
    all_goals omega
theorem r_bd_rWith {t : Nat → Nat} {set : Nat} : ∀ {n i : Nat} {F : Nat → Nat}, i + n ≤ 30 → (∀ j, F j ≤ 30) → ∀ j, rWith t set n i F j ≤ 30
  | 0, _, _, _, hF => hF
  | n + 1, i, F, h, hF => by
    unfold rWith
    split
    · exact r_bd_rWith (by omega) (rAdd_le hF (by omega))
    · exact r_bd_rWith (by omega) hF
theorem r_bd_rGrown {F a : Nat → Nat} (hF : ∀ j, F j ≤ 30) (ha : ∀ j, a j ≤ 30) {k : Nat} : ∀ {n i : Nat}, ∀ j, rGrown a k n i F j ≤ 30 := by
  intro n
  induction n generalizing F with
  | zero => intro i; exact hF
  | succ n ih =>
    intro i
    unfold rGrown
    split
    · exact ih (rAdd_le hF (ha i))
    · exact ih hF
theorem r_bd_rBefore {F a : Nat → Nat} (hF : ∀ j, F j ≤ 30) (ha : ∀ j, a j ≤ 30) {k : Nat} : ∀ {n i : Nat}, ∀ j, rBefore a k n i F j ≤ 30 := by
  intro n
  induction n generalizing F with
  | zero => intro i; exact hF
  | succ n ih =>
    intro i
    unfold rBefore
    repeat' split
    · exact ih (rAdd_le hF (ha i))
    · exact ih hF
    · exact ih hF
theorem r_bd_rBehind1 {F b : Nat → Nat} (hF : ∀ j, F j ≤ 30) (hb : ∀ j, b j ≤ 30) {f t k : Nat} : ∀ {n i : Nat}, ∀ j, rBehind1 b f t k n i F j ≤ 30 := by
  intro n
  induction n generalizing F with
  | zero => intro i; exact hF
  | succ n ih =>
    intro i
    unfold rBehind1
    repeat' split
    · exact ih (rAdd_le hF (hb i))
    · exact ih hF
    · exact hF
theorem r_bd_rBehind {F a b : Nat → Nat} (hF : ∀ j, F j ≤ 30) (hb : ∀ j, b j ≤ 30) {k : Nat} : ∀ {n i : Nat}, ∀ j, rBehind a b k n i F j ≤ 30 := by
  intro n
  induction n generalizing F with
  | zero => intro i; exact hF
  | succ n ih =>
    intro i
    unfold rBehind
    split
    · exact ih (r_bd_rBehind1 hF hb)
    · exact ih hF
theorem r_bd_rBoth1 {F b : Nat → Nat} (hF : ∀ j, F j ≤ 30) (hb : ∀ j, b j ≤ 30) {f t k : Nat} (ht : t ≤ 30) : ∀ {n i : Nat}, ∀ j, rBoth1 b f t k n i F j ≤ 30 := by
  intro n
  induction n generalizing F with
  | zero => intro i; exact hF
  | succ n ih =>
    intro i
    have := hb i
    unfold rBoth1
    repeat' split
    · exact ih (rAdd_le hF (by omega))
    · exact ih hF
    · exact ih hF
theorem r_bd_rBoth {F a b : Nat → Nat} (hF : ∀ j, F j ≤ 30) (ha : ∀ j, a j ≤ 30) (hb : ∀ j, b j ≤ 30) {k : Nat} : ∀ {n i : Nat}, ∀ j, rBoth a b k n i F j ≤ 30 := by
  intro n
  induction n generalizing F with
  | zero => intro i; exact hF
  | succ n ih =>
    intro i
    unfold rBoth
    split
    · exact ih (r_bd_rBoth1 hF hb (ha i))
    · exact ih hF
theorem r_bd_rHolding {F a b : Nat → Nat} (hF : ∀ j, F j ≤ 30) (ha : ∀ j, a j ≤ 30) : ∀ {n i : Nat}, ∀ j, rHolding a b n i F j ≤ 30 := by
  intro n
  induction n generalizing F with
  | zero => intro i; exact hF
  | succ n ih =>
    intro i
    unfold rHolding
    repeat' split
    · exact ih (rAdd_le hF (ha i))
    · exact ih hF
    · exact ih hF
theorem r_bd_rIn {F a b : Nat → Nat} (hF : ∀ j, F j ≤ 30) (ha : ∀ j, a j ≤ 30) : ∀ {n i : Nat}, ∀ j, rIn a b n i F j ≤ 30 := by
  intro n
  induction n generalizing F with
  | zero => intro i; exact hF
  | succ n ih =>
    intro i
    unfold rIn
    repeat' split
    · exact ih (rAdd_le hF (ha i))
    · exact ih hF
    · exact ih hF
theorem r_bd_rNear {F a b : Nat → Nat} (hF : ∀ j, F j ≤ 30) (ha : ∀ j, a j ≤ 30) {k : Int} {w : Bool} : ∀ {n i : Nat}, ∀ j, rNear a b k w n i F j ≤ 30 := by
  intro n
  induction n generalizing F with
  | zero => intro i; exact hF
  | succ n ih =>
    intro i
    unfold rNear
    repeat' split
    · exact ih (rAdd_le hF (ha i))
    · exact ih hF
    · exact ih hF
theorem r_bd_rKL {F : Nat → Nat} (hF : ∀ j, F j ≤ 30) : ∀ {n : Nat} {le : Nat}, ∀ j, rKL n F le j ≤ 30 := by
  intro n
  induction n generalizing F with
  | zero => intro le; exact hF
  | succ n ih =>
    intro le
    unfold rKL
    split
    · exact ih hF
    · exact ih (k_upB hF (Nat.le_refl 30))
end
section
abbrev rm_PM_isPlace : Room := { frames := 0, cells := 0, slots := 0, locals := 0 }
set_option maxHeartbeats 4000000 in
set_option maxRecDepth 100000 in
theorem c_PM_isPlace (l : Launch) (D : va_G) (cI cR cG : ClassId) (x : Int) (hx1 : k_sm x) : k_M l y_Pm_isPlace (.code y_Pm_isPlace b_Pm_isPlace 1 (some .boolean) :: kW) rm_PM_isPlace D k_cl (k_ty cI cR cG) [.int (zI x)] ([]) (k_Qi D k_cl (k_b (0 ≤ x ∧ x < 30)) []) := by
  refine k_start (cc := b_Pm_isPlace) (maxL := 1) (ret := (some .boolean)) (by decide) rfl (Nat.le_of_ble_eq_true rfl) ?_
  intro p ev s m ar below meth c A ls Qf hQf hx hb hr hml hts hown hlocks hin hK hG hA hP hD hS hl
  replace hown : s.vm.findClass R_Pm = some m.cls := hown
  replace hl : lv_has ls 1 [(0, .int (zI x))] := hl
  have hkw : ∀ w ∈ kW, w.before ar s = true := fun w h => hts w (List.mem_cons_of_mem _ h)
  replace hP : va_P D k_cl ([]) s.heap := hP
  replace hD : va_D A ([]) := hD
  have hx2 := hx1.1
  have hx3 := hx1.2
  refine lv_iload_n hx hb d_Pm_isPlace_0 rfl (lv_at hl 0 rfl) ?_
  refine k_if_lt (tgt := 14) hx hb d_Pm_isPlace_1 (by decide) ⟨by omega, by omega⟩ (fun c_1 => ?_) (fun c_1 => ?_)
  · refine lv_iconst (v := zI 0) hx hb d_Pm_isPlace_14 (by decide) ?_
    rw [← hQf]
    exact k_zret hx hb hr hlocks hP hS (k_bf (by omega)).symm d_Pm_isPlace_15
  · refine lv_iload_n hx hb d_Pm_isPlace_4 rfl (lv_at hl 0 rfl) ?_
    refine lv_bipush (v := zI 30) hx hb d_Pm_isPlace_5 (by decide) ?_
    refine k_icmp_ge (tgt := 14) hx hb d_Pm_isPlace_7 (by decide) ⟨by omega, by omega⟩ ⟨by omega, by omega⟩ (fun c_7 => ?_) (fun c_7 => ?_)
    · refine lv_iconst (v := zI 0) hx hb d_Pm_isPlace_14 (by decide) ?_
      rw [← hQf]
      exact k_zret hx hb hr hlocks hP hS (k_bf (by omega)).symm d_Pm_isPlace_15
    · refine lv_iconst (v := zI 1) hx hb d_Pm_isPlace_10 (by decide) ?_
      refine lv_goto (tgt := 15) hx hb d_Pm_isPlace_11 (by decide) ?_
      rw [← hQf]
      exact k_zret hx hb hr hlocks hP hS (k_bt (by omega)).symm d_Pm_isPlace_15

abbrev rm_PM_isSet : Room := { frames := 0, cells := 0, slots := 0, locals := 0 }
set_option maxHeartbeats 4000000 in
set_option maxRecDepth 100000 in
theorem c_PM_isSet (l : Launch) (D : va_G) (cI cR cG : ClassId) (x : Int) (hx1 : k_sm x) : k_M l y_Pm_isSet (.code y_Pm_isSet b_Pm_isSet 1 (some .boolean) :: kW) rm_PM_isSet D k_cl (k_ty cI cR cG) [.int (zI x)] ([]) (k_Qi D k_cl (k_b (0 ≤ x ∧ x ≤ 1023)) []) := by
  refine k_start (cc := b_Pm_isSet) (maxL := 1) (ret := (some .boolean)) (by decide) rfl (Nat.le_of_ble_eq_true rfl) ?_
  intro p ev s m ar below meth c A ls Qf hQf hx hb hr hml hts hown hlocks hin hK hG hA hP hD hS hl
  replace hown : s.vm.findClass R_Pm = some m.cls := hown
  replace hl : lv_has ls 1 [(0, .int (zI x))] := hl
  have hkw : ∀ w ∈ kW, w.before ar s = true := fun w h => hts w (List.mem_cons_of_mem _ h)
  replace hP : va_P D k_cl ([]) s.heap := hP
  replace hD : va_D A ([]) := hD
  have hx2 := hx1.1
  have hx3 := hx1.2
  refine lv_iload_n hx hb d_Pm_isSet_0 rfl (lv_at hl 0 rfl) ?_
  refine k_if_lt (tgt := 15) hx hb d_Pm_isSet_1 (by decide) ⟨by omega, by omega⟩ (fun c_1 => ?_) (fun c_1 => ?_)
  · refine lv_iconst (v := zI 0) hx hb d_Pm_isSet_15 (by decide) ?_
    rw [← hQf]
    exact k_zret hx hb hr hlocks hP hS (k_bf (by omega)).symm d_Pm_isSet_16
  · refine lv_iload_n hx hb d_Pm_isSet_4 rfl (lv_at hl 0 rfl) ?_
    refine lv_sipush (v := zI 1023) hx hb d_Pm_isSet_5 (by decide) ?_
    refine k_icmp_gt (tgt := 15) hx hb d_Pm_isSet_8 (by decide) ⟨by omega, by omega⟩ ⟨by omega, by omega⟩ (fun c_8 => ?_) (fun c_8 => ?_)
    · refine lv_iconst (v := zI 0) hx hb d_Pm_isSet_15 (by decide) ?_
      rw [← hQf]
      exact k_zret hx hb hr hlocks hP hS (k_bf (by omega)).symm d_Pm_isSet_16
    · refine lv_iconst (v := zI 1) hx hb d_Pm_isSet_11 (by decide) ?_
      refine lv_goto (tgt := 16) hx hb d_Pm_isSet_12 (by decide) ?_
      rw [← hQf]
      exact k_zret hx hb hr hlocks hP hS (k_bt (by omega)).symm d_Pm_isSet_16

abbrev rm_PM_isSlop : Room := { frames := 0, cells := 0, slots := 0, locals := 0 }
set_option maxHeartbeats 4000000 in
set_option maxRecDepth 100000 in
theorem c_PM_isSlop (l : Launch) (D : va_G) (cI cR cG : ClassId) (x : Int) (hx1 : k_sm x) : k_M l y_Pm_isSlop (.code y_Pm_isSlop b_Pm_isSlop 1 (some .boolean) :: kW) rm_PM_isSlop D k_cl (k_ty cI cR cG) [.int (zI x)] ([]) (k_Qi D k_cl (k_b (0 ≤ x ∧ x ≤ 9)) []) := by
  refine k_start (cc := b_Pm_isSlop) (maxL := 1) (ret := (some .boolean)) (by decide) rfl (Nat.le_of_ble_eq_true rfl) ?_
  intro p ev s m ar below meth c A ls Qf hQf hx hb hr hml hts hown hlocks hin hK hG hA hP hD hS hl
  replace hown : s.vm.findClass R_Pm = some m.cls := hown
  replace hl : lv_has ls 1 [(0, .int (zI x))] := hl
  have hkw : ∀ w ∈ kW, w.before ar s = true := fun w h => hts w (List.mem_cons_of_mem _ h)
  replace hP : va_P D k_cl ([]) s.heap := hP
  replace hD : va_D A ([]) := hD
  have hx2 := hx1.1
  have hx3 := hx1.2
  refine lv_iload_n hx hb d_Pm_isSlop_0 rfl (lv_at hl 0 rfl) ?_
  refine k_if_lt (tgt := 14) hx hb d_Pm_isSlop_1 (by decide) ⟨by omega, by omega⟩ (fun c_1 => ?_) (fun c_1 => ?_)
  · refine lv_iconst (v := zI 0) hx hb d_Pm_isSlop_14 (by decide) ?_
    rw [← hQf]
    exact k_zret hx hb hr hlocks hP hS (k_bf (by omega)).symm d_Pm_isSlop_15
  · refine lv_iload_n hx hb d_Pm_isSlop_4 rfl (lv_at hl 0 rfl) ?_
    refine lv_bipush (v := zI 9) hx hb d_Pm_isSlop_5 (by decide) ?_
    refine k_icmp_gt (tgt := 14) hx hb d_Pm_isSlop_7 (by decide) ⟨by omega, by omega⟩ ⟨by omega, by omega⟩ (fun c_7 => ?_) (fun c_7 => ?_)
    · refine lv_iconst (v := zI 0) hx hb d_Pm_isSlop_14 (by decide) ?_
      rw [← hQf]
      exact k_zret hx hb hr hlocks hP hS (k_bf (by omega)).symm d_Pm_isSlop_15
    · refine lv_iconst (v := zI 1) hx hb d_Pm_isSlop_10 (by decide) ?_
      refine lv_goto (tgt := 15) hx hb d_Pm_isSlop_11 (by decide) ?_
      rw [← hQf]
      exact k_zret hx hb hr hlocks hP hS (k_bt (by omega)).symm d_Pm_isSlop_15

abbrev rm_PM_isKind : Room := { frames := 0, cells := 0, slots := 0, locals := 0 }
set_option maxHeartbeats 4000000 in
set_option maxRecDepth 100000 in
theorem c_PM_isKind (l : Launch) (D : va_G) (cI cR cG : ClassId) (x : Int) (hx1 : k_sm x) : k_M l y_Pm_isKind (.code y_Pm_isKind b_Pm_isKind 1 (some .boolean) :: kW) rm_PM_isKind D k_cl (k_ty cI cR cG) [.int (zI x)] ([]) (k_Qi D k_cl (k_b (0 ≤ x ∧ x ≤ 10)) []) := by
  refine k_start (cc := b_Pm_isKind) (maxL := 1) (ret := (some .boolean)) (by decide) rfl (Nat.le_of_ble_eq_true rfl) ?_
  intro p ev s m ar below meth c A ls Qf hQf hx hb hr hml hts hown hlocks hin hK hG hA hP hD hS hl
  replace hown : s.vm.findClass R_Pm = some m.cls := hown
  replace hl : lv_has ls 1 [(0, .int (zI x))] := hl
  have hkw : ∀ w ∈ kW, w.before ar s = true := fun w h => hts w (List.mem_cons_of_mem _ h)
  replace hP : va_P D k_cl ([]) s.heap := hP
  replace hD : va_D A ([]) := hD
  have hx2 := hx1.1
  have hx3 := hx1.2
  refine lv_iload_n hx hb d_Pm_isKind_0 rfl (lv_at hl 0 rfl) ?_
  refine k_if_lt (tgt := 14) hx hb d_Pm_isKind_1 (by decide) ⟨by omega, by omega⟩ (fun c_1 => ?_) (fun c_1 => ?_)
  · refine lv_iconst (v := zI 0) hx hb d_Pm_isKind_14 (by decide) ?_
    rw [← hQf]
    exact k_zret hx hb hr hlocks hP hS (k_bf (by omega)).symm d_Pm_isKind_15
  · refine lv_iload_n hx hb d_Pm_isKind_4 rfl (lv_at hl 0 rfl) ?_
    refine lv_bipush (v := zI 10) hx hb d_Pm_isKind_5 (by decide) ?_
    refine k_icmp_gt (tgt := 14) hx hb d_Pm_isKind_7 (by decide) ⟨by omega, by omega⟩ ⟨by omega, by omega⟩ (fun c_7 => ?_) (fun c_7 => ?_)
    · refine lv_iconst (v := zI 0) hx hb d_Pm_isKind_14 (by decide) ?_
      rw [← hQf]
      exact k_zret hx hb hr hlocks hP hS (k_bf (by omega)).symm d_Pm_isKind_15
    · refine lv_iconst (v := zI 1) hx hb d_Pm_isKind_10 (by decide) ?_
      refine lv_goto (tgt := 15) hx hb d_Pm_isKind_11 (by decide) ?_
      rw [← hQf]
      exact k_zret hx hb hr hlocks hP hS (k_bt (by omega)).symm d_Pm_isKind_15

abbrev rm_PM_isNumberOf : Room := { frames := 0, cells := 0, slots := 0, locals := 0 }
set_option maxHeartbeats 4000000 in
set_option maxRecDepth 100000 in
theorem c_PM_isNumberOf (l : Launch) (D : va_G) (cI cR cG : ClassId) (x y : Int) (hx1 : k_sm x) (hy1 : k_sm y) : k_M l y_Pm_isNumberOf (.code y_Pm_isNumberOf b_Pm_isNumberOf 2 (some .boolean) :: kW) rm_PM_isNumberOf D k_cl (k_ty cI cR cG) [.int (zI x), .int (zI y)] ([]) (k_Qi D k_cl (k_b (0 ≤ y ∧ (x = 0 ∧ y < 10 ∨ x ≠ 0 ∧ y ≤ 30))) []) := by
  refine k_start (cc := b_Pm_isNumberOf) (maxL := 2) (ret := (some .boolean)) (by decide) rfl (Nat.le_of_ble_eq_true rfl) ?_
  intro p ev s m ar below meth c A ls Qf hQf hx hb hr hml hts hown hlocks hin hK hG hA hP hD hS hl
  replace hown : s.vm.findClass R_Pm = some m.cls := hown
  replace hl : lv_has ls 2 [(0, .int (zI x)), (1, .int (zI y))] := hl
  have hkw : ∀ w ∈ kW, w.before ar s = true := fun w h => hts w (List.mem_cons_of_mem _ h)
  replace hP : va_P D k_cl ([]) s.heap := hP
  replace hD : va_D A ([]) := hD
  have hx2 := hx1.1
  have hx3 := hx1.2
  have hy2 := hy1.1
  have hy3 := hy1.2
  refine lv_iload_n hx hb d_Pm_isNumberOf_0 rfl (lv_at hl 1 rfl) ?_
  refine k_if_lt (tgt := 27) hx hb d_Pm_isNumberOf_1 (by decide) ⟨by omega, by omega⟩ (fun c_1 => ?_) (fun c_1 => ?_)
  · refine lv_iconst (v := zI 0) hx hb d_Pm_isNumberOf_27 (by decide) ?_
    rw [← hQf]
    exact k_zret hx hb hr hlocks hP hS (k_bf (by omega)).symm d_Pm_isNumberOf_28
  · refine lv_iload_n hx hb d_Pm_isNumberOf_4 rfl (lv_at hl 0 rfl) ?_
    refine k_if_ne (tgt := 17) hx hb d_Pm_isNumberOf_5 (by decide) ⟨by omega, by omega⟩ (fun c_5 => ?_) (fun c_5 => ?_)
    · refine lv_iload_n hx hb d_Pm_isNumberOf_17 rfl (lv_at hl 1 rfl) ?_
      refine lv_bipush (v := zI 30) hx hb d_Pm_isNumberOf_18 (by decide) ?_
      refine k_icmp_gt (tgt := 27) hx hb d_Pm_isNumberOf_20 (by decide) ⟨by omega, by omega⟩ ⟨by omega, by omega⟩ (fun c_20 => ?_) (fun c_20 => ?_)
      · refine lv_iconst (v := zI 0) hx hb d_Pm_isNumberOf_27 (by decide) ?_
        rw [← hQf]
        exact k_zret hx hb hr hlocks hP hS (k_bf (by omega)).symm d_Pm_isNumberOf_28
      · refine lv_iconst (v := zI 1) hx hb d_Pm_isNumberOf_23 (by decide) ?_
        refine lv_goto (tgt := 28) hx hb d_Pm_isNumberOf_24 (by decide) ?_
        rw [← hQf]
        exact k_zret hx hb hr hlocks hP hS (k_bt (by omega)).symm d_Pm_isNumberOf_28
    · refine lv_iload_n hx hb d_Pm_isNumberOf_8 rfl (lv_at hl 1 rfl) ?_
      refine lv_bipush (v := zI 10) hx hb d_Pm_isNumberOf_9 (by decide) ?_
      refine k_icmp_ge (tgt := 27) hx hb d_Pm_isNumberOf_11 (by decide) ⟨by omega, by omega⟩ ⟨by omega, by omega⟩ (fun c_11 => ?_) (fun c_11 => ?_)
      · refine lv_iconst (v := zI 0) hx hb d_Pm_isNumberOf_27 (by decide) ?_
        rw [← hQf]
        exact k_zret hx hb hr hlocks hP hS (k_bf (by omega)).symm d_Pm_isNumberOf_28
      · refine lv_goto (tgt := 23) hx hb d_Pm_isNumberOf_14 (by decide) ?_
        refine lv_iconst (v := zI 1) hx hb d_Pm_isNumberOf_23 (by decide) ?_
        refine lv_goto (tgt := 28) hx hb d_Pm_isNumberOf_24 (by decide) ?_
        rw [← hQf]
        exact k_zret hx hb hr hlocks hP hS (k_bt (by omega)).symm d_Pm_isNumberOf_28

abbrev rm_PM_countsFirst : Room := { frames := 0, cells := 0, slots := 0, locals := 0 }
set_option maxHeartbeats 4000000 in
set_option maxRecDepth 100000 in
theorem c_PM_countsFirst (l : Launch) (D : va_G) (cI cR cG : ClassId) (x : Int) (hx1 : k_sm x) : k_M l y_Pm_countsFirst (.code y_Pm_countsFirst b_Pm_countsFirst 1 (some .boolean) :: kW) rm_PM_countsFirst D k_cl (k_ty cI cR cG) [.int (zI x)] ([]) (k_Qi D k_cl (k_b (x ≠ 0)) []) := by
  refine k_start (cc := b_Pm_countsFirst) (maxL := 1) (ret := (some .boolean)) (by decide) rfl (Nat.le_of_ble_eq_true rfl) ?_
  intro p ev s m ar below meth c A ls Qf hQf hx hb hr hml hts hown hlocks hin hK hG hA hP hD hS hl
  replace hown : s.vm.findClass R_Pm = some m.cls := hown
  replace hl : lv_has ls 1 [(0, .int (zI x))] := hl
  have hkw : ∀ w ∈ kW, w.before ar s = true := fun w h => hts w (List.mem_cons_of_mem _ h)
  replace hP : va_P D k_cl ([]) s.heap := hP
  replace hD : va_D A ([]) := hD
  have hx2 := hx1.1
  have hx3 := hx1.2
  refine lv_iload_n hx hb d_Pm_countsFirst_0 rfl (lv_at hl 0 rfl) ?_
  refine k_if_eq (tgt := 8) hx hb d_Pm_countsFirst_1 (by decide) ⟨by omega, by omega⟩ (fun c_1 => ?_) (fun c_1 => ?_)
  · refine lv_iconst (v := zI 0) hx hb d_Pm_countsFirst_8 (by decide) ?_
    rw [← hQf]
    exact k_zret hx hb hr hlocks hP hS (k_bf (by omega)).symm d_Pm_countsFirst_9
  · refine lv_iconst (v := zI 1) hx hb d_Pm_countsFirst_4 (by decide) ?_
    refine lv_goto (tgt := 9) hx hb d_Pm_countsFirst_5 (by decide) ?_
    rw [← hQf]
    exact k_zret hx hb hr hlocks hP hS (k_bt (by omega)).symm d_Pm_countsFirst_9

abbrev rm_PM_countsSecond : Room := { frames := 0, cells := 0, slots := 0, locals := 0 }
set_option maxHeartbeats 4000000 in
set_option maxRecDepth 100000 in
theorem c_PM_countsSecond (l : Launch) (D : va_G) (cI cR cG : ClassId) (x : Int) (hx1 : k_sm x) : k_M l y_Pm_countsSecond (.code y_Pm_countsSecond b_Pm_countsSecond 1 (some .boolean) :: kW) rm_PM_countsSecond D k_cl (k_ty cI cR cG) [.int (zI x)] ([]) (k_Qi D k_cl (k_b (1 ≤ x ∧ x ≤ 8)) []) := by
  refine k_start (cc := b_Pm_countsSecond) (maxL := 1) (ret := (some .boolean)) (by decide) rfl (Nat.le_of_ble_eq_true rfl) ?_
  intro p ev s m ar below meth c A ls Qf hQf hx hb hr hml hts hown hlocks hin hK hG hA hP hD hS hl
  replace hown : s.vm.findClass R_Pm = some m.cls := hown
  replace hl : lv_has ls 1 [(0, .int (zI x))] := hl
  have hkw : ∀ w ∈ kW, w.before ar s = true := fun w h => hts w (List.mem_cons_of_mem _ h)
  replace hP : va_P D k_cl ([]) s.heap := hP
  replace hD : va_D A ([]) := hD
  have hx2 := hx1.1
  have hx3 := hx1.2
  refine lv_iload_n hx hb d_Pm_countsSecond_0 rfl (lv_at hl 0 rfl) ?_
  refine lv_iconst (v := zI 1) hx hb d_Pm_countsSecond_1 (by decide) ?_
  refine k_icmp_lt (tgt := 15) hx hb d_Pm_countsSecond_2 (by decide) ⟨by omega, by omega⟩ ⟨by omega, by omega⟩ (fun c_2 => ?_) (fun c_2 => ?_)
  · refine lv_iconst (v := zI 0) hx hb d_Pm_countsSecond_15 (by decide) ?_
    rw [← hQf]
    exact k_zret hx hb hr hlocks hP hS (k_bf (by omega)).symm d_Pm_countsSecond_16
  · refine lv_iload_n hx hb d_Pm_countsSecond_5 rfl (lv_at hl 0 rfl) ?_
    refine lv_bipush (v := zI 8) hx hb d_Pm_countsSecond_6 (by decide) ?_
    refine k_icmp_gt (tgt := 15) hx hb d_Pm_countsSecond_8 (by decide) ⟨by omega, by omega⟩ ⟨by omega, by omega⟩ (fun c_8 => ?_) (fun c_8 => ?_)
    · refine lv_iconst (v := zI 0) hx hb d_Pm_countsSecond_15 (by decide) ?_
      rw [← hQf]
      exact k_zret hx hb hr hlocks hP hS (k_bf (by omega)).symm d_Pm_countsSecond_16
    · refine lv_iconst (v := zI 1) hx hb d_Pm_countsSecond_11 (by decide) ?_
      refine lv_goto (tgt := 16) hx hb d_Pm_countsSecond_12 (by decide) ?_
      rw [← hQf]
      exact k_zret hx hb hr hlocks hP hS (k_bt (by omega)).symm d_Pm_countsSecond_16

abbrev rm_PM_countsNumber : Room := { frames := 0, cells := 0, slots := 0, locals := 0 }
set_option maxHeartbeats 4000000 in
set_option maxRecDepth 100000 in
theorem c_PM_countsNumber (l : Launch) (D : va_G) (cI cR cG : ClassId) (x : Int) (hx1 : k_sm x) : k_M l y_Pm_countsNumber (.code y_Pm_countsNumber b_Pm_countsNumber 1 (some .boolean) :: kW) rm_PM_countsNumber D k_cl (k_ty cI cR cG) [.int (zI x)] ([]) (k_Qi D k_cl (k_b (x ≠ 1 ∧ x ≠ 5 ∧ x ≠ 6 ∧ x ≠ 7)) []) := by
  refine k_start (cc := b_Pm_countsNumber) (maxL := 1) (ret := (some .boolean)) (by decide) rfl (Nat.le_of_ble_eq_true rfl) ?_
  intro p ev s m ar below meth c A ls Qf hQf hx hb hr hml hts hown hlocks hin hK hG hA hP hD hS hl
  replace hown : s.vm.findClass R_Pm = some m.cls := hown
  replace hl : lv_has ls 1 [(0, .int (zI x))] := hl
  have hkw : ∀ w ∈ kW, w.before ar s = true := fun w h => hts w (List.mem_cons_of_mem _ h)
  replace hP : va_P D k_cl ([]) s.heap := hP
  replace hD : va_D A ([]) := hD
  have hx2 := hx1.1
  have hx3 := hx1.2
  refine lv_iload_n hx hb d_Pm_countsNumber_0 rfl (lv_at hl 0 rfl) ?_
  refine lv_iconst (v := zI 1) hx hb d_Pm_countsNumber_1 (by decide) ?_
  refine k_icmp_eq (tgt := 26) hx hb d_Pm_countsNumber_2 (by decide) ⟨by omega, by omega⟩ ⟨by omega, by omega⟩ (fun c_2 => ?_) (fun c_2 => ?_)
  · refine lv_iconst (v := zI 0) hx hb d_Pm_countsNumber_26 (by decide) ?_
    rw [← hQf]
    exact k_zret hx hb hr hlocks hP hS (k_bf (by omega)).symm d_Pm_countsNumber_27
  · refine lv_iload_n hx hb d_Pm_countsNumber_5 rfl (lv_at hl 0 rfl) ?_
    refine lv_iconst (v := zI 5) hx hb d_Pm_countsNumber_6 (by decide) ?_
    refine k_icmp_eq (tgt := 26) hx hb d_Pm_countsNumber_7 (by decide) ⟨by omega, by omega⟩ ⟨by omega, by omega⟩ (fun c_7 => ?_) (fun c_7 => ?_)
    · refine lv_iconst (v := zI 0) hx hb d_Pm_countsNumber_26 (by decide) ?_
      rw [← hQf]
      exact k_zret hx hb hr hlocks hP hS (k_bf (by omega)).symm d_Pm_countsNumber_27
    · refine lv_iload_n hx hb d_Pm_countsNumber_10 rfl (lv_at hl 0 rfl) ?_
      refine lv_bipush (v := zI 6) hx hb d_Pm_countsNumber_11 (by decide) ?_
      refine k_icmp_eq (tgt := 26) hx hb d_Pm_countsNumber_13 (by decide) ⟨by omega, by omega⟩ ⟨by omega, by omega⟩ (fun c_13 => ?_) (fun c_13 => ?_)
      · refine lv_iconst (v := zI 0) hx hb d_Pm_countsNumber_26 (by decide) ?_
        rw [← hQf]
        exact k_zret hx hb hr hlocks hP hS (k_bf (by omega)).symm d_Pm_countsNumber_27
      · refine lv_iload_n hx hb d_Pm_countsNumber_16 rfl (lv_at hl 0 rfl) ?_
        refine lv_bipush (v := zI 7) hx hb d_Pm_countsNumber_17 (by decide) ?_
        refine k_icmp_eq (tgt := 26) hx hb d_Pm_countsNumber_19 (by decide) ⟨by omega, by omega⟩ ⟨by omega, by omega⟩ (fun c_19 => ?_) (fun c_19 => ?_)
        · refine lv_iconst (v := zI 0) hx hb d_Pm_countsNumber_26 (by decide) ?_
          rw [← hQf]
          exact k_zret hx hb hr hlocks hP hS (k_bf (by omega)).symm d_Pm_countsNumber_27
        · refine lv_iconst (v := zI 1) hx hb d_Pm_countsNumber_22 (by decide) ?_
          refine lv_goto (tgt := 27) hx hb d_Pm_countsNumber_23 (by decide) ?_
          rw [← hQf]
          exact k_zret hx hb hr hlocks hP hS (k_bt (by omega)).symm d_Pm_countsNumber_27
end
section
abbrev rm_Row_add : Room := { frames := 1, cells := 0, slots := 0, locals := 20 }
set_option maxHeartbeats 4000000 in
set_option maxRecDepth 100000 in
theorem c_Row_add (l : Launch) (D : va_G) (cI cR cG : ClassId) (h e i v : Nat) (F : Nat → Nat) (hi : i < 30) (hv : v ≤ 30) (hF : ∀ j, F j ≤ 30) : k_M l y_Ro_add (.code y_Ro_add b_Ro_add 3 none :: kW) rm_Row_add D k_cl (k_ty cI cR cG) [.ref h, .int (zI ↑i), .int (zI ↑v)] ([(h, .inr (2, [.ref e])), (e, .inl (cI, 30, .inl (kA F)))]) (k_Qv D k_cl [(h, .inr (2, [.ref e])), (e, .inl (cI, 30, .inl (kA (rAdd F i v))))]) := by
  refine k_start (cc := b_Ro_add) (maxL := 3) (ret := none) (by decide) rfl (Nat.le_of_ble_eq_true rfl) ?_
  intro p ev s m ar below meth c A ls Qf hQf hx hb hr hml hts hown hlocks hin hK hG hA hP hD hS hl
  replace hown : s.vm.findClass R_Ro = some m.cls := hown
  replace hl : lv_has ls 3 [(0, .ref h), (1, .int (zI ↑i)), (2, .int (zI ↑v))] := hl
  have hkw : ∀ w ∈ kW, w.before ar s = true := fun w h => hts w (List.mem_cons_of_mem _ h)
  replace hP : va_P D k_cl ([(h, .inr (2, [.ref e])), (e, .inl (cI, 30, .inl (kA F)))]) s.heap := hP
  replace hD : va_D A ([(h, .inr (2, [.ref e])), (e, .inl (cI, 30, .inl (kA F)))]) := hD
  refine lv_iload_n hx hb d_Ro_add_0 rfl (lv_at hl 1 rfl) ?_
  refine k_beI (va_runSN (As := [.int (zI ↑i)]) (rest := []) ⟨hx, hb, hml, hown, hkw⟩ (c_PM_isPlace l D cI cR cG ↑i ⟨by omega, by omega⟩ _) ⟨va_cnB 1 hkw (k_gN kw_code_Pm_isPlace) rfl rfl rfl (hG (R_Ro, 21, y_Pm_isPlace, "PhraseMoves") List.mem_cons_self) (hkw _ kw_initialized_Pm) (by decide +kernel) ⟨(Nat.le_of_ble_eq_true rfl), (Nat.le_of_ble_eq_true rfl)⟩, (hkw _ kw_static_Pm_isPlace), trivial⟩ (k_preS hK hG hP hD [] rfl rfl) rfl rfl hl.1 rfl (lv_room (Nat.le_of_ble_eq_true rfl)) d_Ro_add_1 ⟨Nat.zero_le _, Nat.zero_le _⟩) hP hD hS hA [] rfl (Eq.trans (b := []) rfl rfl) ?_
  clear hP hD hS; intro H locs hP hD hS
  replace hP : va_P D k_cl ([(h, .inr (2, [.ref e])), (e, .inl (cI, 30, .inl (kA F)))]) H := hP
  replace hD : va_D A ([(h, .inr (2, [.ref e])), (e, .inl (cI, 30, .inl (kA F)))]) := hD
  refine k_bif_eq (tgt := 24) hx hb d_Ro_add_4 (by decide) (fun c_4 => ?_) (fun c_4 => ?_)
  · exfalso; omega
  · refine lv_iload_n hx hb d_Ro_add_7 rfl (lv_at hl 2 rfl) ?_
    refine lv_aload_n hx hb d_Ro_add_8 rfl (lv_at hl 0 rfl) ?_
    refine va_get (D := D) (ci := 2) (v := .ref e) (C := R_Ro) (T := T_Ro) (N := 1) hx hb hkw kin_Ro hown hK hP 0 rfl rfl 0 (by decide) (hkw _ kw_fieldLink_Ro_9) (fun _ h9 => h9) rfl d_Ro_add_9 ?_
    refine lv_iload_n hx hb d_Ro_add_12 rfl (lv_at hl 1 rfl) ?_
    refine k_ald hx hb hK hP 1 0 rfl rfl (i := i) (by omega) (by omega) (by omega) d_Ro_add_13 ?_
    have hv_1 := hF i
    refine k_icmp_ge (tgt := 24) hx hb d_Ro_add_14 (by decide) ⟨by omega, by omega⟩ ⟨by omega, by omega⟩ (fun c_14 => ?_) (fun c_14 => ?_)
    · rw [← hQf]
      have hP : va_P D k_cl [(h, .inr (2, [.ref e])), (e, .inl (cI, 30, .inl (kA (rAdd F i v))))] H := by
        rw [show rAdd F i v = F from if_neg (by omega)]
        exact hP
      exact k_vret hx hb hr hlocks hP hS d_Ro_add_24
    · refine lv_aload_n hx hb d_Ro_add_17 rfl (lv_at hl 0 rfl) ?_
      refine va_get (D := D) (ci := 2) (v := .ref e) (C := R_Ro) (T := T_Ro) (N := 1) hx hb hkw kin_Ro hown hK hP 0 rfl rfl 0 (by decide) (hkw _ kw_fieldLink_Ro_9) (fun _ h9 => h9) rfl d_Ro_add_18 ?_
      refine lv_iload_n hx hb d_Ro_add_21 rfl (lv_at hl 1 rfl) ?_
      refine lv_iload_n hx hb d_Ro_add_22 rfl (lv_at hl 2 rfl) ?_
      refine k_ast hx hb hK hP hD hS 1 0 rfl rfl (i := i) (v := v) (by omega) (by omega) (by omega) (by omega) d_Ro_add_23 ?_
      clear hP hD hS; intro H locs hP hD hS
      replace hP : va_P D k_cl ([(h, .inr (2, [.ref e])), (e, .inl (cI, 30, .inl (kA (va_up F i v))))]) H := hP
      replace hD : va_D A ([(h, .inr (2, [.ref e])), (e, .inl (cI, 30, .inl (kA (va_up F i v))))]) := hD
      rw [← hQf]
      have hP : va_P D k_cl [(h, .inr (2, [.ref e])), (e, .inl (cI, 30, .inl (kA (rAdd F i v))))] H := by
        rw [show rAdd F i v = va_up F i v from if_pos (by omega)]
        exact hP
      exact k_vret hx hb hr hlocks hP hS d_Ro_add_24

abbrev rm_Row_beginsAt : Room := { frames := 1, cells := 0, slots := 0, locals := 20 }
set_option maxHeartbeats 4000000 in
set_option maxRecDepth 100000 in
theorem c_Row_beginsAt (l : Launch) (D : va_G) (cI cR cG : ClassId) (h e i : Nat) (F : Nat → Nat) (hi : i < 30) (hF : ∀ j, F j ≤ 30) : k_M l y_Ro_beginsAt (.code y_Ro_beginsAt b_Ro_beginsAt 2 (some .boolean) :: kW) rm_Row_beginsAt D k_cl (k_ty cI cR cG) [.ref h, .int (zI ↑i)] ([(h, .inr (2, [.ref e])), (e, .inl (cI, 30, .inl (kA F)))]) (k_Qi D k_cl (k_b (F i ≠ 30)) [(h, .inr (2, [.ref e])), (e, .inl (cI, 30, .inl (kA F)))]) := by
  refine k_start (cc := b_Ro_beginsAt) (maxL := 2) (ret := (some .boolean)) (by decide) rfl (Nat.le_of_ble_eq_true rfl) ?_
  intro p ev s m ar below meth c A ls Qf hQf hx hb hr hml hts hown hlocks hin hK hG hA hP hD hS hl
  replace hown : s.vm.findClass R_Ro = some m.cls := hown
  replace hl : lv_has ls 2 [(0, .ref h), (1, .int (zI ↑i))] := hl
  have hkw : ∀ w ∈ kW, w.before ar s = true := fun w h => hts w (List.mem_cons_of_mem _ h)
  replace hP : va_P D k_cl ([(h, .inr (2, [.ref e])), (e, .inl (cI, 30, .inl (kA F)))]) s.heap := hP
  replace hD : va_D A ([(h, .inr (2, [.ref e])), (e, .inl (cI, 30, .inl (kA F)))]) := hD
  refine lv_iload_n hx hb d_Ro_beginsAt_0 rfl (lv_at hl 1 rfl) ?_
  refine k_beI (va_runSN (As := [.int (zI ↑i)]) (rest := []) ⟨hx, hb, hml, hown, hkw⟩ (c_PM_isPlace l D cI cR cG ↑i ⟨by omega, by omega⟩ _) ⟨va_cnB 1 hkw (k_gN kw_code_Pm_isPlace) rfl rfl rfl (hG (R_Ro, 21, y_Pm_isPlace, "PhraseMoves") List.mem_cons_self) (hkw _ kw_initialized_Pm) (by decide +kernel) ⟨(Nat.le_of_ble_eq_true rfl), (Nat.le_of_ble_eq_true rfl)⟩, (hkw _ kw_static_Pm_isPlace), trivial⟩ (k_preS hK hG hP hD [] rfl rfl) rfl rfl hl.1 rfl (lv_room (Nat.le_of_ble_eq_true rfl)) d_Ro_beginsAt_1 ⟨Nat.zero_le _, Nat.zero_le _⟩) hP hD hS hA [] rfl (Eq.trans (b := []) rfl rfl) ?_
  clear hP hD hS; intro H locs hP hD hS
  replace hP : va_P D k_cl ([(h, .inr (2, [.ref e])), (e, .inl (cI, 30, .inl (kA F)))]) H := hP
  replace hD : va_D A ([(h, .inr (2, [.ref e])), (e, .inl (cI, 30, .inl (kA F)))]) := hD
  refine k_bif_eq (tgt := 22) hx hb d_Ro_beginsAt_4 (by decide) (fun c_4 => ?_) (fun c_4 => ?_)
  · exfalso; omega
  · refine lv_aload_n hx hb d_Ro_beginsAt_7 rfl (lv_at hl 0 rfl) ?_
    refine va_get (D := D) (ci := 2) (v := .ref e) (C := R_Ro) (T := T_Ro) (N := 1) hx hb hkw kin_Ro hown hK hP 0 rfl rfl 0 (by decide) (hkw _ kw_fieldLink_Ro_9) (fun _ h9 => h9) rfl d_Ro_beginsAt_8 ?_
    refine lv_iload_n hx hb d_Ro_beginsAt_11 rfl (lv_at hl 1 rfl) ?_
    refine k_ald hx hb hK hP 1 0 rfl rfl (i := i) (by omega) (by omega) (by omega) d_Ro_beginsAt_12 ?_
    have hv_1 := hF i
    refine lv_bipush (v := zI 30) hx hb d_Ro_beginsAt_13 (by decide) ?_
    refine k_icmp_eq (tgt := 22) hx hb d_Ro_beginsAt_15 (by decide) ⟨by omega, by omega⟩ ⟨by omega, by omega⟩ (fun c_15 => ?_) (fun c_15 => ?_)
    · refine lv_iconst (v := zI 0) hx hb d_Ro_beginsAt_22 (by decide) ?_
      rw [← hQf]
      exact k_zret hx hb hr hlocks hP hS (k_bf (by omega)).symm d_Ro_beginsAt_23
    · refine lv_iconst (v := zI 1) hx hb d_Ro_beginsAt_18 (by decide) ?_
      refine lv_goto (tgt := 23) hx hb d_Ro_beginsAt_19 (by decide) ?_
      rw [← hQf]
      exact k_zret hx hb hr hlocks hP hS (k_bt (by omega)).symm d_Ro_beginsAt_23

abbrev rm_Row_keepLeast : Room := { frames := 0, cells := 0, slots := 0, locals := 0 }
set_option maxHeartbeats 4000000 in
set_option maxRecDepth 100000 in
theorem c_Row_keepLeast (l : Launch) (D : va_G) (cI cR cG : ClassId) (h e : Nat) (G0 : Nat → Nat) (hG0 : ∀ j, G0 j ≤ 30) : k_M l y_Ro_keepLeast (.code y_Ro_keepLeast b_Ro_keepLeast 3 none :: kW) rm_Row_keepLeast D k_cl (k_ty cI cR cG) [.ref h] ([(h, .inr (2, [.ref e])), (e, .inl (cI, 30, .inl (kA G0)))]) (k_Qv D k_cl [(h, .inr (2, [.ref e])), (e, .inl (cI, 30, .inl (kA (rKL 30 G0 30))))]) := by
  refine k_start (cc := b_Ro_keepLeast) (maxL := 3) (ret := none) (by decide) rfl (Nat.le_of_ble_eq_true rfl) ?_
  intro p ev s m ar below meth c A ls Qf hQf hx hb hr hml hts hown hlocks hin hK hG hA hP hD hS hl
  replace hown : s.vm.findClass R_Ro = some m.cls := hown
  replace hl : lv_has ls 3 [(0, .ref h)] := hl
  have hkw : ∀ w ∈ kW, w.before ar s = true := fun w h => hts w (List.mem_cons_of_mem _ h)
  replace hP : va_P D k_cl ([(h, .inr (2, [.ref e])), (e, .inl (cI, 30, .inl (kA G0)))]) s.heap := hP
  replace hD : va_D A ([(h, .inr (2, [.ref e])), (e, .inl (cI, 30, .inl (kA G0)))]) := hD
  refine lv_bipush (v := zI 30) hx hb d_Ro_keepLeast_0 (by decide) ?_
  refine lv_istore_n (lv' := [(1, .int (zI 30)), (0, .ref h)]) hx hb d_Ro_keepLeast_2 rfl hl (by decide) rfl ?_
  clear hl; intro ls hl
  refine lv_bipush (v := zI 29) hx hb d_Ro_keepLeast_3 (by decide) ?_
  refine lv_istore_n (lv' := [(2, .int (zI 29)), (1, .int (zI 30)), (0, .ref h)]) hx hb d_Ro_keepLeast_5 rfl hl (by decide) rfl ?_
  clear hl; intro ls hl
  have loop_6 : ∀ (n : Nat) (z : Int) (le : Nat) (F : Nat → Nat), (z = (n : Int) - 1) → (n ≤ 30) → (le ≤ 30) → (∀ j, F j ≤ 30) → (rKL n F le = rKL 30 G0 30) → ∀ (H : Heap) (locs : List Loc) (ls : Array Slot), va_P D k_cl ([(h, .inr (2, [.ref e])), (e, .inl (cI, 30, .inl (kA F)))]) H → va_D A ([(h, .inr (2, [.ref e])), (e, .inl (cI, 30, .inl (kA F)))]) → va_S A s.heap H locs → lv_has ls 3 [(0, .ref h), (1, .int (zI ↑le)), (2, .int (zI z))] → W p l ev rm_Row_keepLeast s m ar below meth c H locs 0 0 Qf (F0 m 6 ls []) := by
    intro n
    induction n with
    | zero =>
      intro z le F hz hn hle hF hgo H locs ls hP hD hS hl
      refine lv_iload_n hx hb d_Ro_keepLeast_6 rfl (lv_at hl 2 rfl) ?_
      refine k_if_lt (tgt := 44) hx hb d_Ro_keepLeast_7 (by decide) ⟨by omega, by omega⟩ (fun c_7 => ?_) (fun c_7 => ?_)
      · rw [← hQf]
        have hP : va_P D k_cl [(h, .inr (2, [.ref e])), (e, .inl (cI, 30, .inl (kA (rKL 30 G0 30))))] H := by
          rw [show rKL 30 G0 30 = F from hgo.symm]
          exact hP
        exact k_vret hx hb hr hlocks hP hS d_Ro_keepLeast_44
      · exfalso; omega
    | succ n ih_6 =>
      intro z le F hz hn hle hF hgo H locs ls hP hD hS hl
      refine lv_iload_n hx hb d_Ro_keepLeast_6 rfl (lv_at hl 2 rfl) ?_
      refine k_if_lt (tgt := 44) hx hb d_Ro_keepLeast_7 (by decide) ⟨by omega, by omega⟩ (fun c_7 => ?_) (fun c_7 => ?_)
      · exfalso; omega
      · refine lv_aload_n hx hb d_Ro_keepLeast_10 rfl (lv_at hl 0 rfl) ?_
        refine va_get (D := D) (ci := 2) (v := .ref e) (C := R_Ro) (T := T_Ro) (N := 1) hx hb hkw kin_Ro hown hK hP 0 rfl rfl 0 (by decide) (hkw _ kw_fieldLink_Ro_9) (fun _ h9 => h9) rfl d_Ro_keepLeast_11 ?_
        refine lv_iload_n hx hb d_Ro_keepLeast_14 rfl (lv_at hl 2 rfl) ?_
        refine k_ald hx hb hK hP 1 0 rfl rfl (i := n) (by omega) (by omega) (by omega) d_Ro_keepLeast_15 ?_
        have hv_1 := hF n
        refine lv_iload_n hx hb d_Ro_keepLeast_16 rfl (lv_at hl 1 rfl) ?_
        refine k_icmp_ge (tgt := 30) hx hb d_Ro_keepLeast_17 (by decide) ⟨by omega, by omega⟩ ⟨by omega, by omega⟩ (fun c_17 => ?_) (fun c_17 => ?_)
        · refine lv_aload_n hx hb d_Ro_keepLeast_30 rfl (lv_at hl 0 rfl) ?_
          refine va_get (D := D) (ci := 2) (v := .ref e) (C := R_Ro) (T := T_Ro) (N := 1) hx hb hkw kin_Ro hown hK hP 0 rfl rfl 0 (by decide) (hkw _ kw_fieldLink_Ro_9) (fun _ h9 => h9) rfl d_Ro_keepLeast_31 ?_
          refine lv_iload_n hx hb d_Ro_keepLeast_34 rfl (lv_at hl 2 rfl) ?_
          refine lv_bipush (v := zI 30) hx hb d_Ro_keepLeast_35 (by decide) ?_
          refine k_ast hx hb hK hP hD hS 1 0 rfl rfl (i := n) (v := 30) (by omega) (by omega) (by omega) (by omega) d_Ro_keepLeast_37 ?_
          clear hP hD hS; intro H locs hP hD hS
          replace hP : va_P D k_cl ([(h, .inr (2, [.ref e])), (e, .inl (cI, 30, .inl (kA (va_up F n 30))))]) H := hP
          replace hD : va_D A ([(h, .inr (2, [.ref e])), (e, .inl (cI, 30, .inl (kA (va_up F n 30))))]) := hD
          refine k_iinc (v := z + (-1)) (lv' := [(2, .int (zI (z + (-1)))), (0, .ref h), (1, .int (zI ↑le))]) hx hb d_Ro_keepLeast_38 hl (k := 2) rfl (by omega) (by decide) rfl ?_
          clear hl; intro ls hl
          refine lv_goto (tgt := 6) hx hb d_Ro_keepLeast_41 (by decide) ?_
          exact ih_6 (z + (-1)) le (va_up F n 30) (by omega) (by omega) (by omega) (k_upB hF (by omega)) (by rw [rKL] at hgo; (repeat' split at hgo); all_goals first | exact hgo | (exfalso; omega) | contradiction) _ _ _ hP hD hS (lv_sub hl [1, 2, 0] rfl)
        · refine lv_aload_n hx hb d_Ro_keepLeast_20 rfl (lv_at hl 0 rfl) ?_
          refine va_get (D := D) (ci := 2) (v := .ref e) (C := R_Ro) (T := T_Ro) (N := 1) hx hb hkw kin_Ro hown hK hP 0 rfl rfl 0 (by decide) (hkw _ kw_fieldLink_Ro_9) (fun _ h9 => h9) rfl d_Ro_keepLeast_21 ?_
          refine lv_iload_n hx hb d_Ro_keepLeast_24 rfl (lv_at hl 2 rfl) ?_
          refine k_ald hx hb hK hP 1 0 rfl rfl (i := n) (by omega) (by omega) (by omega) d_Ro_keepLeast_25 ?_
          have hv_2 := hF n
          refine lv_istore_n (lv' := [(1, .int (zI (↑(F n)))), (0, .ref h), (2, .int (zI z))]) hx hb d_Ro_keepLeast_26 rfl hl (by decide) rfl ?_
          clear hl; intro ls hl
          refine lv_goto (tgt := 38) hx hb d_Ro_keepLeast_27 (by decide) ?_
          refine k_iinc (v := z + (-1)) (lv' := [(2, .int (zI (z + (-1)))), (1, .int (zI (↑(F n)))), (0, .ref h)]) hx hb d_Ro_keepLeast_38 hl (k := 2) rfl (by omega) (by decide) rfl ?_
          clear hl; intro ls hl
          refine lv_goto (tgt := 6) hx hb d_Ro_keepLeast_41 (by decide) ?_
          exact ih_6 (z + (-1)) (F n) F (by omega) (by omega) (by omega) hF (by rw [rKL] at hgo; (repeat' split at hgo); all_goals first | exact hgo | (exfalso; omega) | contradiction) _ _ _ hP hD hS (lv_sub hl [2, 1, 0] rfl)
  exact loop_6 30 29 30 G0 (by omega) (by omega) (by omega) hG0 rfl _ _ _ hP hD hS (lv_sub hl [2, 1, 0] rfl)

abbrev rm_Row_size : Room := { frames := 2, cells := 0, slots := 0, locals := 41 }
set_option maxHeartbeats 4000000 in
set_option maxRecDepth 100000 in
theorem c_Row_size (l : Launch) (D : va_G) (cI cR cG : ClassId) (h e : Nat) (F : Nat → Nat) (hF : ∀ j, F j ≤ 30) : k_M l y_Ro_size (.code y_Ro_size b_Ro_size 3 (some .int) :: kW) rm_Row_size D k_cl (k_ty cI cR cG) [.ref h] ([(h, .inr (2, [.ref e])), (e, .inl (cI, 30, .inl (kA F)))]) (k_Qi D k_cl (zI (rSize F 30 0 0 : Nat)) [(h, .inr (2, [.ref e])), (e, .inl (cI, 30, .inl (kA F)))]) := by
  refine k_start (cc := b_Ro_size) (maxL := 3) (ret := (some .int)) (by decide) rfl (Nat.le_of_ble_eq_true rfl) ?_
  intro p ev s m ar below meth c A ls Qf hQf hx hb hr hml hts hown hlocks hin hK hG hA hP hD hS hl
  replace hown : s.vm.findClass R_Ro = some m.cls := hown
  replace hl : lv_has ls 3 [(0, .ref h)] := hl
  have hkw : ∀ w ∈ kW, w.before ar s = true := fun w h => hts w (List.mem_cons_of_mem _ h)
  replace hP : va_P D k_cl ([(h, .inr (2, [.ref e])), (e, .inl (cI, 30, .inl (kA F)))]) s.heap := hP
  replace hD : va_D A ([(h, .inr (2, [.ref e])), (e, .inl (cI, 30, .inl (kA F)))]) := hD
  refine lv_iconst (v := zI 0) hx hb d_Ro_size_0 (by decide) ?_
  refine lv_istore_n (lv' := [(1, .int (zI 0)), (0, .ref h)]) hx hb d_Ro_size_1 rfl hl (by decide) rfl ?_
  clear hl; intro ls hl
  refine lv_iconst (v := zI 0) hx hb d_Ro_size_2 (by decide) ?_
  refine lv_istore_n (lv' := [(2, .int (zI 0)), (1, .int (zI 0)), (0, .ref h)]) hx hb d_Ro_size_3 rfl hl (by decide) rfl ?_
  clear hl; intro ls hl
  have loop_4 : ∀ (n : Nat) (i : Nat) (acc : Nat), (i + n = 30) → (rSize F n i acc = rSize F 30 0 0) → ∀ (H : Heap) (locs : List Loc) (ls : Array Slot), va_P D k_cl ([(h, .inr (2, [.ref e])), (e, .inl (cI, 30, .inl (kA F)))]) H → va_D A ([(h, .inr (2, [.ref e])), (e, .inl (cI, 30, .inl (kA F)))]) → va_S A s.heap H locs → lv_has ls 3 [(0, .ref h), (1, .int (zI ↑acc)), (2, .int (zI ↑i))] → W p l ev rm_Row_size s m ar below meth c H locs 0 0 Qf (F0 m 4 ls []) := by
    intro n
    induction n with
    | zero =>
      intro i acc hin hgo H locs ls hP hD hS hl
      refine lv_iload_n hx hb d_Ro_size_4 rfl (lv_at hl 2 rfl) ?_
      refine lv_bipush (v := zI 30) hx hb d_Ro_size_5 (by decide) ?_
      refine k_icmp_ge (tgt := 27) hx hb d_Ro_size_7 (by decide) ⟨by omega, by omega⟩ ⟨by omega, by omega⟩ (fun c_7 => ?_) (fun c_7 => ?_)
      · refine lv_iload_n hx hb d_Ro_size_27 rfl (lv_at hl 1 rfl) ?_
        rw [← hQf]
        exact k_iret hx hb hr hlocks hP hS (by rw [← hgo]; rfl) d_Ro_size_28
      · exfalso; omega
    | succ n ih_4 =>
      intro i acc hin hgo H locs ls hP hD hS hl
      refine lv_iload_n hx hb d_Ro_size_4 rfl (lv_at hl 2 rfl) ?_
      refine lv_bipush (v := zI 30) hx hb d_Ro_size_5 (by decide) ?_
      refine k_icmp_ge (tgt := 27) hx hb d_Ro_size_7 (by decide) ⟨by omega, by omega⟩ ⟨by omega, by omega⟩ (fun c_7 => ?_) (fun c_7 => ?_)
      · exfalso; omega
      · refine lv_aload_n hx hb d_Ro_size_10 rfl (lv_at hl 0 rfl) ?_
        refine lv_iload_n hx hb d_Ro_size_11 rfl (lv_at hl 2 rfl) ?_
        refine k_beI (va_runV (As := [.int (zI ↑i)]) (rest := []) ⟨hx, hb, hml, hown, hkw⟩ (c_Row_beginsAt l D cI cR cG h e i F (by omega) hF _) (cwV 1 hkw (k_gV kw_methodLink_Ro_25 kw_instanceMethod_Ro_beginsAt kw_selects_Ro_beginsAt kw_initialized_Ro kw_code_Ro_beginsAt) rfl rfl rfl (by decide +kernel) ⟨(Nat.le_of_ble_eq_true rfl), (Nat.le_of_ble_eq_true rfl)⟩) (k_preV (q0 := 0) hK hG hP hD [0, 1] rfl rfl rfl rfl) rfl rfl hl.1 rfl (lv_room (Nat.le_of_ble_eq_true rfl)) d_Ro_size_12 ⟨Nat.zero_le _, Nat.zero_le _⟩) hP hD hS hA [0, 1] rfl (Eq.trans (b := [h, e]) rfl rfl) ?_
        clear hP hD hS; intro H locs hP hD hS
        replace hP : va_P D k_cl ([(h, .inr (2, [.ref e])), (e, .inl (cI, 30, .inl (kA F)))]) H := hP
        replace hD : va_D A ([(h, .inr (2, [.ref e])), (e, .inl (cI, 30, .inl (kA F)))]) := hD
        refine k_bif_eq (tgt := 21) hx hb d_Ro_size_15 (by decide) (fun c_15 => ?_) (fun c_15 => ?_)
        · refine k_iinc (v := ↑(i + 1)) (lv' := [(2, .int (zI (↑(i + 1)))), (0, .ref h), (1, .int (zI ↑acc))]) hx hb d_Ro_size_21 hl (k := 2) rfl (by omega) (by decide) rfl ?_
          clear hl; intro ls hl
          refine lv_goto (tgt := 4) hx hb d_Ro_size_24 (by decide) ?_
          exact ih_4 (i + 1) acc (by omega) (by rw [rSize] at hgo; (repeat' split at hgo); all_goals first | exact hgo | (exfalso; omega) | contradiction) _ _ _ hP hD hS (lv_sub hl [1, 2, 0] rfl)
        · refine k_iinc (v := ↑(acc + 1)) (lv' := [(1, .int (zI (↑(acc + 1)))), (0, .ref h), (2, .int (zI ↑i))]) hx hb d_Ro_size_18 hl (k := 1) rfl (by omega) (by decide) rfl ?_
          clear hl; intro ls hl
          refine k_iinc (v := ↑(i + 1)) (lv' := [(2, .int (zI (↑(i + 1)))), (1, .int (zI (↑(acc + 1)))), (0, .ref h)]) hx hb d_Ro_size_21 hl (k := 2) rfl (by omega) (by decide) rfl ?_
          clear hl; intro ls hl
          refine lv_goto (tgt := 4) hx hb d_Ro_size_24 (by decide) ?_
          exact ih_4 (i + 1) (acc + 1) (by omega) (by rw [rSize] at hgo; (repeat' split at hgo); all_goals first | exact hgo | (exfalso; omega) | contradiction) _ _ _ hP hD hS (lv_sub hl [2, 1, 0] rfl)
  exact loop_4 30 0 0 (by omega) rfl _ _ _ hP hD hS (lv_sub hl [2, 1, 0] rfl)

abbrev rm_Row_beginOf : Room := { frames := 2, cells := 0, slots := 0, locals := 41 }
set_option maxHeartbeats 4000000 in
set_option maxRecDepth 100000 in
theorem c_Row_beginOf (l : Launch) (D : va_G) (cI cR cG : ClassId) (h e : Nat) (k : Int) (F : Nat → Nat) (hk : k_sm k) (hF : ∀ j, F j ≤ 30) : k_M l y_Ro_beginOf (.code y_Ro_beginOf b_Ro_beginOf 4 (some .int) :: kW) rm_Row_beginOf D k_cl (k_ty cI cR cG) [.ref h, .int (zI k)] ([(h, .inr (2, [.ref e])), (e, .inl (cI, 30, .inl (kA F)))]) (k_Qi D k_cl (zI (rBegin F k 30 0 0)) [(h, .inr (2, [.ref e])), (e, .inl (cI, 30, .inl (kA F)))]) := by
  refine k_start (cc := b_Ro_beginOf) (maxL := 4) (ret := (some .int)) (by decide) rfl (Nat.le_of_ble_eq_true rfl) ?_
  intro p ev s m ar below meth c A ls Qf hQf hx hb hr hml hts hown hlocks hin hK hG hA hP hD hS hl
  replace hown : s.vm.findClass R_Ro = some m.cls := hown
  replace hl : lv_has ls 4 [(0, .ref h), (1, .int (zI k))] := hl
  have hkw : ∀ w ∈ kW, w.before ar s = true := fun w h => hts w (List.mem_cons_of_mem _ h)
  replace hP : va_P D k_cl ([(h, .inr (2, [.ref e])), (e, .inl (cI, 30, .inl (kA F)))]) s.heap := hP
  replace hD : va_D A ([(h, .inr (2, [.ref e])), (e, .inl (cI, 30, .inl (kA F)))]) := hD
  have hk1 := hk.1
  have hk2 := hk.2
  refine lv_iconst (v := zI 0) hx hb d_Ro_beginOf_0 (by decide) ?_
  refine lv_istore_n (lv' := [(2, .int (zI 0)), (0, .ref h), (1, .int (zI k))]) hx hb d_Ro_beginOf_1 rfl hl (by decide) rfl ?_
  clear hl; intro ls hl
  refine lv_iconst (v := zI 0) hx hb d_Ro_beginOf_2 (by decide) ?_
  refine lv_istore_n (lv' := [(3, .int (zI 0)), (2, .int (zI 0)), (0, .ref h), (1, .int (zI k))]) hx hb d_Ro_beginOf_3 rfl hl (by decide) rfl ?_
  clear hl; intro ls hl
  have loop_4 : ∀ (n : Nat) (i : Nat) (b : Nat), (i + n = 30) → (b ≤ i) → (rBegin F k n i b = rBegin F k 30 0 0) → ∀ (H : Heap) (locs : List Loc) (ls : Array Slot), va_P D k_cl ([(h, .inr (2, [.ref e])), (e, .inl (cI, 30, .inl (kA F)))]) H → va_D A ([(h, .inr (2, [.ref e])), (e, .inl (cI, 30, .inl (kA F)))]) → va_S A s.heap H locs → lv_has ls 4 [(0, .ref h), (1, .int (zI k)), (2, .int (zI ↑b)), (3, .int (zI ↑i))] → W p l ev rm_Row_beginOf s m ar below meth c H locs 0 0 Qf (F0 m 4 ls []) := by
    intro n
    induction n with
    | zero =>
      intro i b hin hbi hgo H locs ls hP hD hS hl
      refine lv_iload_n hx hb d_Ro_beginOf_4 rfl (lv_at hl 3 rfl) ?_
      refine lv_bipush (v := zI 30) hx hb d_Ro_beginOf_5 (by decide) ?_
      refine k_icmp_ge (tgt := 34) hx hb d_Ro_beginOf_7 (by decide) ⟨by omega, by omega⟩ ⟨by omega, by omega⟩ (fun c_7 => ?_) (fun c_7 => ?_)
      · refine lv_iconst (v := zI (-1)) hx hb d_Ro_beginOf_34 (by decide) ?_
        rw [← hQf]
        exact k_iret hx hb hr hlocks hP hS (by rw [← hgo]; rfl) d_Ro_beginOf_35
      · exfalso; omega
    | succ n ih_4 =>
      intro i b hin hbi hgo H locs ls hP hD hS hl
      refine lv_iload_n hx hb d_Ro_beginOf_4 rfl (lv_at hl 3 rfl) ?_
      refine lv_bipush (v := zI 30) hx hb d_Ro_beginOf_5 (by decide) ?_
      refine k_icmp_ge (tgt := 34) hx hb d_Ro_beginOf_7 (by decide) ⟨by omega, by omega⟩ ⟨by omega, by omega⟩ (fun c_7 => ?_) (fun c_7 => ?_)
      · exfalso; omega
      · refine lv_aload_n hx hb d_Ro_beginOf_10 rfl (lv_at hl 0 rfl) ?_
        refine lv_iload_n hx hb d_Ro_beginOf_11 rfl (lv_at hl 3 rfl) ?_
        refine k_beI (va_runV (As := [.int (zI ↑i)]) (rest := []) ⟨hx, hb, hml, hown, hkw⟩ (c_Row_beginsAt l D cI cR cG h e i F (by omega) hF _) (cwV 1 hkw (k_gV kw_methodLink_Ro_25 kw_instanceMethod_Ro_beginsAt kw_selects_Ro_beginsAt kw_initialized_Ro kw_code_Ro_beginsAt) rfl rfl rfl (by decide +kernel) ⟨(Nat.le_of_ble_eq_true rfl), (Nat.le_of_ble_eq_true rfl)⟩) (k_preV (q0 := 0) hK hG hP hD [0, 1] rfl rfl rfl rfl) rfl rfl hl.1 rfl (lv_room (Nat.le_of_ble_eq_true rfl)) d_Ro_beginOf_12 ⟨Nat.zero_le _, Nat.zero_le _⟩) hP hD hS hA [0, 1] rfl (Eq.trans (b := [h, e]) rfl rfl) ?_
        clear hP hD hS; intro H locs hP hD hS
        replace hP : va_P D k_cl ([(h, .inr (2, [.ref e])), (e, .inl (cI, 30, .inl (kA F)))]) H := hP
        replace hD : va_D A ([(h, .inr (2, [.ref e])), (e, .inl (cI, 30, .inl (kA F)))]) := hD
        refine k_bif_eq (tgt := 28) hx hb d_Ro_beginOf_15 (by decide) (fun c_15 => ?_) (fun c_15 => ?_)
        · refine k_iinc (v := ↑(i + 1)) (lv' := [(3, .int (zI (↑(i + 1)))), (0, .ref h), (1, .int (zI k)), (2, .int (zI ↑b))]) hx hb d_Ro_beginOf_28 hl (k := 3) rfl (by omega) (by decide) rfl ?_
          clear hl; intro ls hl
          refine lv_goto (tgt := 4) hx hb d_Ro_beginOf_31 (by decide) ?_
          exact ih_4 (i + 1) b (by omega) (by omega) (by rw [rBegin] at hgo; (repeat' split at hgo); all_goals first | exact hgo | (exfalso; omega) | contradiction) _ _ _ hP hD hS (lv_sub hl [1, 2, 3, 0] rfl)
        · refine lv_iload_n hx hb d_Ro_beginOf_18 rfl (lv_at hl 2 rfl) ?_
          refine lv_iload_n hx hb d_Ro_beginOf_19 rfl (lv_at hl 1 rfl) ?_
          refine k_icmp_ne (tgt := 25) hx hb d_Ro_beginOf_20 (by decide) ⟨by omega, by omega⟩ ⟨by omega, by omega⟩ (fun c_20 => ?_) (fun c_20 => ?_)
          · refine k_iinc (v := ↑(b + 1)) (lv' := [(2, .int (zI (↑(b + 1)))), (0, .ref h), (1, .int (zI k)), (3, .int (zI ↑i))]) hx hb d_Ro_beginOf_25 hl (k := 2) rfl (by omega) (by decide) rfl ?_
            clear hl; intro ls hl
            refine k_iinc (v := ↑(i + 1)) (lv' := [(3, .int (zI (↑(i + 1)))), (2, .int (zI (↑(b + 1)))), (0, .ref h), (1, .int (zI k))]) hx hb d_Ro_beginOf_28 hl (k := 3) rfl (by omega) (by decide) rfl ?_
            clear hl; intro ls hl
            refine lv_goto (tgt := 4) hx hb d_Ro_beginOf_31 (by decide) ?_
            exact ih_4 (i + 1) (b + 1) (by omega) (by omega) (by rw [rBegin] at hgo; (repeat' split at hgo); all_goals first | exact hgo | (exfalso; omega) | contradiction) _ _ _ hP hD hS (lv_sub hl [2, 3, 1, 0] rfl)
          · refine lv_iload_n hx hb d_Ro_beginOf_23 rfl (lv_at hl 3 rfl) ?_
            rw [← hQf]
            exact k_iret hx hb hr hlocks hP hS (congrArg zI (by rw [rBegin] at hgo; (repeat' split at hgo); all_goals first | exact hgo | (exfalso; omega))) d_Ro_beginOf_24
  exact loop_4 30 0 0 (by omega) (by omega) rfl _ _ _ hP hD hS (lv_sub hl [2, 3, 1, 0] rfl)

abbrev rm_Row_endOf : Room := { frames := 3, cells := 0, slots := 0, locals := 64 }
set_option maxHeartbeats 4000000 in
set_option maxRecDepth 100000 in
theorem c_Row_endOf (l : Launch) (D : va_G) (cI cR cG : ClassId) (h e : Nat) (k : Int) (F : Nat → Nat) (hk : k_sm k) (hF : ∀ j, F j ≤ 30) : k_M l y_Ro_endOf (.code y_Ro_endOf b_Ro_endOf 3 (some .int) :: kW) rm_Row_endOf D k_cl (k_ty cI cR cG) [.ref h, .int (zI k)] ([(h, .inr (2, [.ref e])), (e, .inl (cI, 30, .inl (kA F)))]) (k_Qi D k_cl (zI (rEnd F k)) [(h, .inr (2, [.ref e])), (e, .inl (cI, 30, .inl (kA F)))]) := by
  refine k_start (cc := b_Ro_endOf) (maxL := 3) (ret := (some .int)) (by decide) rfl (Nat.le_of_ble_eq_true rfl) ?_
  intro p ev s m ar below meth c A ls Qf hQf hx hb hr hml hts hown hlocks hin hK hG hA hP hD hS hl
  replace hown : s.vm.findClass R_Ro = some m.cls := hown
  replace hl : lv_has ls 3 [(0, .ref h), (1, .int (zI k))] := hl
  have hkw : ∀ w ∈ kW, w.before ar s = true := fun w h => hts w (List.mem_cons_of_mem _ h)
  replace hP : va_P D k_cl ([(h, .inr (2, [.ref e])), (e, .inl (cI, 30, .inl (kA F)))]) s.heap := hP
  replace hD : va_D A ([(h, .inr (2, [.ref e])), (e, .inl (cI, 30, .inl (kA F)))]) := hD
  have hk1 := hk.1
  have hk2 := hk.2
  have hz := rBegin_bd F k 30 0 0 (by omega)
  refine lv_aload_n hx hb d_Ro_endOf_0 rfl (lv_at hl 0 rfl) ?_
  refine lv_iload_n hx hb d_Ro_endOf_1 rfl (lv_at hl 1 rfl) ?_
  refine k_beI (va_runV (As := [.int (zI k)]) (rest := []) ⟨hx, hb, hml, hown, hkw⟩ (c_Row_beginOf l D cI cR cG h e k F ⟨by omega, by omega⟩ hF _) (cwV 1 hkw (k_gV kw_methodLink_Ro_28 kw_instanceMethod_Ro_beginOf kw_selects_Ro_beginOf kw_initialized_Ro kw_code_Ro_beginOf) rfl rfl rfl (by decide +kernel) ⟨(Nat.le_of_ble_eq_true rfl), (Nat.le_of_ble_eq_true rfl)⟩) (k_preV (q0 := 0) hK hG hP hD [0, 1] rfl rfl rfl rfl) rfl rfl hl.1 rfl (lv_room (Nat.le_of_ble_eq_true rfl)) d_Ro_endOf_2 ⟨Nat.zero_le _, Nat.zero_le _⟩) hP hD hS hA [0, 1] rfl (Eq.trans (b := [h, e]) rfl rfl) ?_
  clear hP hD hS; intro H locs hP hD hS
  replace hP : va_P D k_cl ([(h, .inr (2, [.ref e])), (e, .inl (cI, 30, .inl (kA F)))]) H := hP
  replace hD : va_D A ([(h, .inr (2, [.ref e])), (e, .inl (cI, 30, .inl (kA F)))]) := hD
  refine lv_istore_n (lv' := [(2, .int (zI (rBegin F k 30 0 0))), (0, .ref h), (1, .int (zI k))]) hx hb d_Ro_endOf_5 rfl hl (by decide) rfl ?_
  clear hl; intro ls hl
  refine lv_iload_n hx hb d_Ro_endOf_6 rfl (lv_at hl 0 rfl) ?_
  refine k_beI (va_runSN (As := [.int (zI (rBegin F k 30 0 0))]) (rest := []) ⟨hx, hb, hml, hown, hkw⟩ (c_PM_isPlace l D cI cR cG (rBegin F k 30 0 0) ⟨by omega, by omega⟩ _) ⟨va_cnB 1 hkw (k_gN kw_code_Pm_isPlace) rfl rfl rfl (hG (R_Ro, 21, y_Pm_isPlace, "PhraseMoves") List.mem_cons_self) (hkw _ kw_initialized_Pm) (by decide +kernel) ⟨(Nat.le_of_ble_eq_true rfl), (Nat.le_of_ble_eq_true rfl)⟩, (hkw _ kw_static_Pm_isPlace), trivial⟩ (k_preS hK hG hP hD [] rfl rfl) rfl rfl hl.1 rfl (lv_room (Nat.le_of_ble_eq_true rfl)) d_Ro_endOf_7 ⟨Nat.zero_le _, Nat.zero_le _⟩) hP hD hS hA [] rfl (Eq.trans (b := []) rfl rfl) ?_
  clear hP hD hS; intro H locs hP hD hS
  replace hP : va_P D k_cl ([(h, .inr (2, [.ref e])), (e, .inl (cI, 30, .inl (kA F)))]) H := hP
  replace hD : va_D A ([(h, .inr (2, [.ref e])), (e, .inl (cI, 30, .inl (kA F)))]) := hD
  refine k_bif_eq (tgt := 22) hx hb d_Ro_endOf_10 (by decide) (fun c_10 => ?_) (fun c_10 => ?_)
  · refine lv_iconst (v := zI (-1)) hx hb d_Ro_endOf_22 (by decide) ?_
    rw [← hQf]
    exact k_iret hx hb hr hlocks hP hS (congrArg zI (if_neg (by omega)).symm) d_Ro_endOf_23
  · refine lv_aload_n hx hb d_Ro_endOf_13 rfl (lv_at hl 1 rfl) ?_
    refine va_get (D := D) (ci := 2) (v := .ref e) (C := R_Ro) (T := T_Ro) (N := 1) hx hb hkw kin_Ro hown hK hP 0 rfl rfl 0 (by decide) (hkw _ kw_fieldLink_Ro_9) (fun _ h9 => h9) rfl d_Ro_endOf_14 ?_
    refine lv_iload_n hx hb d_Ro_endOf_17 rfl (lv_at hl 0 rfl) ?_
    refine k_ald hx hb hK hP 1 0 rfl rfl (i := (rBegin F k 30 0 0).toNat) (by omega) (by omega) (by omega) d_Ro_endOf_18 ?_
    have hv_1 := hF ((rBegin F k 30 0 0).toNat)
    refine lv_goto (tgt := 23) hx hb d_Ro_endOf_19 (by decide) ?_
    rw [← hQf]
    exact k_iret hx hb hr hlocks hP hS (congrArg zI (if_pos (by omega)).symm) d_Ro_endOf_23

abbrev rm_Row_placesCovered : Room := { frames := 2, cells := 0, slots := 0, locals := 41 }
set_option maxHeartbeats 4000000 in
set_option maxRecDepth 100000 in
theorem c_Row_placesCovered (l : Launch) (D : va_G) (cI cR cG : ClassId) (h e : Nat) (F : Nat → Nat) (hF : ∀ j, F j ≤ 30) : k_M l y_Ro_placesCovered (.code y_Ro_placesCovered b_Ro_placesCovered 4 (some .int) :: kW) rm_Row_placesCovered D k_cl (k_ty cI cR cG) [.ref h] ([(h, .inr (2, [.ref e])), (e, .inl (cI, 30, .inl (kA F)))]) (k_Qi D k_cl (zI (rCov F 30 0 0 (-1))) [(h, .inr (2, [.ref e])), (e, .inl (cI, 30, .inl (kA F)))]) := by
  refine k_start (cc := b_Ro_placesCovered) (maxL := 4) (ret := (some .int)) (by decide) rfl (Nat.le_of_ble_eq_true rfl) ?_
  intro p ev s m ar below meth c A ls Qf hQf hx hb hr hml hts hown hlocks hin hK hG hA hP hD hS hl
  replace hown : s.vm.findClass R_Ro = some m.cls := hown
  replace hl : lv_has ls 4 [(0, .ref h)] := hl
  have hkw : ∀ w ∈ kW, w.before ar s = true := fun w h => hts w (List.mem_cons_of_mem _ h)
  replace hP : va_P D k_cl ([(h, .inr (2, [.ref e])), (e, .inl (cI, 30, .inl (kA F)))]) s.heap := hP
  replace hD : va_D A ([(h, .inr (2, [.ref e])), (e, .inl (cI, 30, .inl (kA F)))]) := hD
  refine lv_iconst (v := zI 0) hx hb d_Ro_placesCovered_0 (by decide) ?_
  refine lv_istore_n (lv' := [(1, .int (zI 0)), (0, .ref h)]) hx hb d_Ro_placesCovered_1 rfl hl (by decide) rfl ?_
  clear hl; intro ls hl
  refine lv_iconst (v := zI (-1)) hx hb d_Ro_placesCovered_2 (by decide) ?_
  refine lv_istore_n (lv' := [(2, .int (zI (-1))), (1, .int (zI 0)), (0, .ref h)]) hx hb d_Ro_placesCovered_3 rfl hl (by decide) rfl ?_
  clear hl; intro ls hl
  refine lv_iconst (v := zI 0) hx hb d_Ro_placesCovered_4 (by decide) ?_
  refine lv_istore_n (lv' := [(3, .int (zI 0)), (2, .int (zI (-1))), (1, .int (zI 0)), (0, .ref h)]) hx hb d_Ro_placesCovered_5 rfl hl (by decide) rfl ?_
  clear hl; intro ls hl
  have loop_6 : ∀ (n : Nat) (i : Nat) (cov : Int) (last : Int), (i + n = 30) → (-1 ≤ last ∧ last ≤ 30) → (rCov F n i cov last = rCov F 30 0 0 (-1)) → ∀ (H : Heap) (locs : List Loc) (ls : Array Slot), va_P D k_cl ([(h, .inr (2, [.ref e])), (e, .inl (cI, 30, .inl (kA F)))]) H → va_D A ([(h, .inr (2, [.ref e])), (e, .inl (cI, 30, .inl (kA F)))]) → va_S A s.heap H locs → lv_has ls 4 [(0, .ref h), (1, .int (zI cov)), (2, .int (zI last)), (3, .int (zI ↑i))] → W p l ev rm_Row_placesCovered s m ar below meth c H locs 0 0 Qf (F0 m 6 ls []) := by
    intro n
    induction n with
    | zero =>
      intro i cov last hin hla hgo H locs ls hP hD hS hl
      refine lv_iload_n hx hb d_Ro_placesCovered_6 rfl (lv_at hl 3 rfl) ?_
      refine lv_bipush (v := zI 30) hx hb d_Ro_placesCovered_7 (by decide) ?_
      refine k_icmp_ge (tgt := 50) hx hb d_Ro_placesCovered_9 (by decide) ⟨by omega, by omega⟩ ⟨by omega, by omega⟩ (fun c_9 => ?_) (fun c_9 => ?_)
      · refine lv_iload_n hx hb d_Ro_placesCovered_50 rfl (lv_at hl 1 rfl) ?_
        rw [← hQf]
        exact k_iret hx hb hr hlocks hP hS (by rw [← hgo]; rfl) d_Ro_placesCovered_51
      · exfalso; omega
    | succ n ih_6 =>
      intro i cov last hin hla hgo H locs ls hP hD hS hl
      refine lv_iload_n hx hb d_Ro_placesCovered_6 rfl (lv_at hl 3 rfl) ?_
      refine lv_bipush (v := zI 30) hx hb d_Ro_placesCovered_7 (by decide) ?_
      refine k_icmp_ge (tgt := 50) hx hb d_Ro_placesCovered_9 (by decide) ⟨by omega, by omega⟩ ⟨by omega, by omega⟩ (fun c_9 => ?_) (fun c_9 => ?_)
      · exfalso; omega
      · refine lv_aload_n hx hb d_Ro_placesCovered_12 rfl (lv_at hl 0 rfl) ?_
        refine lv_iload_n hx hb d_Ro_placesCovered_13 rfl (lv_at hl 3 rfl) ?_
        refine k_beI (va_runV (As := [.int (zI ↑i)]) (rest := []) ⟨hx, hb, hml, hown, hkw⟩ (c_Row_beginsAt l D cI cR cG h e i F (by omega) hF _) (cwV 1 hkw (k_gV kw_methodLink_Ro_25 kw_instanceMethod_Ro_beginsAt kw_selects_Ro_beginsAt kw_initialized_Ro kw_code_Ro_beginsAt) rfl rfl rfl (by decide +kernel) ⟨(Nat.le_of_ble_eq_true rfl), (Nat.le_of_ble_eq_true rfl)⟩) (k_preV (q0 := 0) hK hG hP hD [0, 1] rfl rfl rfl rfl) rfl rfl hl.1 rfl (lv_room (Nat.le_of_ble_eq_true rfl)) d_Ro_placesCovered_14 ⟨Nat.zero_le _, Nat.zero_le _⟩) hP hD hS hA [0, 1] rfl (Eq.trans (b := [h, e]) rfl rfl) ?_
        clear hP hD hS; intro H locs hP hD hS
        replace hP : va_P D k_cl ([(h, .inr (2, [.ref e])), (e, .inl (cI, 30, .inl (kA F)))]) H := hP
        replace hD : va_D A ([(h, .inr (2, [.ref e])), (e, .inl (cI, 30, .inl (kA F)))]) := hD
        refine k_bif_eq (tgt := 44) hx hb d_Ro_placesCovered_17 (by decide) (fun c_17 => ?_) (fun c_17 => ?_)
        · refine k_iinc (v := ↑(i + 1)) (lv' := [(3, .int (zI (↑(i + 1)))), (0, .ref h), (1, .int (zI cov)), (2, .int (zI last))]) hx hb d_Ro_placesCovered_44 hl (k := 3) rfl (by omega) (by decide) rfl ?_
          clear hl; intro ls hl
          refine lv_goto (tgt := 6) hx hb d_Ro_placesCovered_47 (by decide) ?_
          exact ih_6 (i + 1) cov last (by omega) (by omega) (by rw [rCov] at hgo; (repeat' split at hgo); all_goals first | exact hgo | (exfalso; omega) | contradiction) _ _ _ hP hD hS (lv_sub hl [1, 2, 3, 0] rfl)
        · refine lv_iload_n hx hb d_Ro_placesCovered_20 rfl (lv_at hl 1 rfl) ?_
          refine lv_aload_n hx hb d_Ro_placesCovered_21 rfl (lv_at hl 0 rfl) ?_
          refine va_get (D := D) (ci := 2) (v := .ref e) (C := R_Ro) (T := T_Ro) (N := 1) hx hb hkw kin_Ro hown hK hP 0 rfl rfl 0 (by decide) (hkw _ kw_fieldLink_Ro_9) (fun _ h9 => h9) rfl d_Ro_placesCovered_22 ?_
          refine lv_iload_n hx hb d_Ro_placesCovered_25 rfl (lv_at hl 3 rfl) ?_
          refine k_ald hx hb hK hP 1 0 rfl rfl (i := i) (by omega) (by omega) (by omega) d_Ro_placesCovered_26 ?_
          have hv_1 := hF i
          refine lv_iload_n hx hb d_Ro_placesCovered_27 rfl (lv_at hl 2 rfl) ?_
          refine lv_iload_n hx hb d_Ro_placesCovered_28 rfl (lv_at hl 3 rfl) ?_
          refine lv_iconst (v := zI 1) hx hb d_Ro_placesCovered_29 (by decide) ?_
          refine k_isub hx hb d_Ro_placesCovered_30 rfl ?_
          refine k_max (v := max last (↑i - 1)) hx hb (hml.trans hl.1.symm) hown (hkw _ kw_methodLink_Ro_32) (hkw _ kw_static_Math_max) (hkw _ kw_initialized_Math) (hkw _ kw_code_Math_max) (Nat.le_of_ble_eq_true rfl) (Nat.le_of_ble_eq_true rfl) (Nat.zero_le _) (Nat.zero_le _) d_Ro_placesCovered_31 ⟨by omega, by omega⟩ ⟨by omega, by omega⟩ (by omega) ?_
          refine k_isub hx hb d_Ro_placesCovered_34 rfl ?_
          refine k_iadd hx hb d_Ro_placesCovered_35 rfl ?_
          refine lv_istore_n (lv' := [(1, .int (zI (cov + ((↑(F i)) - (max last (↑i - 1)))))), (0, .ref h), (2, .int (zI last)), (3, .int (zI ↑i))]) hx hb d_Ro_placesCovered_36 rfl hl (by decide) rfl ?_
          clear hl; intro ls hl
          refine lv_aload_n hx hb d_Ro_placesCovered_37 rfl (lv_at hl 1 rfl) ?_
          refine va_get (D := D) (ci := 2) (v := .ref e) (C := R_Ro) (T := T_Ro) (N := 1) hx hb hkw kin_Ro hown hK hP 0 rfl rfl 0 (by decide) (hkw _ kw_fieldLink_Ro_9) (fun _ h9 => h9) rfl d_Ro_placesCovered_38 ?_
          refine lv_iload_n hx hb d_Ro_placesCovered_41 rfl (lv_at hl 3 rfl) ?_
          refine k_ald hx hb hK hP 1 0 rfl rfl (i := i) (by omega) (by omega) (by omega) d_Ro_placesCovered_42 ?_
          have hv_2 := hF i
          refine lv_istore_n (lv' := [(2, .int (zI (↑(F i)))), (1, .int (zI (cov + ((↑(F i)) - (max last (↑i - 1)))))), (0, .ref h), (3, .int (zI ↑i))]) hx hb d_Ro_placesCovered_43 rfl hl (by decide) rfl ?_
          clear hl; intro ls hl
          refine k_iinc (v := ↑(i + 1)) (lv' := [(3, .int (zI (↑(i + 1)))), (2, .int (zI (↑(F i)))), (1, .int (zI (cov + ((↑(F i)) - (max last (↑i - 1)))))), (0, .ref h)]) hx hb d_Ro_placesCovered_44 hl (k := 3) rfl (by omega) (by decide) rfl ?_
          clear hl; intro ls hl
          refine lv_goto (tgt := 6) hx hb d_Ro_placesCovered_47 (by decide) ?_
          exact ih_6 (i + 1) (cov + ((↑(F i)) - (max last (↑i - 1)))) (↑(F i)) (by omega) (by omega) (by rw [rCov] at hgo; (repeat' split at hgo); all_goals first | exact hgo | (exfalso; omega) | contradiction) _ _ _ hP hD hS (lv_sub hl [3, 2, 1, 0] rfl)
  exact loop_6 30 0 0 (-1) (by omega) (by omega) rfl _ _ _ hP hD hS (lv_sub hl [3, 2, 1, 0] rfl)

abbrev rm_Row_addPlacesWith : Room := { frames := 2, cells := 0, slots := 0, locals := 42 }
set_option maxHeartbeats 4000000 in
set_option maxRecDepth 100000 in
theorem c_Row_addPlacesWith (l : Launch) (D : va_G) (cI cR cG : ClassId) (h e tx set : Nat) (G0 t : Nat → Nat) (hset : set < 1024) (hG0 : ∀ j, G0 j ≤ 30) (ht : ∀ j, t j ≤ 1023) : k_M l y_Ro_addPlacesWith (.code y_Ro_addPlacesWith b_Ro_addPlacesWith 4 none :: kW) rm_Row_addPlacesWith D k_cl (k_ty cI cR cG) [.ref h, .int (zI ↑set), .ref tx] ([(h, .inr (2, [.ref e])), (e, .inl (cI, 30, .inl (kA G0))), (tx, .inl (cI, 30, .inl (kA t)))]) (k_Qv D k_cl [(h, .inr (2, [.ref e])), (e, .inl (cI, 30, .inl (kA (rWith t set 30 0 G0)))), (tx, .inl (cI, 30, .inl (kA t)))]) := by
  refine k_start (cc := b_Ro_addPlacesWith) (maxL := 4) (ret := none) (by decide) rfl (Nat.le_of_ble_eq_true rfl) ?_
  intro p ev s m ar below meth c A ls Qf hQf hx hb hr hml hts hown hlocks hin hK hG hA hP hD hS hl
  replace hown : s.vm.findClass R_Ro = some m.cls := hown
  replace hl : lv_has ls 4 [(0, .ref h), (1, .int (zI ↑set)), (2, .ref tx)] := hl
  have hkw : ∀ w ∈ kW, w.before ar s = true := fun w h => hts w (List.mem_cons_of_mem _ h)
  replace hP : va_P D k_cl ([(h, .inr (2, [.ref e])), (e, .inl (cI, 30, .inl (kA G0))), (tx, .inl (cI, 30, .inl (kA t)))]) s.heap := hP
  replace hD : va_D A ([(h, .inr (2, [.ref e])), (e, .inl (cI, 30, .inl (kA G0))), (tx, .inl (cI, 30, .inl (kA t)))]) := hD
  refine lv_iconst (v := zI 0) hx hb d_Ro_addPlacesWith_0 (by decide) ?_
  refine lv_istore_n (lv' := [(3, .int (zI 0)), (0, .ref h), (1, .int (zI ↑set)), (2, .ref tx)]) hx hb d_Ro_addPlacesWith_1 rfl hl (by decide) rfl ?_
  clear hl; intro ls hl
  have loop_2 : ∀ (n : Nat) (i : Nat) (F : Nat → Nat), (i + n = 30) → (∀ j, F j ≤ 30) → (rWith t set n i F = rWith t set 30 0 G0) → ∀ (H : Heap) (locs : List Loc) (ls : Array Slot), va_P D k_cl ([(h, .inr (2, [.ref e])), (e, .inl (cI, 30, .inl (kA F))), (tx, .inl (cI, 30, .inl (kA t)))]) H → va_D A ([(h, .inr (2, [.ref e])), (e, .inl (cI, 30, .inl (kA F))), (tx, .inl (cI, 30, .inl (kA t)))]) → va_S A s.heap H locs → lv_has ls 4 [(0, .ref h), (1, .int (zI ↑set)), (2, .ref tx), (3, .int (zI ↑i))] → W p l ev rm_Row_addPlacesWith s m ar below meth c H locs 0 0 Qf (F0 m 2 ls []) := by
    intro n
    induction n with
    | zero =>
      intro i F hin hF hgo H locs ls hP hD hS hl
      refine lv_iload_n hx hb d_Ro_addPlacesWith_2 rfl (lv_at hl 3 rfl) ?_
      refine lv_bipush (v := zI 30) hx hb d_Ro_addPlacesWith_3 (by decide) ?_
      refine k_icmp_ge (tgt := 28) hx hb d_Ro_addPlacesWith_5 (by decide) ⟨by omega, by omega⟩ ⟨by omega, by omega⟩ (fun c_5 => ?_) (fun c_5 => ?_)
      · rw [← hQf]
        have hP : va_P D k_cl [(h, .inr (2, [.ref e])), (e, .inl (cI, 30, .inl (kA (rWith t set 30 0 G0)))), (tx, .inl (cI, 30, .inl (kA t)))] H := by
          rw [show rWith t set 30 0 G0 = F from hgo.symm]
          exact hP
        exact k_vret hx hb hr hlocks hP hS d_Ro_addPlacesWith_28
      · exfalso; omega
    | succ n ih_2 =>
      intro i F hin hF hgo H locs ls hP hD hS hl
      refine lv_iload_n hx hb d_Ro_addPlacesWith_2 rfl (lv_at hl 3 rfl) ?_
      refine lv_bipush (v := zI 30) hx hb d_Ro_addPlacesWith_3 (by decide) ?_
      refine k_icmp_ge (tgt := 28) hx hb d_Ro_addPlacesWith_5 (by decide) ⟨by omega, by omega⟩ ⟨by omega, by omega⟩ (fun c_5 => ?_) (fun c_5 => ?_)
      · exfalso; omega
      · refine lv_aload_n hx hb d_Ro_addPlacesWith_8 rfl (lv_at hl 2 rfl) ?_
        refine lv_iload_n hx hb d_Ro_addPlacesWith_9 rfl (lv_at hl 3 rfl) ?_
        refine k_ald hx hb hK hP 2 0 rfl rfl (i := i) (by omega) (by omega) (by omega) d_Ro_addPlacesWith_10 ?_
        have hv_1 := ht i
        refine lv_iload_n hx hb d_Ro_addPlacesWith_11 rfl (lv_at hl 1 rfl) ?_
        refine k_iand (a := (t i)) (b := set) hx hb d_Ro_addPlacesWith_12 ?_
        have hv_2 := k_and_le (t i) set 1023 (by omega)
        refine k_if_eq (tgt := 22) hx hb d_Ro_addPlacesWith_13 (by decide) ⟨by omega, by omega⟩ (fun c_13 => ?_) (fun c_13 => ?_)
        · refine k_iinc (v := ↑(i + 1)) (lv' := [(3, .int (zI (↑(i + 1)))), (0, .ref h), (1, .int (zI ↑set)), (2, .ref tx)]) hx hb d_Ro_addPlacesWith_22 hl (k := 3) rfl (by omega) (by decide) rfl ?_
          clear hl; intro ls hl
          refine lv_goto (tgt := 2) hx hb d_Ro_addPlacesWith_25 (by decide) ?_
          exact ih_2 (i + 1) F (by omega) hF (by rw [rWith] at hgo; (repeat' split at hgo); all_goals first | exact hgo | (exfalso; omega) | contradiction) _ _ _ hP hD hS (lv_sub hl [1, 2, 3, 0] rfl)
        · refine lv_aload_n hx hb d_Ro_addPlacesWith_16 rfl (lv_at hl 0 rfl) ?_
          refine lv_iload_n hx hb d_Ro_addPlacesWith_17 rfl (lv_at hl 3 rfl) ?_
          refine lv_iload_n hx hb d_Ro_addPlacesWith_18 rfl (lv_at hl 3 rfl) ?_
          refine k_beV (va_runV (As := [.int (zI ↑i), .int (zI ↑i)]) (rest := []) ⟨hx, hb, hml, hown, hkw⟩ (c_Row_add l D cI cR cG h e i i F (by omega) (by omega) hF _) (cwV 2 hkw (k_gV kw_methodLink_Ro_38 kw_instanceMethod_Ro_add kw_selects_Ro_add kw_initialized_Ro kw_code_Ro_add) rfl rfl rfl (by decide +kernel) ⟨(Nat.le_of_ble_eq_true rfl), (Nat.le_of_ble_eq_true rfl)⟩) (k_preV (q0 := 0) hK hG hP hD [0, 1] rfl rfl rfl rfl) rfl rfl hl.1 rfl (lv_room (Nat.le_of_ble_eq_true rfl)) d_Ro_addPlacesWith_19 ⟨Nat.zero_le _, Nat.zero_le _⟩) hP hD hS hA [0, 1] rfl (Eq.trans (b := [h, e]) rfl rfl) ?_
          clear hP hD hS; intro H locs hP hD hS
          replace hP : va_P D k_cl ([(h, .inr (2, [.ref e])), (e, .inl (cI, 30, .inl (kA (rAdd F i i)))), (tx, .inl (cI, 30, .inl (kA t)))]) H := hP
          replace hD : va_D A ([(h, .inr (2, [.ref e])), (e, .inl (cI, 30, .inl (kA (rAdd F i i)))), (tx, .inl (cI, 30, .inl (kA t)))]) := hD
          refine k_iinc (v := ↑(i + 1)) (lv' := [(3, .int (zI (↑(i + 1)))), (0, .ref h), (1, .int (zI ↑set)), (2, .ref tx)]) hx hb d_Ro_addPlacesWith_22 hl (k := 3) rfl (by omega) (by decide) rfl ?_
          clear hl; intro ls hl
          refine lv_goto (tgt := 2) hx hb d_Ro_addPlacesWith_25 (by decide) ?_
          exact ih_2 (i + 1) (rAdd F i i) (by omega) (rAdd_le hF (by omega)) (by rw [rWith] at hgo; (repeat' split at hgo); all_goals first | exact hgo | (exfalso; omega) | contradiction) _ _ _ hP hD hS (lv_sub hl [1, 2, 3, 0] rfl)
  exact loop_2 30 0 G0 (by omega) hG0 rfl _ _ _ hP hD hS (lv_sub hl [1, 2, 3, 0] rfl)

abbrev rm_Row_addGrown : Room := { frames := 2, cells := 0, slots := 0, locals := 42 }
set_option maxHeartbeats 4000000 in
set_option maxRecDepth 100000 in
theorem c_Row_addGrown (l : Launch) (D : va_G) (cI cR cG : ClassId) (h e ha ea k : Nat) (G0 a : Nat → Nat) (hk : k ≤ 30) (hG0 : ∀ j, G0 j ≤ 30) (ha30 : ∀ j, a j ≤ 30) : k_M l y_Ro_addGrown (.code y_Ro_addGrown b_Ro_addGrown 4 none :: kW) rm_Row_addGrown D k_cl (k_ty cI cR cG) [.ref h, .ref ha, .int (zI ↑k)] ([(h, .inr (2, [.ref e])), (e, .inl (cI, 30, .inl (kA G0))), (ha, .inr (2, [.ref ea])), (ea, .inl (cI, 30, .inl (kA a)))]) (k_Qv D k_cl [(h, .inr (2, [.ref e])), (e, .inl (cI, 30, .inl (kA (rGrown a k 30 0 G0)))), (ha, .inr (2, [.ref ea])), (ea, .inl (cI, 30, .inl (kA a)))]) := by
  refine k_start (cc := b_Ro_addGrown) (maxL := 4) (ret := none) (by decide) rfl (Nat.le_of_ble_eq_true rfl) ?_
  intro p ev s m ar below meth c A ls Qf hQf hx hb hr hml hts hown hlocks hin hK hG hA hP hD hS hl
  replace hown : s.vm.findClass R_Ro = some m.cls := hown
  replace hl : lv_has ls 4 [(0, .ref h), (1, .ref ha), (2, .int (zI ↑k))] := hl
  have hkw : ∀ w ∈ kW, w.before ar s = true := fun w h => hts w (List.mem_cons_of_mem _ h)
  replace hP : va_P D k_cl ([(h, .inr (2, [.ref e])), (e, .inl (cI, 30, .inl (kA G0))), (ha, .inr (2, [.ref ea])), (ea, .inl (cI, 30, .inl (kA a)))]) s.heap := hP
  replace hD : va_D A ([(h, .inr (2, [.ref e])), (e, .inl (cI, 30, .inl (kA G0))), (ha, .inr (2, [.ref ea])), (ea, .inl (cI, 30, .inl (kA a)))]) := hD
  refine lv_iconst (v := zI 0) hx hb d_Ro_addGrown_0 (by decide) ?_
  refine lv_istore_n (lv' := [(3, .int (zI 0)), (0, .ref h), (1, .ref ha), (2, .int (zI ↑k))]) hx hb d_Ro_addGrown_1 rfl hl (by decide) rfl ?_
  clear hl; intro ls hl
  have loop_2 : ∀ (n : Nat) (i : Nat) (F : Nat → Nat), (i + n = 30) → (∀ j, F j ≤ 30) → (rGrown a k n i F = rGrown a k 30 0 G0) → ∀ (H : Heap) (locs : List Loc) (ls : Array Slot), va_P D k_cl ([(h, .inr (2, [.ref e])), (e, .inl (cI, 30, .inl (kA F))), (ha, .inr (2, [.ref ea])), (ea, .inl (cI, 30, .inl (kA a)))]) H → va_D A ([(h, .inr (2, [.ref e])), (e, .inl (cI, 30, .inl (kA F))), (ha, .inr (2, [.ref ea])), (ea, .inl (cI, 30, .inl (kA a)))]) → va_S A s.heap H locs → lv_has ls 4 [(0, .ref h), (1, .ref ha), (2, .int (zI ↑k)), (3, .int (zI ↑i))] → W p l ev rm_Row_addGrown s m ar below meth c H locs 0 0 Qf (F0 m 2 ls []) := by
    intro n
    induction n with
    | zero =>
      intro i F hin hF hgo H locs ls hP hD hS hl
      refine lv_iload_n hx hb d_Ro_addGrown_2 rfl (lv_at hl 3 rfl) ?_
      refine lv_bipush (v := zI 30) hx hb d_Ro_addGrown_3 (by decide) ?_
      refine k_icmp_ge (tgt := 39) hx hb d_Ro_addGrown_5 (by decide) ⟨by omega, by omega⟩ ⟨by omega, by omega⟩ (fun c_5 => ?_) (fun c_5 => ?_)
      · rw [← hQf]
        have hP : va_P D k_cl [(h, .inr (2, [.ref e])), (e, .inl (cI, 30, .inl (kA (rGrown a k 30 0 G0)))), (ha, .inr (2, [.ref ea])), (ea, .inl (cI, 30, .inl (kA a)))] H := by
          rw [show rGrown a k 30 0 G0 = F from hgo.symm]
          exact hP
        exact k_vret hx hb hr hlocks hP hS d_Ro_addGrown_39
      · exfalso; omega
    | succ n ih_2 =>
      intro i F hin hF hgo H locs ls hP hD hS hl
      refine lv_iload_n hx hb d_Ro_addGrown_2 rfl (lv_at hl 3 rfl) ?_
      refine lv_bipush (v := zI 30) hx hb d_Ro_addGrown_3 (by decide) ?_
      refine k_icmp_ge (tgt := 39) hx hb d_Ro_addGrown_5 (by decide) ⟨by omega, by omega⟩ ⟨by omega, by omega⟩ (fun c_5 => ?_) (fun c_5 => ?_)
      · exfalso; omega
      · refine lv_aload_n hx hb d_Ro_addGrown_8 rfl (lv_at hl 1 rfl) ?_
        refine lv_iload_n hx hb d_Ro_addGrown_9 rfl (lv_at hl 3 rfl) ?_
        refine k_beI (va_runV (As := [.int (zI ↑i)]) (rest := []) ⟨hx, hb, hml, hown, hkw⟩ (c_Row_beginsAt l D cI cR cG ha ea i a (by omega) ha30 _) (cwV 1 hkw (k_gV kw_methodLink_Ro_25 kw_instanceMethod_Ro_beginsAt kw_selects_Ro_beginsAt kw_initialized_Ro kw_code_Ro_beginsAt) rfl rfl rfl (by decide +kernel) ⟨(Nat.le_of_ble_eq_true rfl), (Nat.le_of_ble_eq_true rfl)⟩) (k_preV (q0 := 0) hK hG hP hD [2, 3] rfl rfl rfl rfl) rfl rfl hl.1 rfl (lv_room (Nat.le_of_ble_eq_true rfl)) d_Ro_addGrown_10 ⟨Nat.zero_le _, Nat.zero_le _⟩) hP hD hS hA [2, 3] rfl (Eq.trans (b := [ha, ea]) rfl rfl) ?_
        clear hP hD hS; intro H locs hP hD hS
        replace hP : va_P D k_cl ([(h, .inr (2, [.ref e])), (e, .inl (cI, 30, .inl (kA F))), (ha, .inr (2, [.ref ea])), (ea, .inl (cI, 30, .inl (kA a)))]) H := hP
        replace hD : va_D A ([(h, .inr (2, [.ref e])), (e, .inl (cI, 30, .inl (kA F))), (ha, .inr (2, [.ref ea])), (ea, .inl (cI, 30, .inl (kA a)))]) := hD
        refine k_bif_eq (tgt := 33) hx hb d_Ro_addGrown_13 (by decide) (fun c_13 => ?_) (fun c_13 => ?_)
        · refine k_iinc (v := ↑(i + 1)) (lv' := [(3, .int (zI (↑(i + 1)))), (0, .ref h), (1, .ref ha), (2, .int (zI ↑k))]) hx hb d_Ro_addGrown_33 hl (k := 3) rfl (by omega) (by decide) rfl ?_
          clear hl; intro ls hl
          refine lv_goto (tgt := 2) hx hb d_Ro_addGrown_36 (by decide) ?_
          exact ih_2 (i + 1) F (by omega) hF (by rw [rGrown] at hgo; (repeat' split at hgo); all_goals first | exact hgo | (exfalso; omega) | contradiction) _ _ _ hP hD hS (lv_sub hl [1, 2, 3, 0] rfl)
        · refine lv_aload_n hx hb d_Ro_addGrown_16 rfl (lv_at hl 0 rfl) ?_
          refine lv_iconst (v := zI 0) hx hb d_Ro_addGrown_17 (by decide) ?_
          refine lv_iload_n hx hb d_Ro_addGrown_18 rfl (lv_at hl 3 rfl) ?_
          refine lv_iload_n hx hb d_Ro_addGrown_19 rfl (lv_at hl 2 rfl) ?_
          refine k_isub hx hb d_Ro_addGrown_20 rfl ?_
          refine k_max (v := ↑(i - k)) hx hb (hml.trans hl.1.symm) hown (hkw _ kw_methodLink_Ro_32) (hkw _ kw_static_Math_max) (hkw _ kw_initialized_Math) (hkw _ kw_code_Math_max) (Nat.le_of_ble_eq_true rfl) (Nat.le_of_ble_eq_true rfl) (Nat.zero_le _) (Nat.zero_le _) d_Ro_addGrown_21 ⟨by omega, by omega⟩ ⟨by omega, by omega⟩ (by omega) ?_
          refine lv_aload_n hx hb d_Ro_addGrown_24 rfl (lv_at hl 1 rfl) ?_
          refine va_get (D := D) (ci := 2) (v := .ref ea) (C := R_Ro) (T := T_Ro) (N := 1) hx hb hkw kin_Ro hown hK hP 2 rfl rfl 0 (by decide) (hkw _ kw_fieldLink_Ro_9) (fun _ h9 => h9) rfl d_Ro_addGrown_25 ?_
          refine lv_iload_n hx hb d_Ro_addGrown_28 rfl (lv_at hl 3 rfl) ?_
          refine k_ald hx hb hK hP 3 0 rfl rfl (i := i) (by omega) (by omega) (by omega) d_Ro_addGrown_29 ?_
          have hv_1 := ha30 i
          refine k_beV (va_runV (As := [.int (zI (↑(i - k))), .int (zI (↑(a i)))]) (rest := []) ⟨hx, hb, hml, hown, hkw⟩ (c_Row_add l D cI cR cG h e (i - k) (a i) F (by omega) (by omega) hF _) (cwV 2 hkw (k_gV kw_methodLink_Ro_38 kw_instanceMethod_Ro_add kw_selects_Ro_add kw_initialized_Ro kw_code_Ro_add) rfl rfl rfl (by decide +kernel) ⟨(Nat.le_of_ble_eq_true rfl), (Nat.le_of_ble_eq_true rfl)⟩) (k_preV (q0 := 0) hK hG hP hD [0, 1] rfl rfl rfl rfl) rfl rfl hl.1 rfl (lv_room (Nat.le_of_ble_eq_true rfl)) d_Ro_addGrown_30 ⟨Nat.zero_le _, Nat.zero_le _⟩) hP hD hS hA [0, 1] rfl (Eq.trans (b := [h, e]) rfl rfl) ?_
          clear hP hD hS; intro H locs hP hD hS
          replace hP : va_P D k_cl ([(h, .inr (2, [.ref e])), (e, .inl (cI, 30, .inl (kA (rAdd F (i - k) (a i))))), (ha, .inr (2, [.ref ea])), (ea, .inl (cI, 30, .inl (kA a)))]) H := hP
          replace hD : va_D A ([(h, .inr (2, [.ref e])), (e, .inl (cI, 30, .inl (kA (rAdd F (i - k) (a i))))), (ha, .inr (2, [.ref ea])), (ea, .inl (cI, 30, .inl (kA a)))]) := hD
          refine k_iinc (v := ↑(i + 1)) (lv' := [(3, .int (zI (↑(i + 1)))), (0, .ref h), (1, .ref ha), (2, .int (zI ↑k))]) hx hb d_Ro_addGrown_33 hl (k := 3) rfl (by omega) (by decide) rfl ?_
          clear hl; intro ls hl
          refine lv_goto (tgt := 2) hx hb d_Ro_addGrown_36 (by decide) ?_
          exact ih_2 (i + 1) (rAdd F (i - k) (a i)) (by omega) (rAdd_le hF (by omega)) (by rw [rGrown] at hgo; (repeat' split at hgo); all_goals first | exact hgo | (exfalso; omega) | contradiction) _ _ _ hP hD hS (lv_sub hl [1, 2, 3, 0] rfl)
  exact loop_2 30 0 G0 (by omega) hG0 rfl _ _ _ hP hD hS (lv_sub hl [1, 2, 3, 0] rfl)

abbrev rm_Row_addAll : Room := { frames := 3, cells := 0, slots := 0, locals := 65 }
set_option maxHeartbeats 4000000 in
set_option maxRecDepth 100000 in
theorem c_Row_addAll (l : Launch) (D : va_G) (cI cR cG : ClassId) (h e ha ea : Nat) (G0 a : Nat → Nat) (hG0 : ∀ j, G0 j ≤ 30) (ha30 : ∀ j, a j ≤ 30) : k_M l y_Ro_addAll (.code y_Ro_addAll b_Ro_addAll 2 none :: kW) rm_Row_addAll D k_cl (k_ty cI cR cG) [.ref h, .ref ha] ([(h, .inr (2, [.ref e])), (e, .inl (cI, 30, .inl (kA G0))), (ha, .inr (2, [.ref ea])), (ea, .inl (cI, 30, .inl (kA a)))]) (k_Qv D k_cl [(h, .inr (2, [.ref e])), (e, .inl (cI, 30, .inl (kA (rGrown a 0 30 0 G0)))), (ha, .inr (2, [.ref ea])), (ea, .inl (cI, 30, .inl (kA a)))]) := by
  refine k_start (cc := b_Ro_addAll) (maxL := 2) (ret := none) (by decide) rfl (Nat.le_of_ble_eq_true rfl) ?_
  intro p ev s m ar below meth c A ls Qf hQf hx hb hr hml hts hown hlocks hin hK hG hA hP hD hS hl
  replace hown : s.vm.findClass R_Ro = some m.cls := hown
  replace hl : lv_has ls 2 [(0, .ref h), (1, .ref ha)] := hl
  have hkw : ∀ w ∈ kW, w.before ar s = true := fun w h => hts w (List.mem_cons_of_mem _ h)
  replace hP : va_P D k_cl ([(h, .inr (2, [.ref e])), (e, .inl (cI, 30, .inl (kA G0))), (ha, .inr (2, [.ref ea])), (ea, .inl (cI, 30, .inl (kA a)))]) s.heap := hP
  replace hD : va_D A ([(h, .inr (2, [.ref e])), (e, .inl (cI, 30, .inl (kA G0))), (ha, .inr (2, [.ref ea])), (ea, .inl (cI, 30, .inl (kA a)))]) := hD
  refine lv_aload_n hx hb d_Ro_addAll_0 rfl (lv_at hl 0 rfl) ?_
  refine lv_aload_n hx hb d_Ro_addAll_1 rfl (lv_at hl 1 rfl) ?_
  refine lv_iconst (v := zI 0) hx hb d_Ro_addAll_2 (by decide) ?_
  refine k_stk (st2 := [.int (zI ↑0), .ref ha, .ref h]) (by rw [show (0 : Int) = ↑0 from by omega]) ?_
  refine k_beV (va_runV (As := [.ref ha, .int (zI ↑0)]) (rest := []) ⟨hx, hb, hml, hown, hkw⟩ (c_Row_addGrown l D cI cR cG h e ha ea 0 G0 a (by omega) hG0 ha30 _) (cwV 2 hkw (k_gV kw_methodLink_Ro_42 kw_instanceMethod_Ro_addGrown kw_selects_Ro_addGrown kw_initialized_Ro kw_code_Ro_addGrown) rfl rfl rfl (by decide +kernel) ⟨(Nat.le_of_ble_eq_true rfl), (Nat.le_of_ble_eq_true rfl)⟩) (k_preV (q0 := 0) hK hG hP hD [0, 1, 2, 3] rfl rfl rfl rfl) rfl rfl hl.1 rfl (lv_room (Nat.le_of_ble_eq_true rfl)) d_Ro_addAll_3 ⟨Nat.zero_le _, Nat.zero_le _⟩) hP hD hS hA [0, 1, 2, 3] rfl (Eq.trans (b := [h, e, ha, ea]) rfl rfl) ?_
  clear hP hD hS; intro H locs hP hD hS
  replace hP : va_P D k_cl ([(h, .inr (2, [.ref e])), (e, .inl (cI, 30, .inl (kA (rGrown a 0 30 0 G0)))), (ha, .inr (2, [.ref ea])), (ea, .inl (cI, 30, .inl (kA a)))]) H := hP
  replace hD : va_D A ([(h, .inr (2, [.ref e])), (e, .inl (cI, 30, .inl (kA (rGrown a 0 30 0 G0)))), (ha, .inr (2, [.ref ea])), (ea, .inl (cI, 30, .inl (kA a)))]) := hD
  rw [← hQf]
  exact k_vret hx hb hr hlocks hP hS d_Ro_addAll_6

abbrev rm_Row_addEndingBefore : Room := { frames := 2, cells := 0, slots := 0, locals := 42 }
set_option maxHeartbeats 4000000 in
set_option maxRecDepth 100000 in
theorem c_Row_addEndingBefore (l : Launch) (D : va_G) (cI cR cG : ClassId) (h e ha ea k : Nat) (G0 a : Nat → Nat) (hk : k ≤ 30) (hG0 : ∀ j, G0 j ≤ 30) (ha30 : ∀ j, a j ≤ 30) : k_M l y_Ro_addEndingBefore (.code y_Ro_addEndingBefore b_Ro_addEndingBefore 4 none :: kW) rm_Row_addEndingBefore D k_cl (k_ty cI cR cG) [.ref h, .ref ha, .int (zI ↑k)] ([(h, .inr (2, [.ref e])), (e, .inl (cI, 30, .inl (kA G0))), (ha, .inr (2, [.ref ea])), (ea, .inl (cI, 30, .inl (kA a)))]) (k_Qv D k_cl [(h, .inr (2, [.ref e])), (e, .inl (cI, 30, .inl (kA (rBefore a k 30 0 G0)))), (ha, .inr (2, [.ref ea])), (ea, .inl (cI, 30, .inl (kA a)))]) := by
  refine k_start (cc := b_Ro_addEndingBefore) (maxL := 4) (ret := none) (by decide) rfl (Nat.le_of_ble_eq_true rfl) ?_
  intro p ev s m ar below meth c A ls Qf hQf hx hb hr hml hts hown hlocks hin hK hG hA hP hD hS hl
  replace hown : s.vm.findClass R_Ro = some m.cls := hown
  replace hl : lv_has ls 4 [(0, .ref h), (1, .ref ha), (2, .int (zI ↑k))] := hl
  have hkw : ∀ w ∈ kW, w.before ar s = true := fun w h => hts w (List.mem_cons_of_mem _ h)
  replace hP : va_P D k_cl ([(h, .inr (2, [.ref e])), (e, .inl (cI, 30, .inl (kA G0))), (ha, .inr (2, [.ref ea])), (ea, .inl (cI, 30, .inl (kA a)))]) s.heap := hP
  replace hD : va_D A ([(h, .inr (2, [.ref e])), (e, .inl (cI, 30, .inl (kA G0))), (ha, .inr (2, [.ref ea])), (ea, .inl (cI, 30, .inl (kA a)))]) := hD
  refine lv_iconst (v := zI 0) hx hb d_Ro_addEndingBefore_0 (by decide) ?_
  refine lv_istore_n (lv' := [(3, .int (zI 0)), (0, .ref h), (1, .ref ha), (2, .int (zI ↑k))]) hx hb d_Ro_addEndingBefore_1 rfl hl (by decide) rfl ?_
  clear hl; intro ls hl
  have loop_2 : ∀ (n : Nat) (i : Nat) (F : Nat → Nat), (i + n = 30) → (∀ j, F j ≤ 30) → (rBefore a k n i F = rBefore a k 30 0 G0) → ∀ (H : Heap) (locs : List Loc) (ls : Array Slot), va_P D k_cl ([(h, .inr (2, [.ref e])), (e, .inl (cI, 30, .inl (kA F))), (ha, .inr (2, [.ref ea])), (ea, .inl (cI, 30, .inl (kA a)))]) H → va_D A ([(h, .inr (2, [.ref e])), (e, .inl (cI, 30, .inl (kA F))), (ha, .inr (2, [.ref ea])), (ea, .inl (cI, 30, .inl (kA a)))]) → va_S A s.heap H locs → lv_has ls 4 [(0, .ref h), (1, .ref ha), (2, .int (zI ↑k)), (3, .int (zI ↑i))] → W p l ev rm_Row_addEndingBefore s m ar below meth c H locs 0 0 Qf (F0 m 2 ls []) := by
    intro n
    induction n with
    | zero =>
      intro i F hin hF hgo H locs ls hP hD hS hl
      refine lv_iload_n hx hb d_Ro_addEndingBefore_2 rfl (lv_at hl 3 rfl) ?_
      refine lv_bipush (v := zI 30) hx hb d_Ro_addEndingBefore_3 (by decide) ?_
      refine k_icmp_ge (tgt := 43) hx hb d_Ro_addEndingBefore_5 (by decide) ⟨by omega, by omega⟩ ⟨by omega, by omega⟩ (fun c_5 => ?_) (fun c_5 => ?_)
      · rw [← hQf]
        have hP : va_P D k_cl [(h, .inr (2, [.ref e])), (e, .inl (cI, 30, .inl (kA (rBefore a k 30 0 G0)))), (ha, .inr (2, [.ref ea])), (ea, .inl (cI, 30, .inl (kA a)))] H := by
          rw [show rBefore a k 30 0 G0 = F from hgo.symm]
          exact hP
        exact k_vret hx hb hr hlocks hP hS d_Ro_addEndingBefore_43
      · exfalso; omega
    | succ n ih_2 =>
      intro i F hin hF hgo H locs ls hP hD hS hl
      refine lv_iload_n hx hb d_Ro_addEndingBefore_2 rfl (lv_at hl 3 rfl) ?_
      refine lv_bipush (v := zI 30) hx hb d_Ro_addEndingBefore_3 (by decide) ?_
      refine k_icmp_ge (tgt := 43) hx hb d_Ro_addEndingBefore_5 (by decide) ⟨by omega, by omega⟩ ⟨by omega, by omega⟩ (fun c_5 => ?_) (fun c_5 => ?_)
      · exfalso; omega
      · refine lv_aload_n hx hb d_Ro_addEndingBefore_8 rfl (lv_at hl 1 rfl) ?_
        refine lv_iload_n hx hb d_Ro_addEndingBefore_9 rfl (lv_at hl 3 rfl) ?_
        refine k_beI (va_runV (As := [.int (zI ↑i)]) (rest := []) ⟨hx, hb, hml, hown, hkw⟩ (c_Row_beginsAt l D cI cR cG ha ea i a (by omega) ha30 _) (cwV 1 hkw (k_gV kw_methodLink_Ro_25 kw_instanceMethod_Ro_beginsAt kw_selects_Ro_beginsAt kw_initialized_Ro kw_code_Ro_beginsAt) rfl rfl rfl (by decide +kernel) ⟨(Nat.le_of_ble_eq_true rfl), (Nat.le_of_ble_eq_true rfl)⟩) (k_preV (q0 := 0) hK hG hP hD [2, 3] rfl rfl rfl rfl) rfl rfl hl.1 rfl (lv_room (Nat.le_of_ble_eq_true rfl)) d_Ro_addEndingBefore_10 ⟨Nat.zero_le _, Nat.zero_le _⟩) hP hD hS hA [2, 3] rfl (Eq.trans (b := [ha, ea]) rfl rfl) ?_
        clear hP hD hS; intro H locs hP hD hS
        replace hP : va_P D k_cl ([(h, .inr (2, [.ref e])), (e, .inl (cI, 30, .inl (kA F))), (ha, .inr (2, [.ref ea])), (ea, .inl (cI, 30, .inl (kA a)))]) H := hP
        replace hD : va_D A ([(h, .inr (2, [.ref e])), (e, .inl (cI, 30, .inl (kA F))), (ha, .inr (2, [.ref ea])), (ea, .inl (cI, 30, .inl (kA a)))]) := hD
        refine k_bif_eq (tgt := 37) hx hb d_Ro_addEndingBefore_13 (by decide) (fun c_13 => ?_) (fun c_13 => ?_)
        · refine k_iinc (v := ↑(i + 1)) (lv' := [(3, .int (zI (↑(i + 1)))), (0, .ref h), (1, .ref ha), (2, .int (zI ↑k))]) hx hb d_Ro_addEndingBefore_37 hl (k := 3) rfl (by omega) (by decide) rfl ?_
          clear hl; intro ls hl
          refine lv_goto (tgt := 2) hx hb d_Ro_addEndingBefore_40 (by decide) ?_
          exact ih_2 (i + 1) F (by omega) hF (by rw [rBefore] at hgo; (repeat' split at hgo); all_goals first | exact hgo | (exfalso; omega) | contradiction) _ _ _ hP hD hS (lv_sub hl [1, 2, 3, 0] rfl)
        · refine lv_aload_n hx hb d_Ro_addEndingBefore_16 rfl (lv_at hl 1 rfl) ?_
          refine va_get (D := D) (ci := 2) (v := .ref ea) (C := R_Ro) (T := T_Ro) (N := 1) hx hb hkw kin_Ro hown hK hP 2 rfl rfl 0 (by decide) (hkw _ kw_fieldLink_Ro_9) (fun _ h9 => h9) rfl d_Ro_addEndingBefore_17 ?_
          refine lv_iload_n hx hb d_Ro_addEndingBefore_20 rfl (lv_at hl 3 rfl) ?_
          refine k_ald hx hb hK hP 3 0 rfl rfl (i := i) (by omega) (by omega) (by omega) d_Ro_addEndingBefore_21 ?_
          have hv_1 := ha30 i
          refine lv_iload_n hx hb d_Ro_addEndingBefore_22 rfl (lv_at hl 2 rfl) ?_
          refine k_icmp_ge (tgt := 37) hx hb d_Ro_addEndingBefore_23 (by decide) ⟨by omega, by omega⟩ ⟨by omega, by omega⟩ (fun c_23 => ?_) (fun c_23 => ?_)
          · refine k_iinc (v := ↑(i + 1)) (lv' := [(3, .int (zI (↑(i + 1)))), (0, .ref h), (1, .ref ha), (2, .int (zI ↑k))]) hx hb d_Ro_addEndingBefore_37 hl (k := 3) rfl (by omega) (by decide) rfl ?_
            clear hl; intro ls hl
            refine lv_goto (tgt := 2) hx hb d_Ro_addEndingBefore_40 (by decide) ?_
            exact ih_2 (i + 1) F (by omega) hF (by rw [rBefore] at hgo; (repeat' split at hgo); all_goals first | exact hgo | (exfalso; omega) | contradiction) _ _ _ hP hD hS (lv_sub hl [1, 2, 3, 0] rfl)
          · refine lv_aload_n hx hb d_Ro_addEndingBefore_26 rfl (lv_at hl 0 rfl) ?_
            refine lv_iload_n hx hb d_Ro_addEndingBefore_27 rfl (lv_at hl 3 rfl) ?_
            refine lv_aload_n hx hb d_Ro_addEndingBefore_28 rfl (lv_at hl 1 rfl) ?_
            refine va_get (D := D) (ci := 2) (v := .ref ea) (C := R_Ro) (T := T_Ro) (N := 1) hx hb hkw kin_Ro hown hK hP 2 rfl rfl 0 (by decide) (hkw _ kw_fieldLink_Ro_9) (fun _ h9 => h9) rfl d_Ro_addEndingBefore_29 ?_
            refine lv_iload_n hx hb d_Ro_addEndingBefore_32 rfl (lv_at hl 3 rfl) ?_
            refine k_ald hx hb hK hP 3 0 rfl rfl (i := i) (by omega) (by omega) (by omega) d_Ro_addEndingBefore_33 ?_
            have hv_2 := ha30 i
            refine k_beV (va_runV (As := [.int (zI ↑i), .int (zI (↑(a i)))]) (rest := []) ⟨hx, hb, hml, hown, hkw⟩ (c_Row_add l D cI cR cG h e i (a i) F (by omega) (by omega) hF _) (cwV 2 hkw (k_gV kw_methodLink_Ro_38 kw_instanceMethod_Ro_add kw_selects_Ro_add kw_initialized_Ro kw_code_Ro_add) rfl rfl rfl (by decide +kernel) ⟨(Nat.le_of_ble_eq_true rfl), (Nat.le_of_ble_eq_true rfl)⟩) (k_preV (q0 := 0) hK hG hP hD [0, 1] rfl rfl rfl rfl) rfl rfl hl.1 rfl (lv_room (Nat.le_of_ble_eq_true rfl)) d_Ro_addEndingBefore_34 ⟨Nat.zero_le _, Nat.zero_le _⟩) hP hD hS hA [0, 1] rfl (Eq.trans (b := [h, e]) rfl rfl) ?_
            clear hP hD hS; intro H locs hP hD hS
            replace hP : va_P D k_cl ([(h, .inr (2, [.ref e])), (e, .inl (cI, 30, .inl (kA (rAdd F i (a i))))), (ha, .inr (2, [.ref ea])), (ea, .inl (cI, 30, .inl (kA a)))]) H := hP
            replace hD : va_D A ([(h, .inr (2, [.ref e])), (e, .inl (cI, 30, .inl (kA (rAdd F i (a i))))), (ha, .inr (2, [.ref ea])), (ea, .inl (cI, 30, .inl (kA a)))]) := hD
            refine k_iinc (v := ↑(i + 1)) (lv' := [(3, .int (zI (↑(i + 1)))), (0, .ref h), (1, .ref ha), (2, .int (zI ↑k))]) hx hb d_Ro_addEndingBefore_37 hl (k := 3) rfl (by omega) (by decide) rfl ?_
            clear hl; intro ls hl
            refine lv_goto (tgt := 2) hx hb d_Ro_addEndingBefore_40 (by decide) ?_
            exact ih_2 (i + 1) (rAdd F i (a i)) (by omega) (rAdd_le hF (by omega)) (by rw [rBefore] at hgo; (repeat' split at hgo); all_goals first | exact hgo | (exfalso; omega) | contradiction) _ _ _ hP hD hS (lv_sub hl [1, 2, 3, 0] rfl)
  exact loop_2 30 0 G0 (by omega) hG0 rfl _ _ _ hP hD hS (lv_sub hl [1, 2, 3, 0] rfl)

abbrev rm_Row_addBehindOne : Room := { frames := 2, cells := 0, slots := 0, locals := 42 }
set_option maxHeartbeats 4000000 in
set_option maxRecDepth 100000 in
theorem c_Row_addBehindOne (l : Launch) (D : va_G) (cI cR cG : ClassId) (h e hb2 eb f t k : Nat) (G0 b : Nat → Nat) (hf : f < 30) (ht : t < 30) (hk : k ≤ 30) (hG0 : ∀ j, G0 j ≤ 30) (hb30 : ∀ j, b j ≤ 30) : k_M l y_Ro_addBehindOne (.code y_Ro_addBehindOne b_Ro_addBehindOne 6 none :: kW) rm_Row_addBehindOne D k_cl (k_ty cI cR cG) [.ref h, .int (zI ↑f), .int (zI ↑t), .ref hb2, .int (zI ↑k)] ([(h, .inr (2, [.ref e])), (e, .inl (cI, 30, .inl (kA G0))), (hb2, .inr (2, [.ref eb])), (eb, .inl (cI, 30, .inl (kA b)))]) (k_Qv D k_cl [(h, .inr (2, [.ref e])), (e, .inl (cI, 30, .inl (kA (rBehind1 b f t k (29 - t) (t + 1) G0)))), (hb2, .inr (2, [.ref eb])), (eb, .inl (cI, 30, .inl (kA b)))]) := by
  refine k_start (cc := b_Ro_addBehindOne) (maxL := 6) (ret := none) (by decide) rfl (Nat.le_of_ble_eq_true rfl) ?_
  intro p ev s m ar below meth c A ls Qf hQf hx hb hr hml hts hown hlocks hin hK hG hA hP hD hS hl
  replace hown : s.vm.findClass R_Ro = some m.cls := hown
  replace hl : lv_has ls 6 [(0, .ref h), (1, .int (zI ↑f)), (2, .int (zI ↑t)), (3, .ref hb2), (4, .int (zI ↑k))] := hl
  have hkw : ∀ w ∈ kW, w.before ar s = true := fun w h => hts w (List.mem_cons_of_mem _ h)
  replace hP : va_P D k_cl ([(h, .inr (2, [.ref e])), (e, .inl (cI, 30, .inl (kA G0))), (hb2, .inr (2, [.ref eb])), (eb, .inl (cI, 30, .inl (kA b)))]) s.heap := hP
  replace hD : va_D A ([(h, .inr (2, [.ref e])), (e, .inl (cI, 30, .inl (kA G0))), (hb2, .inr (2, [.ref eb])), (eb, .inl (cI, 30, .inl (kA b)))]) := hD
  refine lv_iload_n hx hb d_Ro_addBehindOne_0 rfl (lv_at hl 2 rfl) ?_
  refine lv_iconst (v := zI 1) hx hb d_Ro_addBehindOne_1 (by decide) ?_
  refine k_iadd (v := ↑(t + 1)) hx hb d_Ro_addBehindOne_2 (by omega) ?_
  refine lv_istore (lv' := [(5, .int (zI (↑(t + 1)))), (0, .ref h), (1, .int (zI ↑f)), (2, .int (zI ↑t)), (3, .ref hb2), (4, .int (zI ↑k))]) hx hb d_Ro_addBehindOne_3 hl (by decide) rfl ?_
  clear hl; intro ls hl
  have loop_5 : ∀ (n : Nat) (i : Nat) (F : Nat → Nat), (i + n = 30) → (∀ j, F j ≤ 30) → (rBehind1 b f t k n i F = rBehind1 b f t k (29 - t) (t + 1) G0) → ∀ (H : Heap) (locs : List Loc) (ls : Array Slot), va_P D k_cl ([(h, .inr (2, [.ref e])), (e, .inl (cI, 30, .inl (kA F))), (hb2, .inr (2, [.ref eb])), (eb, .inl (cI, 30, .inl (kA b)))]) H → va_D A ([(h, .inr (2, [.ref e])), (e, .inl (cI, 30, .inl (kA F))), (hb2, .inr (2, [.ref eb])), (eb, .inl (cI, 30, .inl (kA b)))]) → va_S A s.heap H locs → lv_has ls 6 [(0, .ref h), (1, .int (zI ↑f)), (2, .int (zI ↑t)), (3, .ref hb2), (4, .int (zI ↑k)), (5, .int (zI ↑i))] → W p l ev rm_Row_addBehindOne s m ar below meth c H locs 0 0 Qf (F0 m 5 ls []) := by
    intro n
    induction n with
    | zero =>
      intro i F hin hF hgo H locs ls hP hD hS hl
      refine lv_iload hx hb d_Ro_addBehindOne_5 (lv_at hl 5 rfl) ?_
      refine lv_bipush (v := zI 30) hx hb d_Ro_addBehindOne_7 (by decide) ?_
      refine k_icmp_ge (tgt := 50) hx hb d_Ro_addBehindOne_9 (by decide) ⟨by omega, by omega⟩ ⟨by omega, by omega⟩ (fun c_9 => ?_) (fun c_9 => ?_)
      · rw [← hQf]
        have hP : va_P D k_cl [(h, .inr (2, [.ref e])), (e, .inl (cI, 30, .inl (kA (rBehind1 b f t k (29 - t) (t + 1) G0)))), (hb2, .inr (2, [.ref eb])), (eb, .inl (cI, 30, .inl (kA b)))] H := by
          rw [show rBehind1 b f t k (29 - t) (t + 1) G0 = F from hgo.symm]
          exact hP
        exact k_vret hx hb hr hlocks hP hS d_Ro_addBehindOne_50
      · exfalso; omega
    | succ n ih_5 =>
      intro i F hin hF hgo H locs ls hP hD hS hl
      refine lv_iload hx hb d_Ro_addBehindOne_5 (lv_at hl 5 rfl) ?_
      refine lv_bipush (v := zI 30) hx hb d_Ro_addBehindOne_7 (by decide) ?_
      refine k_icmp_ge (tgt := 50) hx hb d_Ro_addBehindOne_9 (by decide) ⟨by omega, by omega⟩ ⟨by omega, by omega⟩ (fun c_9 => ?_) (fun c_9 => ?_)
      · exfalso; omega
      · refine lv_iload hx hb d_Ro_addBehindOne_12 (lv_at hl 5 rfl) ?_
        refine lv_iload_n hx hb d_Ro_addBehindOne_14 rfl (lv_at hl 2 rfl) ?_
        refine k_isub hx hb d_Ro_addBehindOne_15 rfl ?_
        refine lv_iconst (v := zI 1) hx hb d_Ro_addBehindOne_16 (by decide) ?_
        refine k_isub hx hb d_Ro_addBehindOne_17 rfl ?_
        refine lv_iload hx hb d_Ro_addBehindOne_18 (lv_at hl 4 rfl) ?_
        refine k_icmp_gt (tgt := 50) hx hb d_Ro_addBehindOne_20 (by decide) ⟨by omega, by omega⟩ ⟨by omega, by omega⟩ (fun c_20 => ?_) (fun c_20 => ?_)
        · rw [← hQf]
          have hP : va_P D k_cl [(h, .inr (2, [.ref e])), (e, .inl (cI, 30, .inl (kA (rBehind1 b f t k (29 - t) (t + 1) G0)))), (hb2, .inr (2, [.ref eb])), (eb, .inl (cI, 30, .inl (kA b)))] H := by
            rw [show rBehind1 b f t k (29 - t) (t + 1) G0 = F from (by rw [rBehind1] at hgo; (repeat' split at hgo); all_goals first | exact hgo.symm | (exfalso; omega))]
            exact hP
          exact k_vret hx hb hr hlocks hP hS d_Ro_addBehindOne_50
        · refine lv_aload_n hx hb d_Ro_addBehindOne_23 rfl (lv_at hl 3 rfl) ?_
          refine lv_iload hx hb d_Ro_addBehindOne_24 (lv_at hl 5 rfl) ?_
          refine k_beI (va_runV (As := [.int (zI ↑i)]) (rest := []) ⟨hx, hb, hml, hown, hkw⟩ (c_Row_beginsAt l D cI cR cG hb2 eb i b (by omega) hb30 _) (cwV 1 hkw (k_gV kw_methodLink_Ro_25 kw_instanceMethod_Ro_beginsAt kw_selects_Ro_beginsAt kw_initialized_Ro kw_code_Ro_beginsAt) rfl rfl rfl (by decide +kernel) ⟨(Nat.le_of_ble_eq_true rfl), (Nat.le_of_ble_eq_true rfl)⟩) (k_preV (q0 := 0) hK hG hP hD [2, 3] rfl rfl rfl rfl) rfl rfl hl.1 rfl (lv_room (Nat.le_of_ble_eq_true rfl)) d_Ro_addBehindOne_26 ⟨Nat.zero_le _, Nat.zero_le _⟩) hP hD hS hA [2, 3] rfl (Eq.trans (b := [hb2, eb]) rfl rfl) ?_
          clear hP hD hS; intro H locs hP hD hS
          replace hP : va_P D k_cl ([(h, .inr (2, [.ref e])), (e, .inl (cI, 30, .inl (kA F))), (hb2, .inr (2, [.ref eb])), (eb, .inl (cI, 30, .inl (kA b)))]) H := hP
          replace hD : va_D A ([(h, .inr (2, [.ref e])), (e, .inl (cI, 30, .inl (kA F))), (hb2, .inr (2, [.ref eb])), (eb, .inl (cI, 30, .inl (kA b)))]) := hD
          refine k_bif_eq (tgt := 44) hx hb d_Ro_addBehindOne_29 (by decide) (fun c_29 => ?_) (fun c_29 => ?_)
          · refine k_iinc (v := ↑(i + 1)) (lv' := [(5, .int (zI (↑(i + 1)))), (0, .ref h), (1, .int (zI ↑f)), (2, .int (zI ↑t)), (3, .ref hb2), (4, .int (zI ↑k))]) hx hb d_Ro_addBehindOne_44 hl (k := 5) rfl (by omega) (by decide) rfl ?_
            clear hl; intro ls hl
            refine lv_goto (tgt := 5) hx hb d_Ro_addBehindOne_47 (by decide) ?_
            exact ih_5 (i + 1) F (by omega) hF (by rw [rBehind1] at hgo; (repeat' split at hgo); all_goals first | exact hgo | (exfalso; omega) | contradiction) _ _ _ hP hD hS (lv_sub hl [1, 2, 3, 4, 5, 0] rfl)
          · refine lv_aload_n hx hb d_Ro_addBehindOne_32 rfl (lv_at hl 0 rfl) ?_
            refine lv_iload_n hx hb d_Ro_addBehindOne_33 rfl (lv_at hl 1 rfl) ?_
            refine lv_aload_n hx hb d_Ro_addBehindOne_34 rfl (lv_at hl 3 rfl) ?_
            refine va_get (D := D) (ci := 2) (v := .ref eb) (C := R_Ro) (T := T_Ro) (N := 1) hx hb hkw kin_Ro hown hK hP 2 rfl rfl 0 (by decide) (hkw _ kw_fieldLink_Ro_9) (fun _ h9 => h9) rfl d_Ro_addBehindOne_35 ?_
            refine lv_iload hx hb d_Ro_addBehindOne_38 (lv_at hl 5 rfl) ?_
            refine k_ald hx hb hK hP 3 0 rfl rfl (i := i) (by omega) (by omega) (by omega) d_Ro_addBehindOne_40 ?_
            have hv_1 := hb30 i
            refine k_beV (va_runV (As := [.int (zI ↑f), .int (zI (↑(b i)))]) (rest := []) ⟨hx, hb, hml, hown, hkw⟩ (c_Row_add l D cI cR cG h e f (b i) F (by omega) (by omega) hF _) (cwV 2 hkw (k_gV kw_methodLink_Ro_38 kw_instanceMethod_Ro_add kw_selects_Ro_add kw_initialized_Ro kw_code_Ro_add) rfl rfl rfl (by decide +kernel) ⟨(Nat.le_of_ble_eq_true rfl), (Nat.le_of_ble_eq_true rfl)⟩) (k_preV (q0 := 0) hK hG hP hD [0, 1] rfl rfl rfl rfl) rfl rfl hl.1 rfl (lv_room (Nat.le_of_ble_eq_true rfl)) d_Ro_addBehindOne_41 ⟨Nat.zero_le _, Nat.zero_le _⟩) hP hD hS hA [0, 1] rfl (Eq.trans (b := [h, e]) rfl rfl) ?_
            clear hP hD hS; intro H locs hP hD hS
            replace hP : va_P D k_cl ([(h, .inr (2, [.ref e])), (e, .inl (cI, 30, .inl (kA (rAdd F f (b i))))), (hb2, .inr (2, [.ref eb])), (eb, .inl (cI, 30, .inl (kA b)))]) H := hP
            replace hD : va_D A ([(h, .inr (2, [.ref e])), (e, .inl (cI, 30, .inl (kA (rAdd F f (b i))))), (hb2, .inr (2, [.ref eb])), (eb, .inl (cI, 30, .inl (kA b)))]) := hD
            refine k_iinc (v := ↑(i + 1)) (lv' := [(5, .int (zI (↑(i + 1)))), (0, .ref h), (1, .int (zI ↑f)), (2, .int (zI ↑t)), (3, .ref hb2), (4, .int (zI ↑k))]) hx hb d_Ro_addBehindOne_44 hl (k := 5) rfl (by omega) (by decide) rfl ?_
            clear hl; intro ls hl
            refine lv_goto (tgt := 5) hx hb d_Ro_addBehindOne_47 (by decide) ?_
            exact ih_5 (i + 1) (rAdd F f (b i)) (by omega) (rAdd_le hF (by omega)) (by rw [rBehind1] at hgo; (repeat' split at hgo); all_goals first | exact hgo | (exfalso; omega) | contradiction) _ _ _ hP hD hS (lv_sub hl [1, 2, 3, 4, 5, 0] rfl)
  exact loop_5 (29 - t) (t + 1) G0 (by omega) hG0 rfl _ _ _ hP hD hS (lv_sub hl [1, 2, 3, 4, 5, 0] rfl)

abbrev rm_Row_addBothOfOne : Room := { frames := 2, cells := 0, slots := 0, locals := 42 }
set_option maxHeartbeats 4000000 in
set_option maxRecDepth 100000 in
theorem c_Row_addBothOfOne (l : Launch) (D : va_G) (cI cR cG : ClassId) (h e hb2 eb f t k : Nat) (G0 b : Nat → Nat) (hf : f < 30) (ht : t < 30) (hk : k ≤ 30) (hG0 : ∀ j, G0 j ≤ 30) (hb30 : ∀ j, b j ≤ 30) : k_M l y_Ro_addBothOfOne (.code y_Ro_addBothOfOne b_Ro_addBothOfOne 8 none :: kW) rm_Row_addBothOfOne D k_cl (k_ty cI cR cG) [.ref h, .int (zI ↑f), .int (zI ↑t), .ref hb2, .int (zI ↑k)] ([(h, .inr (2, [.ref e])), (e, .inl (cI, 30, .inl (kA G0))), (hb2, .inr (2, [.ref eb])), (eb, .inl (cI, 30, .inl (kA b)))]) (k_Qv D k_cl [(h, .inr (2, [.ref e])), (e, .inl (cI, 30, .inl (kA (rBoth1 b f t k 30 0 G0)))), (hb2, .inr (2, [.ref eb])), (eb, .inl (cI, 30, .inl (kA b)))]) := by
  refine k_start (cc := b_Ro_addBothOfOne) (maxL := 8) (ret := none) (by decide) rfl (Nat.le_of_ble_eq_true rfl) ?_
  intro p ev s m ar below meth c A ls Qf hQf hx hb hr hml hts hown hlocks hin hK hG hA hP hD hS hl
  replace hown : s.vm.findClass R_Ro = some m.cls := hown
  replace hl : lv_has ls 8 [(0, .ref h), (1, .int (zI ↑f)), (2, .int (zI ↑t)), (3, .ref hb2), (4, .int (zI ↑k))] := hl
  have hkw : ∀ w ∈ kW, w.before ar s = true := fun w h => hts w (List.mem_cons_of_mem _ h)
  replace hP : va_P D k_cl ([(h, .inr (2, [.ref e])), (e, .inl (cI, 30, .inl (kA G0))), (hb2, .inr (2, [.ref eb])), (eb, .inl (cI, 30, .inl (kA b)))]) s.heap := hP
  replace hD : va_D A ([(h, .inr (2, [.ref e])), (e, .inl (cI, 30, .inl (kA G0))), (hb2, .inr (2, [.ref eb])), (eb, .inl (cI, 30, .inl (kA b)))]) := hD
  refine lv_iconst (v := zI 0) hx hb d_Ro_addBothOfOne_0 (by decide) ?_
  refine lv_istore (lv' := [(5, .int (zI 0)), (0, .ref h), (1, .int (zI ↑f)), (2, .int (zI ↑t)), (3, .ref hb2), (4, .int (zI ↑k))]) hx hb d_Ro_addBothOfOne_1 hl (by decide) rfl ?_
  clear hl; intro ls hl
  have loop_3 : ∀ (n : Nat) (i : Nat) (F : Nat → Nat), (i + n = 30) → (∀ j, F j ≤ 30) → (rBoth1 b f t k n i F = rBoth1 b f t k 30 0 G0) → ∀ (H : Heap) (locs : List Loc) (ls : Array Slot), va_P D k_cl ([(h, .inr (2, [.ref e])), (e, .inl (cI, 30, .inl (kA F))), (hb2, .inr (2, [.ref eb])), (eb, .inl (cI, 30, .inl (kA b)))]) H → va_D A ([(h, .inr (2, [.ref e])), (e, .inl (cI, 30, .inl (kA F))), (hb2, .inr (2, [.ref eb])), (eb, .inl (cI, 30, .inl (kA b)))]) → va_S A s.heap H locs → lv_has ls 8 [(0, .ref h), (1, .int (zI ↑f)), (2, .int (zI ↑t)), (3, .ref hb2), (4, .int (zI ↑k)), (5, .int (zI ↑i))] → W p l ev rm_Row_addBothOfOne s m ar below meth c H locs 0 0 Qf (F0 m 3 ls []) := by
    intro n
    induction n with
    | zero =>
      intro i F hin hF hgo H locs ls hP hD hS hl
      refine lv_iload hx hb d_Ro_addBothOfOne_3 (lv_at hl 5 rfl) ?_
      refine lv_bipush (v := zI 30) hx hb d_Ro_addBothOfOne_5 (by decide) ?_
      refine k_icmp_ge (tgt := 66) hx hb d_Ro_addBothOfOne_7 (by decide) ⟨by omega, by omega⟩ ⟨by omega, by omega⟩ (fun c_7 => ?_) (fun c_7 => ?_)
      · rw [← hQf]
        have hP : va_P D k_cl [(h, .inr (2, [.ref e])), (e, .inl (cI, 30, .inl (kA (rBoth1 b f t k 30 0 G0)))), (hb2, .inr (2, [.ref eb])), (eb, .inl (cI, 30, .inl (kA b)))] H := by
          rw [show rBoth1 b f t k 30 0 G0 = F from hgo.symm]
          exact hP
        exact k_vret hx hb hr hlocks hP hS d_Ro_addBothOfOne_66
      · exfalso; omega
    | succ n ih_3 =>
      intro i F hin hF hgo H locs ls hP hD hS hl
      refine lv_iload hx hb d_Ro_addBothOfOne_3 (lv_at hl 5 rfl) ?_
      refine lv_bipush (v := zI 30) hx hb d_Ro_addBothOfOne_5 (by decide) ?_
      refine k_icmp_ge (tgt := 66) hx hb d_Ro_addBothOfOne_7 (by decide) ⟨by omega, by omega⟩ ⟨by omega, by omega⟩ (fun c_7 => ?_) (fun c_7 => ?_)
      · exfalso; omega
      · refine lv_aload_n hx hb d_Ro_addBothOfOne_10 rfl (lv_at hl 3 rfl) ?_
        refine lv_iload hx hb d_Ro_addBothOfOne_11 (lv_at hl 5 rfl) ?_
        refine k_beI (va_runV (As := [.int (zI ↑i)]) (rest := []) ⟨hx, hb, hml, hown, hkw⟩ (c_Row_beginsAt l D cI cR cG hb2 eb i b (by omega) hb30 _) (cwV 1 hkw (k_gV kw_methodLink_Ro_25 kw_instanceMethod_Ro_beginsAt kw_selects_Ro_beginsAt kw_initialized_Ro kw_code_Ro_beginsAt) rfl rfl rfl (by decide +kernel) ⟨(Nat.le_of_ble_eq_true rfl), (Nat.le_of_ble_eq_true rfl)⟩) (k_preV (q0 := 0) hK hG hP hD [2, 3] rfl rfl rfl rfl) rfl rfl hl.1 rfl (lv_room (Nat.le_of_ble_eq_true rfl)) d_Ro_addBothOfOne_13 ⟨Nat.zero_le _, Nat.zero_le _⟩) hP hD hS hA [2, 3] rfl (Eq.trans (b := [hb2, eb]) rfl rfl) ?_
        clear hP hD hS; intro H locs hP hD hS
        replace hP : va_P D k_cl ([(h, .inr (2, [.ref e])), (e, .inl (cI, 30, .inl (kA F))), (hb2, .inr (2, [.ref eb])), (eb, .inl (cI, 30, .inl (kA b)))]) H := hP
        replace hD : va_D A ([(h, .inr (2, [.ref e])), (e, .inl (cI, 30, .inl (kA F))), (hb2, .inr (2, [.ref eb])), (eb, .inl (cI, 30, .inl (kA b)))]) := hD
        refine k_bif_eq (tgt := 60) hx hb d_Ro_addBothOfOne_16 (by decide) (fun c_16 => ?_) (fun c_16 => ?_)
        · refine k_iinc (v := ↑(i + 1)) (lv' := [(5, .int (zI (↑(i + 1)))), (0, .ref h), (1, .int (zI ↑f)), (2, .int (zI ↑t)), (3, .ref hb2), (4, .int (zI ↑k))]) hx hb d_Ro_addBothOfOne_60 hl (k := 5) rfl (by omega) (by decide) rfl ?_
          clear hl; intro ls hl
          refine lv_goto (tgt := 3) hx hb d_Ro_addBothOfOne_63 (by decide) ?_
          exact ih_3 (i + 1) F (by omega) hF (by rw [rBoth1] at hgo; (repeat' split at hgo); all_goals first | exact hgo | (exfalso; omega) | contradiction) _ _ _ hP hD hS (lv_sub hl [1, 2, 3, 4, 5, 0] rfl)
        · refine lv_iload_n hx hb d_Ro_addBothOfOne_19 rfl (lv_at hl 1 rfl) ?_
          refine lv_iload hx hb d_Ro_addBothOfOne_20 (lv_at hl 5 rfl) ?_
          refine k_min (v := ↑(min f i)) hx hb (hml.trans hl.1.symm) hown (hkw _ kw_methodLink_Ro_53) (hkw _ kw_static_Math_min) (hkw _ kw_initialized_Math) (hkw _ kw_code_Math_min) (Nat.le_of_ble_eq_true rfl) (Nat.le_of_ble_eq_true rfl) (Nat.zero_le _) (Nat.zero_le _) d_Ro_addBothOfOne_22 ⟨by omega, by omega⟩ ⟨by omega, by omega⟩ (by omega) ?_
          refine lv_istore (lv' := [(6, .int (zI (↑(min f i)))), (0, .ref h), (1, .int (zI ↑f)), (2, .int (zI ↑t)), (3, .ref hb2), (4, .int (zI ↑k)), (5, .int (zI ↑i))]) hx hb d_Ro_addBothOfOne_25 hl (by decide) rfl ?_
          clear hl; intro ls hl
          refine lv_iload_n hx hb d_Ro_addBothOfOne_27 rfl (lv_at hl 3 rfl) ?_
          refine lv_aload_n hx hb d_Ro_addBothOfOne_28 rfl (lv_at hl 4 rfl) ?_
          refine va_get (D := D) (ci := 2) (v := .ref eb) (C := R_Ro) (T := T_Ro) (N := 1) hx hb hkw kin_Ro hown hK hP 2 rfl rfl 0 (by decide) (hkw _ kw_fieldLink_Ro_9) (fun _ h9 => h9) rfl d_Ro_addBothOfOne_29 ?_
          refine lv_iload hx hb d_Ro_addBothOfOne_32 (lv_at hl 6 rfl) ?_
          refine k_ald hx hb hK hP 3 0 rfl rfl (i := i) (by omega) (by omega) (by omega) d_Ro_addBothOfOne_34 ?_
          have hv_1 := hb30 i
          refine k_max (v := ↑(max t (b i))) hx hb (hml.trans hl.1.symm) hown (hkw _ kw_methodLink_Ro_32) (hkw _ kw_static_Math_max) (hkw _ kw_initialized_Math) (hkw _ kw_code_Math_max) (Nat.le_of_ble_eq_true rfl) (Nat.le_of_ble_eq_true rfl) (Nat.zero_le _) (Nat.zero_le _) d_Ro_addBothOfOne_35 ⟨by omega, by omega⟩ ⟨by omega, by omega⟩ (by omega) ?_
          refine lv_istore (lv' := [(7, .int (zI (↑(max t (b i))))), (6, .int (zI (↑(min f i)))), (0, .ref h), (1, .int (zI ↑f)), (2, .int (zI ↑t)), (3, .ref hb2), (4, .int (zI ↑k)), (5, .int (zI ↑i))]) hx hb d_Ro_addBothOfOne_38 hl (by decide) rfl ?_
          clear hl; intro ls hl
          refine lv_iload hx hb d_Ro_addBothOfOne_40 (lv_at hl 0 rfl) ?_
          refine lv_iload hx hb d_Ro_addBothOfOne_42 (lv_at hl 1 rfl) ?_
          refine k_isub hx hb d_Ro_addBothOfOne_44 rfl ?_
          refine lv_iconst (v := zI 1) hx hb d_Ro_addBothOfOne_45 (by decide) ?_
          refine k_iadd hx hb d_Ro_addBothOfOne_46 rfl ?_
          refine lv_iload hx hb d_Ro_addBothOfOne_47 (lv_at hl 6 rfl) ?_
          refine k_icmp_gt (tgt := 60) hx hb d_Ro_addBothOfOne_49 (by decide) ⟨by omega, by omega⟩ ⟨by omega, by omega⟩ (fun c_49 => ?_) (fun c_49 => ?_)
          · refine k_iinc (v := ↑(i + 1)) (lv' := [(5, .int (zI (↑(i + 1)))), (7, .int (zI (↑(max t (b i))))), (6, .int (zI (↑(min f i)))), (0, .ref h), (1, .int (zI ↑f)), (2, .int (zI ↑t)), (3, .ref hb2), (4, .int (zI ↑k))]) hx hb d_Ro_addBothOfOne_60 hl (k := 7) rfl (by omega) (by decide) rfl ?_
            clear hl; intro ls hl
            refine lv_goto (tgt := 3) hx hb d_Ro_addBothOfOne_63 (by decide) ?_
            exact ih_3 (i + 1) F (by omega) hF (by rw [rBoth1] at hgo; (repeat' split at hgo); all_goals first | exact hgo | (exfalso; omega) | contradiction) _ _ _ hP hD hS (lv_sub hl [3, 4, 5, 6, 7, 0] rfl)
          · refine lv_aload_n hx hb d_Ro_addBothOfOne_52 rfl (lv_at hl 2 rfl) ?_
            refine lv_iload hx hb d_Ro_addBothOfOne_53 (lv_at hl 1 rfl) ?_
            refine lv_iload hx hb d_Ro_addBothOfOne_55 (lv_at hl 0 rfl) ?_
            refine k_beV (va_runV (As := [.int (zI (↑(min f i))), .int (zI (↑(max t (b i))))]) (rest := []) ⟨hx, hb, hml, hown, hkw⟩ (c_Row_add l D cI cR cG h e (min f i) (max t (b i)) F (by omega) (by omega) hF _) (cwV 2 hkw (k_gV kw_methodLink_Ro_38 kw_instanceMethod_Ro_add kw_selects_Ro_add kw_initialized_Ro kw_code_Ro_add) rfl rfl rfl (by decide +kernel) ⟨(Nat.le_of_ble_eq_true rfl), (Nat.le_of_ble_eq_true rfl)⟩) (k_preV (q0 := 0) hK hG hP hD [0, 1] rfl rfl rfl rfl) rfl rfl hl.1 rfl (lv_room (Nat.le_of_ble_eq_true rfl)) d_Ro_addBothOfOne_57 ⟨Nat.zero_le _, Nat.zero_le _⟩) hP hD hS hA [0, 1] rfl (Eq.trans (b := [h, e]) rfl rfl) ?_
            clear hP hD hS; intro H locs hP hD hS
            replace hP : va_P D k_cl ([(h, .inr (2, [.ref e])), (e, .inl (cI, 30, .inl (kA (rAdd F (min f i) (max t (b i)))))), (hb2, .inr (2, [.ref eb])), (eb, .inl (cI, 30, .inl (kA b)))]) H := hP
            replace hD : va_D A ([(h, .inr (2, [.ref e])), (e, .inl (cI, 30, .inl (kA (rAdd F (min f i) (max t (b i)))))), (hb2, .inr (2, [.ref eb])), (eb, .inl (cI, 30, .inl (kA b)))]) := hD
            refine k_iinc (v := ↑(i + 1)) (lv' := [(5, .int (zI (↑(i + 1)))), (7, .int (zI (↑(max t (b i))))), (6, .int (zI (↑(min f i)))), (0, .ref h), (1, .int (zI ↑f)), (2, .int (zI ↑t)), (3, .ref hb2), (4, .int (zI ↑k))]) hx hb d_Ro_addBothOfOne_60 hl (k := 7) rfl (by omega) (by decide) rfl ?_
            clear hl; intro ls hl
            refine lv_goto (tgt := 3) hx hb d_Ro_addBothOfOne_63 (by decide) ?_
            exact ih_3 (i + 1) (rAdd F (min f i) (max t (b i))) (by omega) (rAdd_le hF (by omega)) (by rw [rBoth1] at hgo; (repeat' split at hgo); all_goals first | exact hgo | (exfalso; omega) | contradiction) _ _ _ hP hD hS (lv_sub hl [3, 4, 5, 6, 7, 0] rfl)
  exact loop_3 30 0 G0 (by omega) hG0 rfl _ _ _ hP hD hS (lv_sub hl [1, 2, 3, 4, 5, 0] rfl)

abbrev rm_Row_hasWithin : Room := { frames := 2, cells := 0, slots := 0, locals := 41 }
set_option maxHeartbeats 4000000 in
set_option maxRecDepth 100000 in
theorem c_Row_hasWithin (l : Launch) (D : va_G) (cI cR cG : ClassId) (h e lo hi : Nat) (b : Nat → Nat) (hlo : lo < 30) (hhi : hi ≤ 30) (hb30 : ∀ j, b j ≤ 30) : k_M l y_Ro_hasWithin (.code y_Ro_hasWithin b_Ro_hasWithin 4 (some .boolean) :: kW) rm_Row_hasWithin D k_cl (k_ty cI cR cG) [.ref h, .int (zI ↑lo), .int (zI ↑hi)] ([(h, .inr (2, [.ref e])), (e, .inl (cI, 30, .inl (kA b)))]) (k_Qi D k_cl (k_b (rHW b hi (30 - lo) lo = true)) [(h, .inr (2, [.ref e])), (e, .inl (cI, 30, .inl (kA b)))]) := by
  refine k_start (cc := b_Ro_hasWithin) (maxL := 4) (ret := (some .boolean)) (by decide) rfl (Nat.le_of_ble_eq_true rfl) ?_
  intro p ev s m ar below meth c A ls Qf hQf hx hb hr hml hts hown hlocks hin hK hG hA hP hD hS hl
  replace hown : s.vm.findClass R_Ro = some m.cls := hown
  replace hl : lv_has ls 4 [(0, .ref h), (1, .int (zI ↑lo)), (2, .int (zI ↑hi))] := hl
  have hkw : ∀ w ∈ kW, w.before ar s = true := fun w h => hts w (List.mem_cons_of_mem _ h)
  replace hP : va_P D k_cl ([(h, .inr (2, [.ref e])), (e, .inl (cI, 30, .inl (kA b)))]) s.heap := hP
  replace hD : va_D A ([(h, .inr (2, [.ref e])), (e, .inl (cI, 30, .inl (kA b)))]) := hD
  refine lv_iconst (v := zI 0) hx hb d_Ro_hasWithin_0 (by decide) ?_
  refine lv_iload_n hx hb d_Ro_hasWithin_1 rfl (lv_at hl 1 rfl) ?_
  refine k_max (v := ↑lo) hx hb (hml.trans hl.1.symm) hown (hkw _ kw_methodLink_Ro_32) (hkw _ kw_static_Math_max) (hkw _ kw_initialized_Math) (hkw _ kw_code_Math_max) (Nat.le_of_ble_eq_true rfl) (Nat.le_of_ble_eq_true rfl) (Nat.zero_le _) (Nat.zero_le _) d_Ro_hasWithin_2 ⟨by omega, by omega⟩ ⟨by omega, by omega⟩ (by omega) ?_
  refine lv_istore_n (lv' := [(3, .int (zI ↑lo)), (0, .ref h), (1, .int (zI ↑lo)), (2, .int (zI ↑hi))]) hx hb d_Ro_hasWithin_5 rfl hl (by decide) rfl ?_
  clear hl; intro ls hl
  have loop_6 : ∀ (n : Nat) (i : Nat), (i + n = 30) → (rHW b hi n i = rHW b hi (30 - lo) lo) → ∀ (H : Heap) (locs : List Loc) (ls : Array Slot), va_P D k_cl ([(h, .inr (2, [.ref e])), (e, .inl (cI, 30, .inl (kA b)))]) H → va_D A ([(h, .inr (2, [.ref e])), (e, .inl (cI, 30, .inl (kA b)))]) → va_S A s.heap H locs → lv_has ls 4 [(0, .ref h), (1, .int (zI ↑lo)), (2, .int (zI ↑hi)), (3, .int (zI ↑i))] → W p l ev rm_Row_hasWithin s m ar below meth c H locs 0 0 Qf (F0 m 6 ls []) := by
    intro n
    induction n with
    | zero =>
      intro i hin hgo H locs ls hP hD hS hl
      refine lv_iload_n hx hb d_Ro_hasWithin_6 rfl (lv_at hl 3 rfl) ?_
      refine lv_bipush (v := zI 30) hx hb d_Ro_hasWithin_7 (by decide) ?_
      refine k_icmp_ge (tgt := 38) hx hb d_Ro_hasWithin_9 (by decide) ⟨by omega, by omega⟩ ⟨by omega, by omega⟩ (fun c_9 => ?_) (fun c_9 => ?_)
      · refine lv_iconst (v := zI 0) hx hb d_Ro_hasWithin_38 (by decide) ?_
        rw [← hQf]
        exact k_zret hx hb hr hlocks hP hS (k_bf (by rw [← hgo]; simp [rHW])).symm d_Ro_hasWithin_39
      · exfalso; omega
    | succ n ih_6 =>
      intro i hin hgo H locs ls hP hD hS hl
      refine lv_iload_n hx hb d_Ro_hasWithin_6 rfl (lv_at hl 3 rfl) ?_
      refine lv_bipush (v := zI 30) hx hb d_Ro_hasWithin_7 (by decide) ?_
      refine k_icmp_ge (tgt := 38) hx hb d_Ro_hasWithin_9 (by decide) ⟨by omega, by omega⟩ ⟨by omega, by omega⟩ (fun c_9 => ?_) (fun c_9 => ?_)
      · exfalso; omega
      · refine lv_aload_n hx hb d_Ro_hasWithin_12 rfl (lv_at hl 0 rfl) ?_
        refine lv_iload_n hx hb d_Ro_hasWithin_13 rfl (lv_at hl 3 rfl) ?_
        refine k_beI (va_runV (As := [.int (zI ↑i)]) (rest := []) ⟨hx, hb, hml, hown, hkw⟩ (c_Row_beginsAt l D cI cR cG h e i b (by omega) hb30 _) (cwV 1 hkw (k_gV kw_methodLink_Ro_25 kw_instanceMethod_Ro_beginsAt kw_selects_Ro_beginsAt kw_initialized_Ro kw_code_Ro_beginsAt) rfl rfl rfl (by decide +kernel) ⟨(Nat.le_of_ble_eq_true rfl), (Nat.le_of_ble_eq_true rfl)⟩) (k_preV (q0 := 0) hK hG hP hD [0, 1] rfl rfl rfl rfl) rfl rfl hl.1 rfl (lv_room (Nat.le_of_ble_eq_true rfl)) d_Ro_hasWithin_14 ⟨Nat.zero_le _, Nat.zero_le _⟩) hP hD hS hA [0, 1] rfl (Eq.trans (b := [h, e]) rfl rfl) ?_
        clear hP hD hS; intro H locs hP hD hS
        replace hP : va_P D k_cl ([(h, .inr (2, [.ref e])), (e, .inl (cI, 30, .inl (kA b)))]) H := hP
        replace hD : va_D A ([(h, .inr (2, [.ref e])), (e, .inl (cI, 30, .inl (kA b)))]) := hD
        refine k_bif_eq (tgt := 32) hx hb d_Ro_hasWithin_17 (by decide) (fun c_17 => ?_) (fun c_17 => ?_)
        · refine k_iinc (v := ↑(i + 1)) (lv' := [(3, .int (zI (↑(i + 1)))), (0, .ref h), (1, .int (zI ↑lo)), (2, .int (zI ↑hi))]) hx hb d_Ro_hasWithin_32 hl (k := 3) rfl (by omega) (by decide) rfl ?_
          clear hl; intro ls hl
          refine lv_goto (tgt := 6) hx hb d_Ro_hasWithin_35 (by decide) ?_
          exact ih_6 (i + 1) (by omega) (by rw [rHW] at hgo; (repeat' split at hgo); all_goals first | exact hgo | (exfalso; omega) | contradiction) _ _ _ hP hD hS (lv_sub hl [1, 2, 3, 0] rfl)
        · refine lv_aload_n hx hb d_Ro_hasWithin_20 rfl (lv_at hl 0 rfl) ?_
          refine va_get (D := D) (ci := 2) (v := .ref e) (C := R_Ro) (T := T_Ro) (N := 1) hx hb hkw kin_Ro hown hK hP 0 rfl rfl 0 (by decide) (hkw _ kw_fieldLink_Ro_9) (fun _ h9 => h9) rfl d_Ro_hasWithin_21 ?_
          refine lv_iload_n hx hb d_Ro_hasWithin_24 rfl (lv_at hl 3 rfl) ?_
          refine k_ald hx hb hK hP 1 0 rfl rfl (i := i) (by omega) (by omega) (by omega) d_Ro_hasWithin_25 ?_
          have hv_1 := hb30 i
          refine lv_iload_n hx hb d_Ro_hasWithin_26 rfl (lv_at hl 2 rfl) ?_
          refine k_icmp_gt (tgt := 32) hx hb d_Ro_hasWithin_27 (by decide) ⟨by omega, by omega⟩ ⟨by omega, by omega⟩ (fun c_27 => ?_) (fun c_27 => ?_)
          · refine k_iinc (v := ↑(i + 1)) (lv' := [(3, .int (zI (↑(i + 1)))), (0, .ref h), (1, .int (zI ↑lo)), (2, .int (zI ↑hi))]) hx hb d_Ro_hasWithin_32 hl (k := 3) rfl (by omega) (by decide) rfl ?_
            clear hl; intro ls hl
            refine lv_goto (tgt := 6) hx hb d_Ro_hasWithin_35 (by decide) ?_
            exact ih_6 (i + 1) (by omega) (by rw [rHW] at hgo; (repeat' split at hgo); all_goals first | exact hgo | (exfalso; omega) | contradiction) _ _ _ hP hD hS (lv_sub hl [1, 2, 3, 0] rfl)
          · refine lv_iconst (v := zI 1) hx hb d_Ro_hasWithin_30 (by decide) ?_
            rw [← hQf]
            exact k_zret hx hb hr hlocks hP hS (k_bt (by rw [rHW] at hgo; (repeat' split at hgo); all_goals first | exact hgo.symm | (exfalso; omega))).symm d_Ro_hasWithin_31
  exact loop_6 (30 - lo) lo (by omega) rfl _ _ _ hP hD hS (lv_sub hl [1, 2, 3, 0] rfl)

abbrev rm_Row_hasAround : Room := { frames := 2, cells := 0, slots := 0, locals := 41 }
set_option maxHeartbeats 4000000 in
set_option maxRecDepth 100000 in
theorem c_Row_hasAround (l : Launch) (D : va_G) (cI cR cG : ClassId) (h e lo hi : Nat) (b : Nat → Nat) (hlo : lo < 30) (hhi : hi ≤ 30) (hb30 : ∀ j, b j ≤ 30) : k_M l y_Ro_hasAround (.code y_Ro_hasAround b_Ro_hasAround 4 (some .boolean) :: kW) rm_Row_hasAround D k_cl (k_ty cI cR cG) [.ref h, .int (zI ↑lo), .int (zI ↑hi)] ([(h, .inr (2, [.ref e])), (e, .inl (cI, 30, .inl (kA b)))]) (k_Qi D k_cl (k_b (rHA b lo hi 30 0 = true)) [(h, .inr (2, [.ref e])), (e, .inl (cI, 30, .inl (kA b)))]) := by
  refine k_start (cc := b_Ro_hasAround) (maxL := 4) (ret := (some .boolean)) (by decide) rfl (Nat.le_of_ble_eq_true rfl) ?_
  intro p ev s m ar below meth c A ls Qf hQf hx hb hr hml hts hown hlocks hin hK hG hA hP hD hS hl
  replace hown : s.vm.findClass R_Ro = some m.cls := hown
  replace hl : lv_has ls 4 [(0, .ref h), (1, .int (zI ↑lo)), (2, .int (zI ↑hi))] := hl
  have hkw : ∀ w ∈ kW, w.before ar s = true := fun w h => hts w (List.mem_cons_of_mem _ h)
  replace hP : va_P D k_cl ([(h, .inr (2, [.ref e])), (e, .inl (cI, 30, .inl (kA b)))]) s.heap := hP
  replace hD : va_D A ([(h, .inr (2, [.ref e])), (e, .inl (cI, 30, .inl (kA b)))]) := hD
  refine lv_iconst (v := zI 0) hx hb d_Ro_hasAround_0 (by decide) ?_
  refine lv_istore_n (lv' := [(3, .int (zI 0)), (0, .ref h), (1, .int (zI ↑lo)), (2, .int (zI ↑hi))]) hx hb d_Ro_hasAround_1 rfl hl (by decide) rfl ?_
  clear hl; intro ls hl
  have loop_2 : ∀ (n : Nat) (i : Nat), (i + n = 30) → (rHA b lo hi n i = rHA b lo hi 30 0) → ∀ (H : Heap) (locs : List Loc) (ls : Array Slot), va_P D k_cl ([(h, .inr (2, [.ref e])), (e, .inl (cI, 30, .inl (kA b)))]) H → va_D A ([(h, .inr (2, [.ref e])), (e, .inl (cI, 30, .inl (kA b)))]) → va_S A s.heap H locs → lv_has ls 4 [(0, .ref h), (1, .int (zI ↑lo)), (2, .int (zI ↑hi)), (3, .int (zI ↑i))] → W p l ev rm_Row_hasAround s m ar below meth c H locs 0 0 Qf (F0 m 2 ls []) := by
    intro n
    induction n with
    | zero =>
      intro i hin hgo H locs ls hP hD hS hl
      refine lv_iload_n hx hb d_Ro_hasAround_2 rfl (lv_at hl 3 rfl) ?_
      refine lv_bipush (v := zI 30) hx hb d_Ro_hasAround_3 (by decide) ?_
      refine k_icmp_ge (tgt := 39) hx hb d_Ro_hasAround_5 (by decide) ⟨by omega, by omega⟩ ⟨by omega, by omega⟩ (fun c_5 => ?_) (fun c_5 => ?_)
      · refine lv_iconst (v := zI 0) hx hb d_Ro_hasAround_39 (by decide) ?_
        rw [← hQf]
        exact k_zret hx hb hr hlocks hP hS (k_bf (by rw [← hgo]; simp [rHA])).symm d_Ro_hasAround_40
      · exfalso; omega
    | succ n ih_2 =>
      intro i hin hgo H locs ls hP hD hS hl
      refine lv_iload_n hx hb d_Ro_hasAround_2 rfl (lv_at hl 3 rfl) ?_
      refine lv_bipush (v := zI 30) hx hb d_Ro_hasAround_3 (by decide) ?_
      refine k_icmp_ge (tgt := 39) hx hb d_Ro_hasAround_5 (by decide) ⟨by omega, by omega⟩ ⟨by omega, by omega⟩ (fun c_5 => ?_) (fun c_5 => ?_)
      · exfalso; omega
      · refine lv_iload_n hx hb d_Ro_hasAround_8 rfl (lv_at hl 3 rfl) ?_
        refine lv_iload_n hx hb d_Ro_hasAround_9 rfl (lv_at hl 1 rfl) ?_
        refine k_icmp_gt (tgt := 39) hx hb d_Ro_hasAround_10 (by decide) ⟨by omega, by omega⟩ ⟨by omega, by omega⟩ (fun c_10 => ?_) (fun c_10 => ?_)
        · refine lv_iconst (v := zI 0) hx hb d_Ro_hasAround_39 (by decide) ?_
          rw [← hQf]
          exact k_zret hx hb hr hlocks hP hS (k_bf (by rw [← hgo, rHA]; (repeat' split); all_goals first | (exfalso; omega) | simp)).symm d_Ro_hasAround_40
        · refine lv_aload_n hx hb d_Ro_hasAround_13 rfl (lv_at hl 0 rfl) ?_
          refine lv_iload_n hx hb d_Ro_hasAround_14 rfl (lv_at hl 3 rfl) ?_
          refine k_beI (va_runV (As := [.int (zI ↑i)]) (rest := []) ⟨hx, hb, hml, hown, hkw⟩ (c_Row_beginsAt l D cI cR cG h e i b (by omega) hb30 _) (cwV 1 hkw (k_gV kw_methodLink_Ro_25 kw_instanceMethod_Ro_beginsAt kw_selects_Ro_beginsAt kw_initialized_Ro kw_code_Ro_beginsAt) rfl rfl rfl (by decide +kernel) ⟨(Nat.le_of_ble_eq_true rfl), (Nat.le_of_ble_eq_true rfl)⟩) (k_preV (q0 := 0) hK hG hP hD [0, 1] rfl rfl rfl rfl) rfl rfl hl.1 rfl (lv_room (Nat.le_of_ble_eq_true rfl)) d_Ro_hasAround_15 ⟨Nat.zero_le _, Nat.zero_le _⟩) hP hD hS hA [0, 1] rfl (Eq.trans (b := [h, e]) rfl rfl) ?_
          clear hP hD hS; intro H locs hP hD hS
          replace hP : va_P D k_cl ([(h, .inr (2, [.ref e])), (e, .inl (cI, 30, .inl (kA b)))]) H := hP
          replace hD : va_D A ([(h, .inr (2, [.ref e])), (e, .inl (cI, 30, .inl (kA b)))]) := hD
          refine k_bif_eq (tgt := 33) hx hb d_Ro_hasAround_18 (by decide) (fun c_18 => ?_) (fun c_18 => ?_)
          · refine k_iinc (v := ↑(i + 1)) (lv' := [(3, .int (zI (↑(i + 1)))), (0, .ref h), (1, .int (zI ↑lo)), (2, .int (zI ↑hi))]) hx hb d_Ro_hasAround_33 hl (k := 3) rfl (by omega) (by decide) rfl ?_
            clear hl; intro ls hl
            refine lv_goto (tgt := 2) hx hb d_Ro_hasAround_36 (by decide) ?_
            exact ih_2 (i + 1) (by omega) (by rw [rHA] at hgo; (repeat' split at hgo); all_goals first | exact hgo | (exfalso; omega) | contradiction) _ _ _ hP hD hS (lv_sub hl [1, 2, 3, 0] rfl)
          · refine lv_aload_n hx hb d_Ro_hasAround_21 rfl (lv_at hl 0 rfl) ?_
            refine va_get (D := D) (ci := 2) (v := .ref e) (C := R_Ro) (T := T_Ro) (N := 1) hx hb hkw kin_Ro hown hK hP 0 rfl rfl 0 (by decide) (hkw _ kw_fieldLink_Ro_9) (fun _ h9 => h9) rfl d_Ro_hasAround_22 ?_
            refine lv_iload_n hx hb d_Ro_hasAround_25 rfl (lv_at hl 3 rfl) ?_
            refine k_ald hx hb hK hP 1 0 rfl rfl (i := i) (by omega) (by omega) (by omega) d_Ro_hasAround_26 ?_
            have hv_1 := hb30 i
            refine lv_iload_n hx hb d_Ro_hasAround_27 rfl (lv_at hl 2 rfl) ?_
            refine k_icmp_lt (tgt := 33) hx hb d_Ro_hasAround_28 (by decide) ⟨by omega, by omega⟩ ⟨by omega, by omega⟩ (fun c_28 => ?_) (fun c_28 => ?_)
            · refine k_iinc (v := ↑(i + 1)) (lv' := [(3, .int (zI (↑(i + 1)))), (0, .ref h), (1, .int (zI ↑lo)), (2, .int (zI ↑hi))]) hx hb d_Ro_hasAround_33 hl (k := 3) rfl (by omega) (by decide) rfl ?_
              clear hl; intro ls hl
              refine lv_goto (tgt := 2) hx hb d_Ro_hasAround_36 (by decide) ?_
              exact ih_2 (i + 1) (by omega) (by rw [rHA] at hgo; (repeat' split at hgo); all_goals first | exact hgo | (exfalso; omega) | contradiction) _ _ _ hP hD hS (lv_sub hl [1, 2, 3, 0] rfl)
            · refine lv_iconst (v := zI 1) hx hb d_Ro_hasAround_31 (by decide) ?_
              rw [← hQf]
              exact k_zret hx hb hr hlocks hP hS (k_bt (by rw [rHA] at hgo; (repeat' split at hgo); all_goals first | exact hgo.symm | (exfalso; omega))).symm d_Ro_hasAround_32
  exact loop_2 30 0 (by omega) rfl _ _ _ hP hD hS (lv_sub hl [1, 2, 3, 0] rfl)

abbrev rm_Row_hasNear : Room := { frames := 2, cells := 0, slots := 0, locals := 41 }
set_option maxHeartbeats 4000000 in
set_option maxRecDepth 100000 in
theorem c_Row_hasNear (l : Launch) (D : va_G) (cI cR cG : ClassId) (h e lo hi : Nat) (k : Int) (b : Nat → Nat) (hlo : lo < 30) (hhi : hi ≤ 30) (hk : -1 ≤ k ∧ k ≤ 30) (hb30 : ∀ j, b j ≤ 30) : k_M l y_Ro_hasNear (.code y_Ro_hasNear b_Ro_hasNear 5 (some .boolean) :: kW) rm_Row_hasNear D k_cl (k_ty cI cR cG) [.ref h, .int (zI ↑lo), .int (zI ↑hi), .int (zI k)] ([(h, .inr (2, [.ref e])), (e, .inl (cI, 30, .inl (kA b)))]) (k_Qi D k_cl (k_b (rHN b lo hi k 30 0 = true)) [(h, .inr (2, [.ref e])), (e, .inl (cI, 30, .inl (kA b)))]) := by
  refine k_start (cc := b_Ro_hasNear) (maxL := 5) (ret := (some .boolean)) (by decide) rfl (Nat.le_of_ble_eq_true rfl) ?_
  intro p ev s m ar below meth c A ls Qf hQf hx hb hr hml hts hown hlocks hin hK hG hA hP hD hS hl
  replace hown : s.vm.findClass R_Ro = some m.cls := hown
  replace hl : lv_has ls 5 [(0, .ref h), (1, .int (zI ↑lo)), (2, .int (zI ↑hi)), (3, .int (zI k))] := hl
  have hkw : ∀ w ∈ kW, w.before ar s = true := fun w h => hts w (List.mem_cons_of_mem _ h)
  replace hP : va_P D k_cl ([(h, .inr (2, [.ref e])), (e, .inl (cI, 30, .inl (kA b)))]) s.heap := hP
  replace hD : va_D A ([(h, .inr (2, [.ref e])), (e, .inl (cI, 30, .inl (kA b)))]) := hD
  refine lv_iconst (v := zI 0) hx hb d_Ro_hasNear_0 (by decide) ?_
  refine lv_istore (lv' := [(4, .int (zI 0)), (0, .ref h), (1, .int (zI ↑lo)), (2, .int (zI ↑hi)), (3, .int (zI k))]) hx hb d_Ro_hasNear_1 hl (by decide) rfl ?_
  clear hl; intro ls hl
  have loop_3 : ∀ (n : Nat) (i : Nat), (i + n = 30) → (rHN b lo hi k n i = rHN b lo hi k 30 0) → ∀ (H : Heap) (locs : List Loc) (ls : Array Slot), va_P D k_cl ([(h, .inr (2, [.ref e])), (e, .inl (cI, 30, .inl (kA b)))]) H → va_D A ([(h, .inr (2, [.ref e])), (e, .inl (cI, 30, .inl (kA b)))]) → va_S A s.heap H locs → lv_has ls 5 [(0, .ref h), (1, .int (zI ↑lo)), (2, .int (zI ↑hi)), (3, .int (zI k)), (4, .int (zI ↑i))] → W p l ev rm_Row_hasNear s m ar below meth c H locs 0 0 Qf (F0 m 3 ls []) := by
    intro n
    induction n with
    | zero =>
      intro i hin hgo H locs ls hP hD hS hl
      refine lv_iload hx hb d_Ro_hasNear_3 (lv_at hl 4 rfl) ?_
      refine lv_bipush (v := zI 30) hx hb d_Ro_hasNear_5 (by decide) ?_
      refine k_icmp_ge (tgt := 52) hx hb d_Ro_hasNear_7 (by decide) ⟨by omega, by omega⟩ ⟨by omega, by omega⟩ (fun c_7 => ?_) (fun c_7 => ?_)
      · refine lv_iconst (v := zI 0) hx hb d_Ro_hasNear_52 (by decide) ?_
        rw [← hQf]
        exact k_zret hx hb hr hlocks hP hS (k_bf (by rw [← hgo]; simp [rHN])).symm d_Ro_hasNear_53
      · exfalso; omega
    | succ n ih_3 =>
      intro i hin hgo H locs ls hP hD hS hl
      refine lv_iload hx hb d_Ro_hasNear_3 (lv_at hl 4 rfl) ?_
      refine lv_bipush (v := zI 30) hx hb d_Ro_hasNear_5 (by decide) ?_
      refine k_icmp_ge (tgt := 52) hx hb d_Ro_hasNear_7 (by decide) ⟨by omega, by omega⟩ ⟨by omega, by omega⟩ (fun c_7 => ?_) (fun c_7 => ?_)
      · exfalso; omega
      · refine lv_aload_n hx hb d_Ro_hasNear_10 rfl (lv_at hl 0 rfl) ?_
        refine lv_iload hx hb d_Ro_hasNear_11 (lv_at hl 4 rfl) ?_
        refine k_beI (va_runV (As := [.int (zI ↑i)]) (rest := []) ⟨hx, hb, hml, hown, hkw⟩ (c_Row_beginsAt l D cI cR cG h e i b (by omega) hb30 _) (cwV 1 hkw (k_gV kw_methodLink_Ro_25 kw_instanceMethod_Ro_beginsAt kw_selects_Ro_beginsAt kw_initialized_Ro kw_code_Ro_beginsAt) rfl rfl rfl (by decide +kernel) ⟨(Nat.le_of_ble_eq_true rfl), (Nat.le_of_ble_eq_true rfl)⟩) (k_preV (q0 := 0) hK hG hP hD [0, 1] rfl rfl rfl rfl) rfl rfl hl.1 rfl (lv_room (Nat.le_of_ble_eq_true rfl)) d_Ro_hasNear_13 ⟨Nat.zero_le _, Nat.zero_le _⟩) hP hD hS hA [0, 1] rfl (Eq.trans (b := [h, e]) rfl rfl) ?_
        clear hP hD hS; intro H locs hP hD hS
        replace hP : va_P D k_cl ([(h, .inr (2, [.ref e])), (e, .inl (cI, 30, .inl (kA b)))]) H := hP
        replace hD : va_D A ([(h, .inr (2, [.ref e])), (e, .inl (cI, 30, .inl (kA b)))]) := hD
        refine k_bif_eq (tgt := 46) hx hb d_Ro_hasNear_16 (by decide) (fun c_16 => ?_) (fun c_16 => ?_)
        · refine k_iinc (v := ↑(i + 1)) (lv' := [(4, .int (zI (↑(i + 1)))), (0, .ref h), (1, .int (zI ↑lo)), (2, .int (zI ↑hi)), (3, .int (zI k))]) hx hb d_Ro_hasNear_46 hl (k := 4) rfl (by omega) (by decide) rfl ?_
          clear hl; intro ls hl
          refine lv_goto (tgt := 3) hx hb d_Ro_hasNear_49 (by decide) ?_
          exact ih_3 (i + 1) (by omega) (by rw [rHN] at hgo; (repeat' split at hgo); all_goals first | exact hgo | (exfalso; omega) | contradiction) _ _ _ hP hD hS (lv_sub hl [1, 2, 3, 4, 0] rfl)
        · refine lv_iload hx hb d_Ro_hasNear_19 (lv_at hl 4 rfl) ?_
          refine lv_iload_n hx hb d_Ro_hasNear_21 rfl (lv_at hl 2 rfl) ?_
          refine k_isub hx hb d_Ro_hasNear_22 rfl ?_
          refine lv_iconst (v := zI 1) hx hb d_Ro_hasNear_23 (by decide) ?_
          refine k_isub hx hb d_Ro_hasNear_24 rfl ?_
          refine lv_iload_n hx hb d_Ro_hasNear_25 rfl (lv_at hl 3 rfl) ?_
          refine k_icmp_gt (tgt := 46) hx hb d_Ro_hasNear_26 (by decide) ⟨by omega, by omega⟩ ⟨by omega, by omega⟩ (fun c_26 => ?_) (fun c_26 => ?_)
          · refine k_iinc (v := ↑(i + 1)) (lv' := [(4, .int (zI (↑(i + 1)))), (0, .ref h), (1, .int (zI ↑lo)), (2, .int (zI ↑hi)), (3, .int (zI k))]) hx hb d_Ro_hasNear_46 hl (k := 4) rfl (by omega) (by decide) rfl ?_
            clear hl; intro ls hl
            refine lv_goto (tgt := 3) hx hb d_Ro_hasNear_49 (by decide) ?_
            exact ih_3 (i + 1) (by omega) (by rw [rHN] at hgo; (repeat' split at hgo); all_goals first | exact hgo | (exfalso; omega) | contradiction) _ _ _ hP hD hS (lv_sub hl [1, 2, 3, 4, 0] rfl)
          · refine lv_iload_n hx hb d_Ro_hasNear_29 rfl (lv_at hl 1 rfl) ?_
            refine lv_aload_n hx hb d_Ro_hasNear_30 rfl (lv_at hl 0 rfl) ?_
            refine va_get (D := D) (ci := 2) (v := .ref e) (C := R_Ro) (T := T_Ro) (N := 1) hx hb hkw kin_Ro hown hK hP 0 rfl rfl 0 (by decide) (hkw _ kw_fieldLink_Ro_9) (fun _ h9 => h9) rfl d_Ro_hasNear_31 ?_
            refine lv_iload hx hb d_Ro_hasNear_34 (lv_at hl 4 rfl) ?_
            refine k_ald hx hb hK hP 1 0 rfl rfl (i := i) (by omega) (by omega) (by omega) d_Ro_hasNear_36 ?_
            have hv_1 := hb30 i
            refine k_isub hx hb d_Ro_hasNear_37 rfl ?_
            refine lv_iconst (v := zI 1) hx hb d_Ro_hasNear_38 (by decide) ?_
            refine k_isub hx hb d_Ro_hasNear_39 rfl ?_
            refine lv_iload_n hx hb d_Ro_hasNear_40 rfl (lv_at hl 3 rfl) ?_
            refine k_icmp_gt (tgt := 46) hx hb d_Ro_hasNear_41 (by decide) ⟨by omega, by omega⟩ ⟨by omega, by omega⟩ (fun c_41 => ?_) (fun c_41 => ?_)
            · refine k_iinc (v := ↑(i + 1)) (lv' := [(4, .int (zI (↑(i + 1)))), (0, .ref h), (1, .int (zI ↑lo)), (2, .int (zI ↑hi)), (3, .int (zI k))]) hx hb d_Ro_hasNear_46 hl (k := 4) rfl (by omega) (by decide) rfl ?_
              clear hl; intro ls hl
              refine lv_goto (tgt := 3) hx hb d_Ro_hasNear_49 (by decide) ?_
              exact ih_3 (i + 1) (by omega) (by rw [rHN] at hgo; (repeat' split at hgo); all_goals first | exact hgo | (exfalso; omega) | contradiction) _ _ _ hP hD hS (lv_sub hl [1, 2, 3, 4, 0] rfl)
            · refine lv_iconst (v := zI 1) hx hb d_Ro_hasNear_44 (by decide) ?_
              rw [← hQf]
              exact k_zret hx hb hr hlocks hP hS (k_bt (by rw [rHN] at hgo; (repeat' split at hgo); all_goals first | exact hgo.symm | (exfalso; omega))).symm d_Ro_hasNear_45
  exact loop_3 30 0 (by omega) rfl _ _ _ hP hD hS (lv_sub hl [1, 2, 3, 4, 0] rfl)

abbrev rm_Row_addBehind : Room := { frames := 3, cells := 0, slots := 0, locals := 67 }
set_option maxHeartbeats 4000000 in
set_option maxRecDepth 100000 in
theorem c_Row_addBehind (l : Launch) (D : va_G) (cI cR cG : ClassId) (h e ha ea hb2 eb k : Nat) (G0 a b : Nat → Nat) (hk : k ≤ 30) (hG0 : ∀ j, G0 j ≤ 30) (ha30 : ∀ j, a j ≤ 30) (hb30 : ∀ j, b j ≤ 30) : k_M l y_Ro_addBehind (.code y_Ro_addBehind b_Ro_addBehind 5 none :: kW) rm_Row_addBehind D k_cl (k_ty cI cR cG) [.ref h, .ref ha, .ref hb2, .int (zI ↑k)] ([(h, .inr (2, [.ref e])), (e, .inl (cI, 30, .inl (kA G0))), (ha, .inr (2, [.ref ea])), (ea, .inl (cI, 30, .inl (kA a))), (hb2, .inr (2, [.ref eb])), (eb, .inl (cI, 30, .inl (kA b)))]) (k_Qv D k_cl [(h, .inr (2, [.ref e])), (e, .inl (cI, 30, .inl (kA (rBehind a b k 30 0 G0)))), (ha, .inr (2, [.ref ea])), (ea, .inl (cI, 30, .inl (kA a))), (hb2, .inr (2, [.ref eb])), (eb, .inl (cI, 30, .inl (kA b)))]) := by
  refine k_start (cc := b_Ro_addBehind) (maxL := 5) (ret := none) (by decide) rfl (Nat.le_of_ble_eq_true rfl) ?_
  intro p ev s m ar below meth c A ls Qf hQf hx hb hr hml hts hown hlocks hin hK hG hA hP hD hS hl
  replace hown : s.vm.findClass R_Ro = some m.cls := hown
  replace hl : lv_has ls 5 [(0, .ref h), (1, .ref ha), (2, .ref hb2), (3, .int (zI ↑k))] := hl
  have hkw : ∀ w ∈ kW, w.before ar s = true := fun w h => hts w (List.mem_cons_of_mem _ h)
  replace hP : va_P D k_cl ([(h, .inr (2, [.ref e])), (e, .inl (cI, 30, .inl (kA G0))), (ha, .inr (2, [.ref ea])), (ea, .inl (cI, 30, .inl (kA a))), (hb2, .inr (2, [.ref eb])), (eb, .inl (cI, 30, .inl (kA b)))]) s.heap := hP
  replace hD : va_D A ([(h, .inr (2, [.ref e])), (e, .inl (cI, 30, .inl (kA G0))), (ha, .inr (2, [.ref ea])), (ea, .inl (cI, 30, .inl (kA a))), (hb2, .inr (2, [.ref eb])), (eb, .inl (cI, 30, .inl (kA b)))]) := hD
  refine lv_iconst (v := zI 0) hx hb d_Ro_addBehind_0 (by decide) ?_
  refine lv_istore (lv' := [(4, .int (zI 0)), (0, .ref h), (1, .ref ha), (2, .ref hb2), (3, .int (zI ↑k))]) hx hb d_Ro_addBehind_1 hl (by decide) rfl ?_
  clear hl; intro ls hl
  have loop_3 : ∀ (n : Nat) (i : Nat) (F : Nat → Nat), (i + n = 30) → (∀ j, F j ≤ 30) → (rBehind a b k n i F = rBehind a b k 30 0 G0) → ∀ (H : Heap) (locs : List Loc) (ls : Array Slot), va_P D k_cl ([(h, .inr (2, [.ref e])), (e, .inl (cI, 30, .inl (kA F))), (ha, .inr (2, [.ref ea])), (ea, .inl (cI, 30, .inl (kA a))), (hb2, .inr (2, [.ref eb])), (eb, .inl (cI, 30, .inl (kA b)))]) H → va_D A ([(h, .inr (2, [.ref e])), (e, .inl (cI, 30, .inl (kA F))), (ha, .inr (2, [.ref ea])), (ea, .inl (cI, 30, .inl (kA a))), (hb2, .inr (2, [.ref eb])), (eb, .inl (cI, 30, .inl (kA b)))]) → va_S A s.heap H locs → lv_has ls 5 [(0, .ref h), (1, .ref ha), (2, .ref hb2), (3, .int (zI ↑k)), (4, .int (zI ↑i))] → W p l ev rm_Row_addBehind s m ar below meth c H locs 0 0 Qf (F0 m 3 ls []) := by
    intro n
    induction n with
    | zero =>
      intro i F hin hF hgo H locs ls hP hD hS hl
      refine lv_iload hx hb d_Ro_addBehind_3 (lv_at hl 4 rfl) ?_
      refine lv_bipush (v := zI 30) hx hb d_Ro_addBehind_5 (by decide) ?_
      refine k_icmp_ge (tgt := 40) hx hb d_Ro_addBehind_7 (by decide) ⟨by omega, by omega⟩ ⟨by omega, by omega⟩ (fun c_7 => ?_) (fun c_7 => ?_)
      · rw [← hQf]
        have hP : va_P D k_cl [(h, .inr (2, [.ref e])), (e, .inl (cI, 30, .inl (kA (rBehind a b k 30 0 G0)))), (ha, .inr (2, [.ref ea])), (ea, .inl (cI, 30, .inl (kA a))), (hb2, .inr (2, [.ref eb])), (eb, .inl (cI, 30, .inl (kA b)))] H := by
          rw [show rBehind a b k 30 0 G0 = F from hgo.symm]
          exact hP
        exact k_vret hx hb hr hlocks hP hS d_Ro_addBehind_40
      · exfalso; omega
    | succ n ih_3 =>
      intro i F hin hF hgo H locs ls hP hD hS hl
      refine lv_iload hx hb d_Ro_addBehind_3 (lv_at hl 4 rfl) ?_
      refine lv_bipush (v := zI 30) hx hb d_Ro_addBehind_5 (by decide) ?_
      refine k_icmp_ge (tgt := 40) hx hb d_Ro_addBehind_7 (by decide) ⟨by omega, by omega⟩ ⟨by omega, by omega⟩ (fun c_7 => ?_) (fun c_7 => ?_)
      · exfalso; omega
      · refine lv_aload_n hx hb d_Ro_addBehind_10 rfl (lv_at hl 1 rfl) ?_
        refine lv_iload hx hb d_Ro_addBehind_11 (lv_at hl 4 rfl) ?_
        refine k_beI (va_runV (As := [.int (zI ↑i)]) (rest := []) ⟨hx, hb, hml, hown, hkw⟩ (c_Row_beginsAt l D cI cR cG ha ea i a (by omega) ha30 _) (cwV 1 hkw (k_gV kw_methodLink_Ro_25 kw_instanceMethod_Ro_beginsAt kw_selects_Ro_beginsAt kw_initialized_Ro kw_code_Ro_beginsAt) rfl rfl rfl (by decide +kernel) ⟨(Nat.le_of_ble_eq_true rfl), (Nat.le_of_ble_eq_true rfl)⟩) (k_preV (q0 := 0) hK hG hP hD [2, 3] rfl rfl rfl rfl) rfl rfl hl.1 rfl (lv_room (Nat.le_of_ble_eq_true rfl)) d_Ro_addBehind_13 ⟨Nat.zero_le _, Nat.zero_le _⟩) hP hD hS hA [2, 3] rfl (Eq.trans (b := [ha, ea]) rfl rfl) ?_
        clear hP hD hS; intro H locs hP hD hS
        replace hP : va_P D k_cl ([(h, .inr (2, [.ref e])), (e, .inl (cI, 30, .inl (kA F))), (ha, .inr (2, [.ref ea])), (ea, .inl (cI, 30, .inl (kA a))), (hb2, .inr (2, [.ref eb])), (eb, .inl (cI, 30, .inl (kA b)))]) H := hP
        replace hD : va_D A ([(h, .inr (2, [.ref e])), (e, .inl (cI, 30, .inl (kA F))), (ha, .inr (2, [.ref ea])), (ea, .inl (cI, 30, .inl (kA a))), (hb2, .inr (2, [.ref eb])), (eb, .inl (cI, 30, .inl (kA b)))]) := hD
        refine k_bif_eq (tgt := 34) hx hb d_Ro_addBehind_16 (by decide) (fun c_16 => ?_) (fun c_16 => ?_)
        · refine k_iinc (v := ↑(i + 1)) (lv' := [(4, .int (zI (↑(i + 1)))), (0, .ref h), (1, .ref ha), (2, .ref hb2), (3, .int (zI ↑k))]) hx hb d_Ro_addBehind_34 hl (k := 4) rfl (by omega) (by decide) rfl ?_
          clear hl; intro ls hl
          refine lv_goto (tgt := 3) hx hb d_Ro_addBehind_37 (by decide) ?_
          exact ih_3 (i + 1) F (by omega) hF (by rw [rBehind] at hgo; (repeat' split at hgo); all_goals first | exact hgo | (exfalso; omega) | contradiction) _ _ _ hP hD hS (lv_sub hl [1, 2, 3, 4, 0] rfl)
        · refine lv_aload_n hx hb d_Ro_addBehind_19 rfl (lv_at hl 0 rfl) ?_
          refine lv_iload hx hb d_Ro_addBehind_20 (lv_at hl 4 rfl) ?_
          refine lv_aload_n hx hb d_Ro_addBehind_22 rfl (lv_at hl 1 rfl) ?_
          refine va_get (D := D) (ci := 2) (v := .ref ea) (C := R_Ro) (T := T_Ro) (N := 1) hx hb hkw kin_Ro hown hK hP 2 rfl rfl 0 (by decide) (hkw _ kw_fieldLink_Ro_9) (fun _ h9 => h9) rfl d_Ro_addBehind_23 ?_
          refine lv_iload hx hb d_Ro_addBehind_26 (lv_at hl 4 rfl) ?_
          refine k_ald hx hb hK hP 3 0 rfl rfl (i := i) (by omega) (by omega) (by omega) d_Ro_addBehind_28 ?_
          have hv_1 := ha30 i
          refine lv_aload_n hx hb d_Ro_addBehind_29 rfl (lv_at hl 2 rfl) ?_
          refine lv_iload_n hx hb d_Ro_addBehind_30 rfl (lv_at hl 3 rfl) ?_
          refine k_beV (va_runV (As := [.int (zI ↑i), .int (zI (↑(a i))), .ref hb2, .int (zI ↑k)]) (rest := []) ⟨hx, hb, hml, hown, hkw⟩ (c_Row_addBehindOne l D cI cR cG h e hb2 eb i (a i) k F b (by omega) (by omega) (by omega) hF hb30 _) (cwV 4 hkw (k_gV kw_methodLink_Ro_46 kw_instanceMethod_Ro_addBehindOne kw_selects_Ro_addBehindOne kw_initialized_Ro kw_code_Ro_addBehindOne) rfl rfl rfl (by decide +kernel) ⟨(Nat.le_of_ble_eq_true rfl), (Nat.le_of_ble_eq_true rfl)⟩) (k_preV (q0 := 0) hK hG hP hD [0, 1, 4, 5] rfl rfl rfl rfl) rfl rfl hl.1 rfl (lv_room (Nat.le_of_ble_eq_true rfl)) d_Ro_addBehind_31 ⟨Nat.zero_le _, Nat.zero_le _⟩) hP hD hS hA [0, 1, 4, 5] rfl (Eq.trans (b := [h, e, hb2, eb]) rfl rfl) ?_
          clear hP hD hS; intro H locs hP hD hS
          replace hP : va_P D k_cl ([(h, .inr (2, [.ref e])), (e, .inl (cI, 30, .inl (kA (rBehind1 b i (a i) k (29 - (a i)) ((a i) + 1) F)))), (ha, .inr (2, [.ref ea])), (ea, .inl (cI, 30, .inl (kA a))), (hb2, .inr (2, [.ref eb])), (eb, .inl (cI, 30, .inl (kA b)))]) H := hP
          replace hD : va_D A ([(h, .inr (2, [.ref e])), (e, .inl (cI, 30, .inl (kA (rBehind1 b i (a i) k (29 - (a i)) ((a i) + 1) F)))), (ha, .inr (2, [.ref ea])), (ea, .inl (cI, 30, .inl (kA a))), (hb2, .inr (2, [.ref eb])), (eb, .inl (cI, 30, .inl (kA b)))]) := hD
          refine k_iinc (v := ↑(i + 1)) (lv' := [(4, .int (zI (↑(i + 1)))), (0, .ref h), (1, .ref ha), (2, .ref hb2), (3, .int (zI ↑k))]) hx hb d_Ro_addBehind_34 hl (k := 4) rfl (by omega) (by decide) rfl ?_
          clear hl; intro ls hl
          refine lv_goto (tgt := 3) hx hb d_Ro_addBehind_37 (by decide) ?_
          exact ih_3 (i + 1) (rBehind1 b i (a i) k (29 - (a i)) ((a i) + 1) F) (by omega) (r_bd_rBehind1 hF hb30) (by rw [rBehind] at hgo; (repeat' split at hgo); all_goals first | exact hgo | (exfalso; omega) | contradiction) _ _ _ hP hD hS (lv_sub hl [1, 2, 3, 4, 0] rfl)
  exact loop_3 30 0 G0 (by omega) hG0 rfl _ _ _ hP hD hS (lv_sub hl [1, 2, 3, 4, 0] rfl)

abbrev rm_Row_addBoth : Room := { frames := 3, cells := 0, slots := 0, locals := 69 }
set_option maxHeartbeats 4000000 in
set_option maxRecDepth 100000 in
theorem c_Row_addBoth (l : Launch) (D : va_G) (cI cR cG : ClassId) (h e ha ea hb2 eb k : Nat) (G0 a b : Nat → Nat) (hk : k ≤ 30) (hG0 : ∀ j, G0 j ≤ 30) (ha30 : ∀ j, a j ≤ 30) (hb30 : ∀ j, b j ≤ 30) : k_M l y_Ro_addBoth (.code y_Ro_addBoth b_Ro_addBoth 5 none :: kW) rm_Row_addBoth D k_cl (k_ty cI cR cG) [.ref h, .ref ha, .ref hb2, .int (zI ↑k)] ([(h, .inr (2, [.ref e])), (e, .inl (cI, 30, .inl (kA G0))), (ha, .inr (2, [.ref ea])), (ea, .inl (cI, 30, .inl (kA a))), (hb2, .inr (2, [.ref eb])), (eb, .inl (cI, 30, .inl (kA b)))]) (k_Qv D k_cl [(h, .inr (2, [.ref e])), (e, .inl (cI, 30, .inl (kA (rBoth a b k 30 0 G0)))), (ha, .inr (2, [.ref ea])), (ea, .inl (cI, 30, .inl (kA a))), (hb2, .inr (2, [.ref eb])), (eb, .inl (cI, 30, .inl (kA b)))]) := by
  refine k_start (cc := b_Ro_addBoth) (maxL := 5) (ret := none) (by decide) rfl (Nat.le_of_ble_eq_true rfl) ?_
  intro p ev s m ar below meth c A ls Qf hQf hx hb hr hml hts hown hlocks hin hK hG hA hP hD hS hl
  replace hown : s.vm.findClass R_Ro = some m.cls := hown
  replace hl : lv_has ls 5 [(0, .ref h), (1, .ref ha), (2, .ref hb2), (3, .int (zI ↑k))] := hl
  have hkw : ∀ w ∈ kW, w.before ar s = true := fun w h => hts w (List.mem_cons_of_mem _ h)
  replace hP : va_P D k_cl ([(h, .inr (2, [.ref e])), (e, .inl (cI, 30, .inl (kA G0))), (ha, .inr (2, [.ref ea])), (ea, .inl (cI, 30, .inl (kA a))), (hb2, .inr (2, [.ref eb])), (eb, .inl (cI, 30, .inl (kA b)))]) s.heap := hP
  replace hD : va_D A ([(h, .inr (2, [.ref e])), (e, .inl (cI, 30, .inl (kA G0))), (ha, .inr (2, [.ref ea])), (ea, .inl (cI, 30, .inl (kA a))), (hb2, .inr (2, [.ref eb])), (eb, .inl (cI, 30, .inl (kA b)))]) := hD
  refine lv_iconst (v := zI 0) hx hb d_Ro_addBoth_0 (by decide) ?_
  refine lv_istore (lv' := [(4, .int (zI 0)), (0, .ref h), (1, .ref ha), (2, .ref hb2), (3, .int (zI ↑k))]) hx hb d_Ro_addBoth_1 hl (by decide) rfl ?_
  clear hl; intro ls hl
  have loop_3 : ∀ (n : Nat) (i : Nat) (F : Nat → Nat), (i + n = 30) → (∀ j, F j ≤ 30) → (rBoth a b k n i F = rBoth a b k 30 0 G0) → ∀ (H : Heap) (locs : List Loc) (ls : Array Slot), va_P D k_cl ([(h, .inr (2, [.ref e])), (e, .inl (cI, 30, .inl (kA F))), (ha, .inr (2, [.ref ea])), (ea, .inl (cI, 30, .inl (kA a))), (hb2, .inr (2, [.ref eb])), (eb, .inl (cI, 30, .inl (kA b)))]) H → va_D A ([(h, .inr (2, [.ref e])), (e, .inl (cI, 30, .inl (kA F))), (ha, .inr (2, [.ref ea])), (ea, .inl (cI, 30, .inl (kA a))), (hb2, .inr (2, [.ref eb])), (eb, .inl (cI, 30, .inl (kA b)))]) → va_S A s.heap H locs → lv_has ls 5 [(0, .ref h), (1, .ref ha), (2, .ref hb2), (3, .int (zI ↑k)), (4, .int (zI ↑i))] → W p l ev rm_Row_addBoth s m ar below meth c H locs 0 0 Qf (F0 m 3 ls []) := by
    intro n
    induction n with
    | zero =>
      intro i F hin hF hgo H locs ls hP hD hS hl
      refine lv_iload hx hb d_Ro_addBoth_3 (lv_at hl 4 rfl) ?_
      refine lv_bipush (v := zI 30) hx hb d_Ro_addBoth_5 (by decide) ?_
      refine k_icmp_ge (tgt := 40) hx hb d_Ro_addBoth_7 (by decide) ⟨by omega, by omega⟩ ⟨by omega, by omega⟩ (fun c_7 => ?_) (fun c_7 => ?_)
      · rw [← hQf]
        have hP : va_P D k_cl [(h, .inr (2, [.ref e])), (e, .inl (cI, 30, .inl (kA (rBoth a b k 30 0 G0)))), (ha, .inr (2, [.ref ea])), (ea, .inl (cI, 30, .inl (kA a))), (hb2, .inr (2, [.ref eb])), (eb, .inl (cI, 30, .inl (kA b)))] H := by
          rw [show rBoth a b k 30 0 G0 = F from hgo.symm]
          exact hP
        exact k_vret hx hb hr hlocks hP hS d_Ro_addBoth_40
      · exfalso; omega
    | succ n ih_3 =>
      intro i F hin hF hgo H locs ls hP hD hS hl
      refine lv_iload hx hb d_Ro_addBoth_3 (lv_at hl 4 rfl) ?_
      refine lv_bipush (v := zI 30) hx hb d_Ro_addBoth_5 (by decide) ?_
      refine k_icmp_ge (tgt := 40) hx hb d_Ro_addBoth_7 (by decide) ⟨by omega, by omega⟩ ⟨by omega, by omega⟩ (fun c_7 => ?_) (fun c_7 => ?_)
      · exfalso; omega
      · refine lv_aload_n hx hb d_Ro_addBoth_10 rfl (lv_at hl 1 rfl) ?_
        refine lv_iload hx hb d_Ro_addBoth_11 (lv_at hl 4 rfl) ?_
        refine k_beI (va_runV (As := [.int (zI ↑i)]) (rest := []) ⟨hx, hb, hml, hown, hkw⟩ (c_Row_beginsAt l D cI cR cG ha ea i a (by omega) ha30 _) (cwV 1 hkw (k_gV kw_methodLink_Ro_25 kw_instanceMethod_Ro_beginsAt kw_selects_Ro_beginsAt kw_initialized_Ro kw_code_Ro_beginsAt) rfl rfl rfl (by decide +kernel) ⟨(Nat.le_of_ble_eq_true rfl), (Nat.le_of_ble_eq_true rfl)⟩) (k_preV (q0 := 0) hK hG hP hD [2, 3] rfl rfl rfl rfl) rfl rfl hl.1 rfl (lv_room (Nat.le_of_ble_eq_true rfl)) d_Ro_addBoth_13 ⟨Nat.zero_le _, Nat.zero_le _⟩) hP hD hS hA [2, 3] rfl (Eq.trans (b := [ha, ea]) rfl rfl) ?_
        clear hP hD hS; intro H locs hP hD hS
        replace hP : va_P D k_cl ([(h, .inr (2, [.ref e])), (e, .inl (cI, 30, .inl (kA F))), (ha, .inr (2, [.ref ea])), (ea, .inl (cI, 30, .inl (kA a))), (hb2, .inr (2, [.ref eb])), (eb, .inl (cI, 30, .inl (kA b)))]) H := hP
        replace hD : va_D A ([(h, .inr (2, [.ref e])), (e, .inl (cI, 30, .inl (kA F))), (ha, .inr (2, [.ref ea])), (ea, .inl (cI, 30, .inl (kA a))), (hb2, .inr (2, [.ref eb])), (eb, .inl (cI, 30, .inl (kA b)))]) := hD
        refine k_bif_eq (tgt := 34) hx hb d_Ro_addBoth_16 (by decide) (fun c_16 => ?_) (fun c_16 => ?_)
        · refine k_iinc (v := ↑(i + 1)) (lv' := [(4, .int (zI (↑(i + 1)))), (0, .ref h), (1, .ref ha), (2, .ref hb2), (3, .int (zI ↑k))]) hx hb d_Ro_addBoth_34 hl (k := 4) rfl (by omega) (by decide) rfl ?_
          clear hl; intro ls hl
          refine lv_goto (tgt := 3) hx hb d_Ro_addBoth_37 (by decide) ?_
          exact ih_3 (i + 1) F (by omega) hF (by rw [rBoth] at hgo; (repeat' split at hgo); all_goals first | exact hgo | (exfalso; omega) | contradiction) _ _ _ hP hD hS (lv_sub hl [1, 2, 3, 4, 0] rfl)
        · refine lv_aload_n hx hb d_Ro_addBoth_19 rfl (lv_at hl 0 rfl) ?_
          refine lv_iload hx hb d_Ro_addBoth_20 (lv_at hl 4 rfl) ?_
          refine lv_aload_n hx hb d_Ro_addBoth_22 rfl (lv_at hl 1 rfl) ?_
          refine va_get (D := D) (ci := 2) (v := .ref ea) (C := R_Ro) (T := T_Ro) (N := 1) hx hb hkw kin_Ro hown hK hP 2 rfl rfl 0 (by decide) (hkw _ kw_fieldLink_Ro_9) (fun _ h9 => h9) rfl d_Ro_addBoth_23 ?_
          refine lv_iload hx hb d_Ro_addBoth_26 (lv_at hl 4 rfl) ?_
          refine k_ald hx hb hK hP 3 0 rfl rfl (i := i) (by omega) (by omega) (by omega) d_Ro_addBoth_28 ?_
          have hv_1 := ha30 i
          refine lv_aload_n hx hb d_Ro_addBoth_29 rfl (lv_at hl 2 rfl) ?_
          refine lv_iload_n hx hb d_Ro_addBoth_30 rfl (lv_at hl 3 rfl) ?_
          refine k_beV (va_runV (As := [.int (zI ↑i), .int (zI (↑(a i))), .ref hb2, .int (zI ↑k)]) (rest := []) ⟨hx, hb, hml, hown, hkw⟩ (c_Row_addBothOfOne l D cI cR cG h e hb2 eb i (a i) k F b (by omega) (by omega) (by omega) hF hb30 _) (cwV 4 hkw (k_gV kw_methodLink_Ro_50 kw_instanceMethod_Ro_addBothOfOne kw_selects_Ro_addBothOfOne kw_initialized_Ro kw_code_Ro_addBothOfOne) rfl rfl rfl (by decide +kernel) ⟨(Nat.le_of_ble_eq_true rfl), (Nat.le_of_ble_eq_true rfl)⟩) (k_preV (q0 := 0) hK hG hP hD [0, 1, 4, 5] rfl rfl rfl rfl) rfl rfl hl.1 rfl (lv_room (Nat.le_of_ble_eq_true rfl)) d_Ro_addBoth_31 ⟨Nat.zero_le _, Nat.zero_le _⟩) hP hD hS hA [0, 1, 4, 5] rfl (Eq.trans (b := [h, e, hb2, eb]) rfl rfl) ?_
          clear hP hD hS; intro H locs hP hD hS
          replace hP : va_P D k_cl ([(h, .inr (2, [.ref e])), (e, .inl (cI, 30, .inl (kA (rBoth1 b i (a i) k 30 0 F)))), (ha, .inr (2, [.ref ea])), (ea, .inl (cI, 30, .inl (kA a))), (hb2, .inr (2, [.ref eb])), (eb, .inl (cI, 30, .inl (kA b)))]) H := hP
          replace hD : va_D A ([(h, .inr (2, [.ref e])), (e, .inl (cI, 30, .inl (kA (rBoth1 b i (a i) k 30 0 F)))), (ha, .inr (2, [.ref ea])), (ea, .inl (cI, 30, .inl (kA a))), (hb2, .inr (2, [.ref eb])), (eb, .inl (cI, 30, .inl (kA b)))]) := hD
          refine k_iinc (v := ↑(i + 1)) (lv' := [(4, .int (zI (↑(i + 1)))), (0, .ref h), (1, .ref ha), (2, .ref hb2), (3, .int (zI ↑k))]) hx hb d_Ro_addBoth_34 hl (k := 4) rfl (by omega) (by decide) rfl ?_
          clear hl; intro ls hl
          refine lv_goto (tgt := 3) hx hb d_Ro_addBoth_37 (by decide) ?_
          exact ih_3 (i + 1) (rBoth1 b i (a i) k 30 0 F) (by omega) (r_bd_rBoth1 hF hb30 (by omega)) (by rw [rBoth] at hgo; (repeat' split at hgo); all_goals first | exact hgo | (exfalso; omega) | contradiction) _ _ _ hP hD hS (lv_sub hl [1, 2, 3, 4, 0] rfl)
  exact loop_3 30 0 G0 (by omega) hG0 rfl _ _ _ hP hD hS (lv_sub hl [1, 2, 3, 4, 0] rfl)

abbrev rm_Row_addHolding : Room := { frames := 3, cells := 0, slots := 0, locals := 64 }
set_option maxHeartbeats 4000000 in
set_option maxRecDepth 100000 in
theorem c_Row_addHolding (l : Launch) (D : va_G) (cI cR cG : ClassId) (h e ha ea hb2 eb : Nat) (G0 a b : Nat → Nat) (hG0 : ∀ j, G0 j ≤ 30) (ha30 : ∀ j, a j ≤ 30) (hb30 : ∀ j, b j ≤ 30) : k_M l y_Ro_addHolding (.code y_Ro_addHolding b_Ro_addHolding 4 none :: kW) rm_Row_addHolding D k_cl (k_ty cI cR cG) [.ref h, .ref ha, .ref hb2] ([(h, .inr (2, [.ref e])), (e, .inl (cI, 30, .inl (kA G0))), (ha, .inr (2, [.ref ea])), (ea, .inl (cI, 30, .inl (kA a))), (hb2, .inr (2, [.ref eb])), (eb, .inl (cI, 30, .inl (kA b)))]) (k_Qv D k_cl [(h, .inr (2, [.ref e])), (e, .inl (cI, 30, .inl (kA (rHolding a b 30 0 G0)))), (ha, .inr (2, [.ref ea])), (ea, .inl (cI, 30, .inl (kA a))), (hb2, .inr (2, [.ref eb])), (eb, .inl (cI, 30, .inl (kA b)))]) := by
  refine k_start (cc := b_Ro_addHolding) (maxL := 4) (ret := none) (by decide) rfl (Nat.le_of_ble_eq_true rfl) ?_
  intro p ev s m ar below meth c A ls Qf hQf hx hb hr hml hts hown hlocks hin hK hG hA hP hD hS hl
  replace hown : s.vm.findClass R_Ro = some m.cls := hown
  replace hl : lv_has ls 4 [(0, .ref h), (1, .ref ha), (2, .ref hb2)] := hl
  have hkw : ∀ w ∈ kW, w.before ar s = true := fun w h => hts w (List.mem_cons_of_mem _ h)
  replace hP : va_P D k_cl ([(h, .inr (2, [.ref e])), (e, .inl (cI, 30, .inl (kA G0))), (ha, .inr (2, [.ref ea])), (ea, .inl (cI, 30, .inl (kA a))), (hb2, .inr (2, [.ref eb])), (eb, .inl (cI, 30, .inl (kA b)))]) s.heap := hP
  replace hD : va_D A ([(h, .inr (2, [.ref e])), (e, .inl (cI, 30, .inl (kA G0))), (ha, .inr (2, [.ref ea])), (ea, .inl (cI, 30, .inl (kA a))), (hb2, .inr (2, [.ref eb])), (eb, .inl (cI, 30, .inl (kA b)))]) := hD
  refine lv_iconst (v := zI 0) hx hb d_Ro_addHolding_0 (by decide) ?_
  refine lv_istore_n (lv' := [(3, .int (zI 0)), (0, .ref h), (1, .ref ha), (2, .ref hb2)]) hx hb d_Ro_addHolding_1 rfl hl (by decide) rfl ?_
  clear hl; intro ls hl
  have loop_2 : ∀ (n : Nat) (i : Nat) (F : Nat → Nat), (i + n = 30) → (∀ j, F j ≤ 30) → (rHolding a b n i F = rHolding a b 30 0 G0) → ∀ (H : Heap) (locs : List Loc) (ls : Array Slot), va_P D k_cl ([(h, .inr (2, [.ref e])), (e, .inl (cI, 30, .inl (kA F))), (ha, .inr (2, [.ref ea])), (ea, .inl (cI, 30, .inl (kA a))), (hb2, .inr (2, [.ref eb])), (eb, .inl (cI, 30, .inl (kA b)))]) H → va_D A ([(h, .inr (2, [.ref e])), (e, .inl (cI, 30, .inl (kA F))), (ha, .inr (2, [.ref ea])), (ea, .inl (cI, 30, .inl (kA a))), (hb2, .inr (2, [.ref eb])), (eb, .inl (cI, 30, .inl (kA b)))]) → va_S A s.heap H locs → lv_has ls 4 [(0, .ref h), (1, .ref ha), (2, .ref hb2), (3, .int (zI ↑i))] → W p l ev rm_Row_addHolding s m ar below meth c H locs 0 0 Qf (F0 m 2 ls []) := by
    intro n
    induction n with
    | zero =>
      intro i F hin hF hgo H locs ls hP hD hS hl
      refine lv_iload_n hx hb d_Ro_addHolding_2 rfl (lv_at hl 3 rfl) ?_
      refine lv_bipush (v := zI 30) hx hb d_Ro_addHolding_3 (by decide) ?_
      refine k_icmp_ge (tgt := 47) hx hb d_Ro_addHolding_5 (by decide) ⟨by omega, by omega⟩ ⟨by omega, by omega⟩ (fun c_5 => ?_) (fun c_5 => ?_)
      · rw [← hQf]
        have hP : va_P D k_cl [(h, .inr (2, [.ref e])), (e, .inl (cI, 30, .inl (kA (rHolding a b 30 0 G0)))), (ha, .inr (2, [.ref ea])), (ea, .inl (cI, 30, .inl (kA a))), (hb2, .inr (2, [.ref eb])), (eb, .inl (cI, 30, .inl (kA b)))] H := by
          rw [show rHolding a b 30 0 G0 = F from hgo.symm]
          exact hP
        exact k_vret hx hb hr hlocks hP hS d_Ro_addHolding_47
      · exfalso; omega
    | succ n ih_2 =>
      intro i F hin hF hgo H locs ls hP hD hS hl
      refine lv_iload_n hx hb d_Ro_addHolding_2 rfl (lv_at hl 3 rfl) ?_
      refine lv_bipush (v := zI 30) hx hb d_Ro_addHolding_3 (by decide) ?_
      refine k_icmp_ge (tgt := 47) hx hb d_Ro_addHolding_5 (by decide) ⟨by omega, by omega⟩ ⟨by omega, by omega⟩ (fun c_5 => ?_) (fun c_5 => ?_)
      · exfalso; omega
      · refine lv_aload_n hx hb d_Ro_addHolding_8 rfl (lv_at hl 1 rfl) ?_
        refine lv_iload_n hx hb d_Ro_addHolding_9 rfl (lv_at hl 3 rfl) ?_
        refine k_beI (va_runV (As := [.int (zI ↑i)]) (rest := []) ⟨hx, hb, hml, hown, hkw⟩ (c_Row_beginsAt l D cI cR cG ha ea i a (by omega) ha30 _) (cwV 1 hkw (k_gV kw_methodLink_Ro_25 kw_instanceMethod_Ro_beginsAt kw_selects_Ro_beginsAt kw_initialized_Ro kw_code_Ro_beginsAt) rfl rfl rfl (by decide +kernel) ⟨(Nat.le_of_ble_eq_true rfl), (Nat.le_of_ble_eq_true rfl)⟩) (k_preV (q0 := 0) hK hG hP hD [2, 3] rfl rfl rfl rfl) rfl rfl hl.1 rfl (lv_room (Nat.le_of_ble_eq_true rfl)) d_Ro_addHolding_10 ⟨Nat.zero_le _, Nat.zero_le _⟩) hP hD hS hA [2, 3] rfl (Eq.trans (b := [ha, ea]) rfl rfl) ?_
        clear hP hD hS; intro H locs hP hD hS
        replace hP : va_P D k_cl ([(h, .inr (2, [.ref e])), (e, .inl (cI, 30, .inl (kA F))), (ha, .inr (2, [.ref ea])), (ea, .inl (cI, 30, .inl (kA a))), (hb2, .inr (2, [.ref eb])), (eb, .inl (cI, 30, .inl (kA b)))]) H := hP
        replace hD : va_D A ([(h, .inr (2, [.ref e])), (e, .inl (cI, 30, .inl (kA F))), (ha, .inr (2, [.ref ea])), (ea, .inl (cI, 30, .inl (kA a))), (hb2, .inr (2, [.ref eb])), (eb, .inl (cI, 30, .inl (kA b)))]) := hD
        refine k_bif_eq (tgt := 41) hx hb d_Ro_addHolding_13 (by decide) (fun c_13 => ?_) (fun c_13 => ?_)
        · refine k_iinc (v := ↑(i + 1)) (lv' := [(3, .int (zI (↑(i + 1)))), (0, .ref h), (1, .ref ha), (2, .ref hb2)]) hx hb d_Ro_addHolding_41 hl (k := 3) rfl (by omega) (by decide) rfl ?_
          clear hl; intro ls hl
          refine lv_goto (tgt := 2) hx hb d_Ro_addHolding_44 (by decide) ?_
          exact ih_2 (i + 1) F (by omega) hF (by rw [rHolding] at hgo; (repeat' split at hgo); all_goals first | exact hgo | (exfalso; omega) | contradiction) _ _ _ hP hD hS (lv_sub hl [1, 2, 3, 0] rfl)
        · refine lv_aload_n hx hb d_Ro_addHolding_16 rfl (lv_at hl 2 rfl) ?_
          refine lv_iload_n hx hb d_Ro_addHolding_17 rfl (lv_at hl 3 rfl) ?_
          refine lv_aload_n hx hb d_Ro_addHolding_18 rfl (lv_at hl 1 rfl) ?_
          refine va_get (D := D) (ci := 2) (v := .ref ea) (C := R_Ro) (T := T_Ro) (N := 1) hx hb hkw kin_Ro hown hK hP 2 rfl rfl 0 (by decide) (hkw _ kw_fieldLink_Ro_9) (fun _ h9 => h9) rfl d_Ro_addHolding_19 ?_
          refine lv_iload_n hx hb d_Ro_addHolding_22 rfl (lv_at hl 3 rfl) ?_
          refine k_ald hx hb hK hP 3 0 rfl rfl (i := i) (by omega) (by omega) (by omega) d_Ro_addHolding_23 ?_
          have hv_1 := ha30 i
          refine k_beI (va_runV (As := [.int (zI ↑i), .int (zI (↑(a i)))]) (rest := []) ⟨hx, hb, hml, hown, hkw⟩ (c_Row_hasWithin l D cI cR cG hb2 eb i (a i) b (by omega) (by omega) hb30 _) (cwV 2 hkw (k_gV kw_methodLink_Ro_56 kw_instanceMethod_Ro_hasWithin kw_selects_Ro_hasWithin kw_initialized_Ro kw_code_Ro_hasWithin) rfl rfl rfl (by decide +kernel) ⟨(Nat.le_of_ble_eq_true rfl), (Nat.le_of_ble_eq_true rfl)⟩) (k_preV (q0 := 0) hK hG hP hD [4, 5] rfl rfl rfl rfl) rfl rfl hl.1 rfl (lv_room (Nat.le_of_ble_eq_true rfl)) d_Ro_addHolding_24 ⟨Nat.zero_le _, Nat.zero_le _⟩) hP hD hS hA [4, 5] rfl (Eq.trans (b := [hb2, eb]) rfl rfl) ?_
          clear hP hD hS; intro H locs hP hD hS
          replace hP : va_P D k_cl ([(h, .inr (2, [.ref e])), (e, .inl (cI, 30, .inl (kA F))), (ha, .inr (2, [.ref ea])), (ea, .inl (cI, 30, .inl (kA a))), (hb2, .inr (2, [.ref eb])), (eb, .inl (cI, 30, .inl (kA b)))]) H := hP
          replace hD : va_D A ([(h, .inr (2, [.ref e])), (e, .inl (cI, 30, .inl (kA F))), (ha, .inr (2, [.ref ea])), (ea, .inl (cI, 30, .inl (kA a))), (hb2, .inr (2, [.ref eb])), (eb, .inl (cI, 30, .inl (kA b)))]) := hD
          refine k_bif_eq (tgt := 41) hx hb d_Ro_addHolding_27 (by decide) (fun c_27 => ?_) (fun c_27 => ?_)
          · refine k_iinc (v := ↑(i + 1)) (lv' := [(3, .int (zI (↑(i + 1)))), (0, .ref h), (1, .ref ha), (2, .ref hb2)]) hx hb d_Ro_addHolding_41 hl (k := 3) rfl (by omega) (by decide) rfl ?_
            clear hl; intro ls hl
            refine lv_goto (tgt := 2) hx hb d_Ro_addHolding_44 (by decide) ?_
            exact ih_2 (i + 1) F (by omega) hF (by rw [rHolding] at hgo; (repeat' split at hgo); all_goals first | exact hgo | (exfalso; omega) | contradiction) _ _ _ hP hD hS (lv_sub hl [1, 2, 3, 0] rfl)
          · refine lv_aload_n hx hb d_Ro_addHolding_30 rfl (lv_at hl 0 rfl) ?_
            refine lv_iload_n hx hb d_Ro_addHolding_31 rfl (lv_at hl 3 rfl) ?_
            refine lv_aload_n hx hb d_Ro_addHolding_32 rfl (lv_at hl 1 rfl) ?_
            refine va_get (D := D) (ci := 2) (v := .ref ea) (C := R_Ro) (T := T_Ro) (N := 1) hx hb hkw kin_Ro hown hK hP 2 rfl rfl 0 (by decide) (hkw _ kw_fieldLink_Ro_9) (fun _ h9 => h9) rfl d_Ro_addHolding_33 ?_
            refine lv_iload_n hx hb d_Ro_addHolding_36 rfl (lv_at hl 3 rfl) ?_
            refine k_ald hx hb hK hP 3 0 rfl rfl (i := i) (by omega) (by omega) (by omega) d_Ro_addHolding_37 ?_
            have hv_2 := ha30 i
            refine k_beV (va_runV (As := [.int (zI ↑i), .int (zI (↑(a i)))]) (rest := []) ⟨hx, hb, hml, hown, hkw⟩ (c_Row_add l D cI cR cG h e i (a i) F (by omega) (by omega) hF _) (cwV 2 hkw (k_gV kw_methodLink_Ro_38 kw_instanceMethod_Ro_add kw_selects_Ro_add kw_initialized_Ro kw_code_Ro_add) rfl rfl rfl (by decide +kernel) ⟨(Nat.le_of_ble_eq_true rfl), (Nat.le_of_ble_eq_true rfl)⟩) (k_preV (q0 := 0) hK hG hP hD [0, 1] rfl rfl rfl rfl) rfl rfl hl.1 rfl (lv_room (Nat.le_of_ble_eq_true rfl)) d_Ro_addHolding_38 ⟨Nat.zero_le _, Nat.zero_le _⟩) hP hD hS hA [0, 1] rfl (Eq.trans (b := [h, e]) rfl rfl) ?_
            clear hP hD hS; intro H locs hP hD hS
            replace hP : va_P D k_cl ([(h, .inr (2, [.ref e])), (e, .inl (cI, 30, .inl (kA (rAdd F i (a i))))), (ha, .inr (2, [.ref ea])), (ea, .inl (cI, 30, .inl (kA a))), (hb2, .inr (2, [.ref eb])), (eb, .inl (cI, 30, .inl (kA b)))]) H := hP
            replace hD : va_D A ([(h, .inr (2, [.ref e])), (e, .inl (cI, 30, .inl (kA (rAdd F i (a i))))), (ha, .inr (2, [.ref ea])), (ea, .inl (cI, 30, .inl (kA a))), (hb2, .inr (2, [.ref eb])), (eb, .inl (cI, 30, .inl (kA b)))]) := hD
            refine k_iinc (v := ↑(i + 1)) (lv' := [(3, .int (zI (↑(i + 1)))), (0, .ref h), (1, .ref ha), (2, .ref hb2)]) hx hb d_Ro_addHolding_41 hl (k := 3) rfl (by omega) (by decide) rfl ?_
            clear hl; intro ls hl
            refine lv_goto (tgt := 2) hx hb d_Ro_addHolding_44 (by decide) ?_
            exact ih_2 (i + 1) (rAdd F i (a i)) (by omega) (rAdd_le hF (by omega)) (by rw [rHolding] at hgo; (repeat' split at hgo); all_goals first | exact hgo | (exfalso; omega) | contradiction) _ _ _ hP hD hS (lv_sub hl [1, 2, 3, 0] rfl)
  exact loop_2 30 0 G0 (by omega) hG0 rfl _ _ _ hP hD hS (lv_sub hl [1, 2, 3, 0] rfl)

abbrev rm_Row_addIn : Room := { frames := 3, cells := 0, slots := 0, locals := 64 }
set_option maxHeartbeats 4000000 in
set_option maxRecDepth 100000 in
theorem c_Row_addIn (l : Launch) (D : va_G) (cI cR cG : ClassId) (h e ha ea hb2 eb : Nat) (G0 a b : Nat → Nat) (hG0 : ∀ j, G0 j ≤ 30) (ha30 : ∀ j, a j ≤ 30) (hb30 : ∀ j, b j ≤ 30) : k_M l y_Ro_addIn (.code y_Ro_addIn b_Ro_addIn 4 none :: kW) rm_Row_addIn D k_cl (k_ty cI cR cG) [.ref h, .ref ha, .ref hb2] ([(h, .inr (2, [.ref e])), (e, .inl (cI, 30, .inl (kA G0))), (ha, .inr (2, [.ref ea])), (ea, .inl (cI, 30, .inl (kA a))), (hb2, .inr (2, [.ref eb])), (eb, .inl (cI, 30, .inl (kA b)))]) (k_Qv D k_cl [(h, .inr (2, [.ref e])), (e, .inl (cI, 30, .inl (kA (rIn a b 30 0 G0)))), (ha, .inr (2, [.ref ea])), (ea, .inl (cI, 30, .inl (kA a))), (hb2, .inr (2, [.ref eb])), (eb, .inl (cI, 30, .inl (kA b)))]) := by
  refine k_start (cc := b_Ro_addIn) (maxL := 4) (ret := none) (by decide) rfl (Nat.le_of_ble_eq_true rfl) ?_
  intro p ev s m ar below meth c A ls Qf hQf hx hb hr hml hts hown hlocks hin hK hG hA hP hD hS hl
  replace hown : s.vm.findClass R_Ro = some m.cls := hown
  replace hl : lv_has ls 4 [(0, .ref h), (1, .ref ha), (2, .ref hb2)] := hl
  have hkw : ∀ w ∈ kW, w.before ar s = true := fun w h => hts w (List.mem_cons_of_mem _ h)
  replace hP : va_P D k_cl ([(h, .inr (2, [.ref e])), (e, .inl (cI, 30, .inl (kA G0))), (ha, .inr (2, [.ref ea])), (ea, .inl (cI, 30, .inl (kA a))), (hb2, .inr (2, [.ref eb])), (eb, .inl (cI, 30, .inl (kA b)))]) s.heap := hP
  replace hD : va_D A ([(h, .inr (2, [.ref e])), (e, .inl (cI, 30, .inl (kA G0))), (ha, .inr (2, [.ref ea])), (ea, .inl (cI, 30, .inl (kA a))), (hb2, .inr (2, [.ref eb])), (eb, .inl (cI, 30, .inl (kA b)))]) := hD
  refine lv_iconst (v := zI 0) hx hb d_Ro_addIn_0 (by decide) ?_
  refine lv_istore_n (lv' := [(3, .int (zI 0)), (0, .ref h), (1, .ref ha), (2, .ref hb2)]) hx hb d_Ro_addIn_1 rfl hl (by decide) rfl ?_
  clear hl; intro ls hl
  have loop_2 : ∀ (n : Nat) (i : Nat) (F : Nat → Nat), (i + n = 30) → (∀ j, F j ≤ 30) → (rIn a b n i F = rIn a b 30 0 G0) → ∀ (H : Heap) (locs : List Loc) (ls : Array Slot), va_P D k_cl ([(h, .inr (2, [.ref e])), (e, .inl (cI, 30, .inl (kA F))), (ha, .inr (2, [.ref ea])), (ea, .inl (cI, 30, .inl (kA a))), (hb2, .inr (2, [.ref eb])), (eb, .inl (cI, 30, .inl (kA b)))]) H → va_D A ([(h, .inr (2, [.ref e])), (e, .inl (cI, 30, .inl (kA F))), (ha, .inr (2, [.ref ea])), (ea, .inl (cI, 30, .inl (kA a))), (hb2, .inr (2, [.ref eb])), (eb, .inl (cI, 30, .inl (kA b)))]) → va_S A s.heap H locs → lv_has ls 4 [(0, .ref h), (1, .ref ha), (2, .ref hb2), (3, .int (zI ↑i))] → W p l ev rm_Row_addIn s m ar below meth c H locs 0 0 Qf (F0 m 2 ls []) := by
    intro n
    induction n with
    | zero =>
      intro i F hin hF hgo H locs ls hP hD hS hl
      refine lv_iload_n hx hb d_Ro_addIn_2 rfl (lv_at hl 3 rfl) ?_
      refine lv_bipush (v := zI 30) hx hb d_Ro_addIn_3 (by decide) ?_
      refine k_icmp_ge (tgt := 47) hx hb d_Ro_addIn_5 (by decide) ⟨by omega, by omega⟩ ⟨by omega, by omega⟩ (fun c_5 => ?_) (fun c_5 => ?_)
      · rw [← hQf]
        have hP : va_P D k_cl [(h, .inr (2, [.ref e])), (e, .inl (cI, 30, .inl (kA (rIn a b 30 0 G0)))), (ha, .inr (2, [.ref ea])), (ea, .inl (cI, 30, .inl (kA a))), (hb2, .inr (2, [.ref eb])), (eb, .inl (cI, 30, .inl (kA b)))] H := by
          rw [show rIn a b 30 0 G0 = F from hgo.symm]
          exact hP
        exact k_vret hx hb hr hlocks hP hS d_Ro_addIn_47
      · exfalso; omega
    | succ n ih_2 =>
      intro i F hin hF hgo H locs ls hP hD hS hl
      refine lv_iload_n hx hb d_Ro_addIn_2 rfl (lv_at hl 3 rfl) ?_
      refine lv_bipush (v := zI 30) hx hb d_Ro_addIn_3 (by decide) ?_
      refine k_icmp_ge (tgt := 47) hx hb d_Ro_addIn_5 (by decide) ⟨by omega, by omega⟩ ⟨by omega, by omega⟩ (fun c_5 => ?_) (fun c_5 => ?_)
      · exfalso; omega
      · refine lv_aload_n hx hb d_Ro_addIn_8 rfl (lv_at hl 1 rfl) ?_
        refine lv_iload_n hx hb d_Ro_addIn_9 rfl (lv_at hl 3 rfl) ?_
        refine k_beI (va_runV (As := [.int (zI ↑i)]) (rest := []) ⟨hx, hb, hml, hown, hkw⟩ (c_Row_beginsAt l D cI cR cG ha ea i a (by omega) ha30 _) (cwV 1 hkw (k_gV kw_methodLink_Ro_25 kw_instanceMethod_Ro_beginsAt kw_selects_Ro_beginsAt kw_initialized_Ro kw_code_Ro_beginsAt) rfl rfl rfl (by decide +kernel) ⟨(Nat.le_of_ble_eq_true rfl), (Nat.le_of_ble_eq_true rfl)⟩) (k_preV (q0 := 0) hK hG hP hD [2, 3] rfl rfl rfl rfl) rfl rfl hl.1 rfl (lv_room (Nat.le_of_ble_eq_true rfl)) d_Ro_addIn_10 ⟨Nat.zero_le _, Nat.zero_le _⟩) hP hD hS hA [2, 3] rfl (Eq.trans (b := [ha, ea]) rfl rfl) ?_
        clear hP hD hS; intro H locs hP hD hS
        replace hP : va_P D k_cl ([(h, .inr (2, [.ref e])), (e, .inl (cI, 30, .inl (kA F))), (ha, .inr (2, [.ref ea])), (ea, .inl (cI, 30, .inl (kA a))), (hb2, .inr (2, [.ref eb])), (eb, .inl (cI, 30, .inl (kA b)))]) H := hP
        replace hD : va_D A ([(h, .inr (2, [.ref e])), (e, .inl (cI, 30, .inl (kA F))), (ha, .inr (2, [.ref ea])), (ea, .inl (cI, 30, .inl (kA a))), (hb2, .inr (2, [.ref eb])), (eb, .inl (cI, 30, .inl (kA b)))]) := hD
        refine k_bif_eq (tgt := 41) hx hb d_Ro_addIn_13 (by decide) (fun c_13 => ?_) (fun c_13 => ?_)
        · refine k_iinc (v := ↑(i + 1)) (lv' := [(3, .int (zI (↑(i + 1)))), (0, .ref h), (1, .ref ha), (2, .ref hb2)]) hx hb d_Ro_addIn_41 hl (k := 3) rfl (by omega) (by decide) rfl ?_
          clear hl; intro ls hl
          refine lv_goto (tgt := 2) hx hb d_Ro_addIn_44 (by decide) ?_
          exact ih_2 (i + 1) F (by omega) hF (by rw [rIn] at hgo; (repeat' split at hgo); all_goals first | exact hgo | (exfalso; omega) | contradiction) _ _ _ hP hD hS (lv_sub hl [1, 2, 3, 0] rfl)
        · refine lv_aload_n hx hb d_Ro_addIn_16 rfl (lv_at hl 2 rfl) ?_
          refine lv_iload_n hx hb d_Ro_addIn_17 rfl (lv_at hl 3 rfl) ?_
          refine lv_aload_n hx hb d_Ro_addIn_18 rfl (lv_at hl 1 rfl) ?_
          refine va_get (D := D) (ci := 2) (v := .ref ea) (C := R_Ro) (T := T_Ro) (N := 1) hx hb hkw kin_Ro hown hK hP 2 rfl rfl 0 (by decide) (hkw _ kw_fieldLink_Ro_9) (fun _ h9 => h9) rfl d_Ro_addIn_19 ?_
          refine lv_iload_n hx hb d_Ro_addIn_22 rfl (lv_at hl 3 rfl) ?_
          refine k_ald hx hb hK hP 3 0 rfl rfl (i := i) (by omega) (by omega) (by omega) d_Ro_addIn_23 ?_
          have hv_1 := ha30 i
          refine k_beI (va_runV (As := [.int (zI ↑i), .int (zI (↑(a i)))]) (rest := []) ⟨hx, hb, hml, hown, hkw⟩ (c_Row_hasAround l D cI cR cG hb2 eb i (a i) b (by omega) (by omega) hb30 _) (cwV 2 hkw (k_gV kw_methodLink_Ro_60 kw_instanceMethod_Ro_hasAround kw_selects_Ro_hasAround kw_initialized_Ro kw_code_Ro_hasAround) rfl rfl rfl (by decide +kernel) ⟨(Nat.le_of_ble_eq_true rfl), (Nat.le_of_ble_eq_true rfl)⟩) (k_preV (q0 := 0) hK hG hP hD [4, 5] rfl rfl rfl rfl) rfl rfl hl.1 rfl (lv_room (Nat.le_of_ble_eq_true rfl)) d_Ro_addIn_24 ⟨Nat.zero_le _, Nat.zero_le _⟩) hP hD hS hA [4, 5] rfl (Eq.trans (b := [hb2, eb]) rfl rfl) ?_
          clear hP hD hS; intro H locs hP hD hS
          replace hP : va_P D k_cl ([(h, .inr (2, [.ref e])), (e, .inl (cI, 30, .inl (kA F))), (ha, .inr (2, [.ref ea])), (ea, .inl (cI, 30, .inl (kA a))), (hb2, .inr (2, [.ref eb])), (eb, .inl (cI, 30, .inl (kA b)))]) H := hP
          replace hD : va_D A ([(h, .inr (2, [.ref e])), (e, .inl (cI, 30, .inl (kA F))), (ha, .inr (2, [.ref ea])), (ea, .inl (cI, 30, .inl (kA a))), (hb2, .inr (2, [.ref eb])), (eb, .inl (cI, 30, .inl (kA b)))]) := hD
          refine k_bif_eq (tgt := 41) hx hb d_Ro_addIn_27 (by decide) (fun c_27 => ?_) (fun c_27 => ?_)
          · refine k_iinc (v := ↑(i + 1)) (lv' := [(3, .int (zI (↑(i + 1)))), (0, .ref h), (1, .ref ha), (2, .ref hb2)]) hx hb d_Ro_addIn_41 hl (k := 3) rfl (by omega) (by decide) rfl ?_
            clear hl; intro ls hl
            refine lv_goto (tgt := 2) hx hb d_Ro_addIn_44 (by decide) ?_
            exact ih_2 (i + 1) F (by omega) hF (by rw [rIn] at hgo; (repeat' split at hgo); all_goals first | exact hgo | (exfalso; omega) | contradiction) _ _ _ hP hD hS (lv_sub hl [1, 2, 3, 0] rfl)
          · refine lv_aload_n hx hb d_Ro_addIn_30 rfl (lv_at hl 0 rfl) ?_
            refine lv_iload_n hx hb d_Ro_addIn_31 rfl (lv_at hl 3 rfl) ?_
            refine lv_aload_n hx hb d_Ro_addIn_32 rfl (lv_at hl 1 rfl) ?_
            refine va_get (D := D) (ci := 2) (v := .ref ea) (C := R_Ro) (T := T_Ro) (N := 1) hx hb hkw kin_Ro hown hK hP 2 rfl rfl 0 (by decide) (hkw _ kw_fieldLink_Ro_9) (fun _ h9 => h9) rfl d_Ro_addIn_33 ?_
            refine lv_iload_n hx hb d_Ro_addIn_36 rfl (lv_at hl 3 rfl) ?_
            refine k_ald hx hb hK hP 3 0 rfl rfl (i := i) (by omega) (by omega) (by omega) d_Ro_addIn_37 ?_
            have hv_2 := ha30 i
            refine k_beV (va_runV (As := [.int (zI ↑i), .int (zI (↑(a i)))]) (rest := []) ⟨hx, hb, hml, hown, hkw⟩ (c_Row_add l D cI cR cG h e i (a i) F (by omega) (by omega) hF _) (cwV 2 hkw (k_gV kw_methodLink_Ro_38 kw_instanceMethod_Ro_add kw_selects_Ro_add kw_initialized_Ro kw_code_Ro_add) rfl rfl rfl (by decide +kernel) ⟨(Nat.le_of_ble_eq_true rfl), (Nat.le_of_ble_eq_true rfl)⟩) (k_preV (q0 := 0) hK hG hP hD [0, 1] rfl rfl rfl rfl) rfl rfl hl.1 rfl (lv_room (Nat.le_of_ble_eq_true rfl)) d_Ro_addIn_38 ⟨Nat.zero_le _, Nat.zero_le _⟩) hP hD hS hA [0, 1] rfl (Eq.trans (b := [h, e]) rfl rfl) ?_
            clear hP hD hS; intro H locs hP hD hS
            replace hP : va_P D k_cl ([(h, .inr (2, [.ref e])), (e, .inl (cI, 30, .inl (kA (rAdd F i (a i))))), (ha, .inr (2, [.ref ea])), (ea, .inl (cI, 30, .inl (kA a))), (hb2, .inr (2, [.ref eb])), (eb, .inl (cI, 30, .inl (kA b)))]) H := hP
            replace hD : va_D A ([(h, .inr (2, [.ref e])), (e, .inl (cI, 30, .inl (kA (rAdd F i (a i))))), (ha, .inr (2, [.ref ea])), (ea, .inl (cI, 30, .inl (kA a))), (hb2, .inr (2, [.ref eb])), (eb, .inl (cI, 30, .inl (kA b)))]) := hD
            refine k_iinc (v := ↑(i + 1)) (lv' := [(3, .int (zI (↑(i + 1)))), (0, .ref h), (1, .ref ha), (2, .ref hb2)]) hx hb d_Ro_addIn_41 hl (k := 3) rfl (by omega) (by decide) rfl ?_
            clear hl; intro ls hl
            refine lv_goto (tgt := 2) hx hb d_Ro_addIn_44 (by decide) ?_
            exact ih_2 (i + 1) (rAdd F i (a i)) (by omega) (rAdd_le hF (by omega)) (by rw [rIn] at hgo; (repeat' split at hgo); all_goals first | exact hgo | (exfalso; omega) | contradiction) _ _ _ hP hD hS (lv_sub hl [1, 2, 3, 0] rfl)
  exact loop_2 30 0 G0 (by omega) hG0 rfl _ _ _ hP hD hS (lv_sub hl [1, 2, 3, 0] rfl)

abbrev rm_Row_addByNearness : Room := { frames := 3, cells := 0, slots := 0, locals := 65 }
set_option maxHeartbeats 4000000 in
set_option maxRecDepth 100000 in
theorem c_Row_addByNearness (l : Launch) (D : va_G) (cI cR cG : ClassId) (h e ha ea hb2 eb : Nat) (k : Int) (w : Bool) (G0 a b : Nat → Nat) (hk : -1 ≤ k ∧ k ≤ 30) (hG0 : ∀ j, G0 j ≤ 30) (ha30 : ∀ j, a j ≤ 30) (hb30 : ∀ j, b j ≤ 30) : k_M l y_Ro_addByNearness (.code y_Ro_addByNearness b_Ro_addByNearness 6 none :: kW) rm_Row_addByNearness D k_cl (k_ty cI cR cG) [.ref h, .ref ha, .ref hb2, .int (zI k), .int (k_b (w = true))] ([(h, .inr (2, [.ref e])), (e, .inl (cI, 30, .inl (kA G0))), (ha, .inr (2, [.ref ea])), (ea, .inl (cI, 30, .inl (kA a))), (hb2, .inr (2, [.ref eb])), (eb, .inl (cI, 30, .inl (kA b)))]) (k_Qv D k_cl [(h, .inr (2, [.ref e])), (e, .inl (cI, 30, .inl (kA (rNear a b k w 30 0 G0)))), (ha, .inr (2, [.ref ea])), (ea, .inl (cI, 30, .inl (kA a))), (hb2, .inr (2, [.ref eb])), (eb, .inl (cI, 30, .inl (kA b)))]) := by
  refine k_start (cc := b_Ro_addByNearness) (maxL := 6) (ret := none) (by decide) rfl (Nat.le_of_ble_eq_true rfl) ?_
  intro p ev s m ar below meth c A ls Qf hQf hx hb hr hml hts hown hlocks hin hK hG hA hP hD hS hl
  replace hown : s.vm.findClass R_Ro = some m.cls := hown
  replace hl : lv_has ls 6 [(0, .ref h), (1, .ref ha), (2, .ref hb2), (3, .int (zI k)), (4, .int (k_b (w = true)))] := hl
  have hkw : ∀ w ∈ kW, w.before ar s = true := fun w h => hts w (List.mem_cons_of_mem _ h)
  replace hP : va_P D k_cl ([(h, .inr (2, [.ref e])), (e, .inl (cI, 30, .inl (kA G0))), (ha, .inr (2, [.ref ea])), (ea, .inl (cI, 30, .inl (kA a))), (hb2, .inr (2, [.ref eb])), (eb, .inl (cI, 30, .inl (kA b)))]) s.heap := hP
  replace hD : va_D A ([(h, .inr (2, [.ref e])), (e, .inl (cI, 30, .inl (kA G0))), (ha, .inr (2, [.ref ea])), (ea, .inl (cI, 30, .inl (kA a))), (hb2, .inr (2, [.ref eb])), (eb, .inl (cI, 30, .inl (kA b)))]) := hD
  refine lv_iconst (v := zI 0) hx hb d_Ro_addByNearness_0 (by decide) ?_
  refine lv_istore (lv' := [(5, .int (zI 0)), (0, .ref h), (1, .ref ha), (2, .ref hb2), (3, .int (zI k)), (4, .int (k_b (w = true)))]) hx hb d_Ro_addByNearness_1 hl (by decide) rfl ?_
  clear hl; intro ls hl
  have loop_3 : ∀ (n : Nat) (i : Nat) (F : Nat → Nat), (i + n = 30) → (∀ j, F j ≤ 30) → (rNear a b k w n i F = rNear a b k w 30 0 G0) → ∀ (H : Heap) (locs : List Loc) (ls : Array Slot), va_P D k_cl ([(h, .inr (2, [.ref e])), (e, .inl (cI, 30, .inl (kA F))), (ha, .inr (2, [.ref ea])), (ea, .inl (cI, 30, .inl (kA a))), (hb2, .inr (2, [.ref eb])), (eb, .inl (cI, 30, .inl (kA b)))]) H → va_D A ([(h, .inr (2, [.ref e])), (e, .inl (cI, 30, .inl (kA F))), (ha, .inr (2, [.ref ea])), (ea, .inl (cI, 30, .inl (kA a))), (hb2, .inr (2, [.ref eb])), (eb, .inl (cI, 30, .inl (kA b)))]) → va_S A s.heap H locs → lv_has ls 6 [(0, .ref h), (1, .ref ha), (2, .ref hb2), (3, .int (zI k)), (4, .int (k_b (w = true))), (5, .int (zI ↑i))] → W p l ev rm_Row_addByNearness s m ar below meth c H locs 0 0 Qf (F0 m 3 ls []) := by
    intro n
    induction n with
    | zero =>
      intro i F hin hF hgo H locs ls hP hD hS hl
      refine lv_iload hx hb d_Ro_addByNearness_3 (lv_at hl 5 rfl) ?_
      refine lv_bipush (v := zI 30) hx hb d_Ro_addByNearness_5 (by decide) ?_
      refine k_icmp_ge (tgt := 57) hx hb d_Ro_addByNearness_7 (by decide) ⟨by omega, by omega⟩ ⟨by omega, by omega⟩ (fun c_7 => ?_) (fun c_7 => ?_)
      · rw [← hQf]
        have hP : va_P D k_cl [(h, .inr (2, [.ref e])), (e, .inl (cI, 30, .inl (kA (rNear a b k w 30 0 G0)))), (ha, .inr (2, [.ref ea])), (ea, .inl (cI, 30, .inl (kA a))), (hb2, .inr (2, [.ref eb])), (eb, .inl (cI, 30, .inl (kA b)))] H := by
          rw [show rNear a b k w 30 0 G0 = F from hgo.symm]
          exact hP
        exact k_vret hx hb hr hlocks hP hS d_Ro_addByNearness_57
      · exfalso; omega
    | succ n ih_3 =>
      intro i F hin hF hgo H locs ls hP hD hS hl
      refine lv_iload hx hb d_Ro_addByNearness_3 (lv_at hl 5 rfl) ?_
      refine lv_bipush (v := zI 30) hx hb d_Ro_addByNearness_5 (by decide) ?_
      refine k_icmp_ge (tgt := 57) hx hb d_Ro_addByNearness_7 (by decide) ⟨by omega, by omega⟩ ⟨by omega, by omega⟩ (fun c_7 => ?_) (fun c_7 => ?_)
      · exfalso; omega
      · refine lv_aload_n hx hb d_Ro_addByNearness_10 rfl (lv_at hl 1 rfl) ?_
        refine lv_iload hx hb d_Ro_addByNearness_11 (lv_at hl 5 rfl) ?_
        refine k_beI (va_runV (As := [.int (zI ↑i)]) (rest := []) ⟨hx, hb, hml, hown, hkw⟩ (c_Row_beginsAt l D cI cR cG ha ea i a (by omega) ha30 _) (cwV 1 hkw (k_gV kw_methodLink_Ro_25 kw_instanceMethod_Ro_beginsAt kw_selects_Ro_beginsAt kw_initialized_Ro kw_code_Ro_beginsAt) rfl rfl rfl (by decide +kernel) ⟨(Nat.le_of_ble_eq_true rfl), (Nat.le_of_ble_eq_true rfl)⟩) (k_preV (q0 := 0) hK hG hP hD [2, 3] rfl rfl rfl rfl) rfl rfl hl.1 rfl (lv_room (Nat.le_of_ble_eq_true rfl)) d_Ro_addByNearness_13 ⟨Nat.zero_le _, Nat.zero_le _⟩) hP hD hS hA [2, 3] rfl (Eq.trans (b := [ha, ea]) rfl rfl) ?_
        clear hP hD hS; intro H locs hP hD hS
        replace hP : va_P D k_cl ([(h, .inr (2, [.ref e])), (e, .inl (cI, 30, .inl (kA F))), (ha, .inr (2, [.ref ea])), (ea, .inl (cI, 30, .inl (kA a))), (hb2, .inr (2, [.ref eb])), (eb, .inl (cI, 30, .inl (kA b)))]) H := hP
        replace hD : va_D A ([(h, .inr (2, [.ref e])), (e, .inl (cI, 30, .inl (kA F))), (ha, .inr (2, [.ref ea])), (ea, .inl (cI, 30, .inl (kA a))), (hb2, .inr (2, [.ref eb])), (eb, .inl (cI, 30, .inl (kA b)))]) := hD
        refine k_bif_eq (tgt := 51) hx hb d_Ro_addByNearness_16 (by decide) (fun c_16 => ?_) (fun c_16 => ?_)
        · refine k_iinc (v := ↑(i + 1)) (lv' := [(5, .int (zI (↑(i + 1)))), (0, .ref h), (1, .ref ha), (2, .ref hb2), (3, .int (zI k)), (4, .int (k_b (w = true)))]) hx hb d_Ro_addByNearness_51 hl (k := 5) rfl (by omega) (by decide) rfl ?_
          clear hl; intro ls hl
          refine lv_goto (tgt := 3) hx hb d_Ro_addByNearness_54 (by decide) ?_
          exact ih_3 (i + 1) F (by omega) hF (by rw [rNear] at hgo; (repeat' split at hgo); all_goals first | exact hgo | (exfalso; omega) | contradiction) _ _ _ hP hD hS (lv_sub hl [1, 2, 3, 4, 5, 0] rfl)
        · refine lv_aload_n hx hb d_Ro_addByNearness_19 rfl (lv_at hl 2 rfl) ?_
          refine lv_iload hx hb d_Ro_addByNearness_20 (lv_at hl 5 rfl) ?_
          refine lv_aload_n hx hb d_Ro_addByNearness_22 rfl (lv_at hl 1 rfl) ?_
          refine va_get (D := D) (ci := 2) (v := .ref ea) (C := R_Ro) (T := T_Ro) (N := 1) hx hb hkw kin_Ro hown hK hP 2 rfl rfl 0 (by decide) (hkw _ kw_fieldLink_Ro_9) (fun _ h9 => h9) rfl d_Ro_addByNearness_23 ?_
          refine lv_iload hx hb d_Ro_addByNearness_26 (lv_at hl 5 rfl) ?_
          refine k_ald hx hb hK hP 3 0 rfl rfl (i := i) (by omega) (by omega) (by omega) d_Ro_addByNearness_28 ?_
          have hv_1 := ha30 i
          refine lv_iload_n hx hb d_Ro_addByNearness_29 rfl (lv_at hl 3 rfl) ?_
          refine k_beI (va_runV (As := [.int (zI ↑i), .int (zI (↑(a i))), .int (zI k)]) (rest := []) ⟨hx, hb, hml, hown, hkw⟩ (c_Row_hasNear l D cI cR cG hb2 eb i (a i) k b (by omega) (by omega) (by omega) hb30 _) (cwV 3 hkw (k_gV kw_methodLink_Ro_63 kw_instanceMethod_Ro_hasNear kw_selects_Ro_hasNear kw_initialized_Ro kw_code_Ro_hasNear) rfl rfl rfl (by decide +kernel) ⟨(Nat.le_of_ble_eq_true rfl), (Nat.le_of_ble_eq_true rfl)⟩) (k_preV (q0 := 0) hK hG hP hD [4, 5] rfl rfl rfl rfl) rfl rfl hl.1 rfl (lv_room (Nat.le_of_ble_eq_true rfl)) d_Ro_addByNearness_30 ⟨Nat.zero_le _, Nat.zero_le _⟩) hP hD hS hA [4, 5] rfl (Eq.trans (b := [hb2, eb]) rfl rfl) ?_
          clear hP hD hS; intro H locs hP hD hS
          replace hP : va_P D k_cl ([(h, .inr (2, [.ref e])), (e, .inl (cI, 30, .inl (kA F))), (ha, .inr (2, [.ref ea])), (ea, .inl (cI, 30, .inl (kA a))), (hb2, .inr (2, [.ref eb])), (eb, .inl (cI, 30, .inl (kA b)))]) H := hP
          replace hD : va_D A ([(h, .inr (2, [.ref e])), (e, .inl (cI, 30, .inl (kA F))), (ha, .inr (2, [.ref ea])), (ea, .inl (cI, 30, .inl (kA a))), (hb2, .inr (2, [.ref eb])), (eb, .inl (cI, 30, .inl (kA b)))]) := hD
          refine lv_iload hx hb d_Ro_addByNearness_33 (lv_at hl 4 rfl) ?_
          refine k_bcmp_ne (tgt := 51) hx hb d_Ro_addByNearness_35 (by decide) (fun c_35 => ?_) (fun c_35 => ?_)
          · refine k_iinc (v := ↑(i + 1)) (lv' := [(5, .int (zI (↑(i + 1)))), (0, .ref h), (1, .ref ha), (2, .ref hb2), (3, .int (zI k)), (4, .int (k_b (w = true)))]) hx hb d_Ro_addByNearness_51 hl (k := 5) rfl (by omega) (by decide) rfl ?_
            clear hl; intro ls hl
            refine lv_goto (tgt := 3) hx hb d_Ro_addByNearness_54 (by decide) ?_
            exact ih_3 (i + 1) F (by omega) hF (by rw [rNear] at hgo; (repeat' split at hgo); all_goals first | exact hgo | (exfalso; omega) | contradiction) _ _ _ hP hD hS (lv_sub hl [1, 2, 3, 4, 5, 0] rfl)
          · refine lv_aload_n hx hb d_Ro_addByNearness_38 rfl (lv_at hl 0 rfl) ?_
            refine lv_iload hx hb d_Ro_addByNearness_39 (lv_at hl 5 rfl) ?_
            refine lv_aload_n hx hb d_Ro_addByNearness_41 rfl (lv_at hl 1 rfl) ?_
            refine va_get (D := D) (ci := 2) (v := .ref ea) (C := R_Ro) (T := T_Ro) (N := 1) hx hb hkw kin_Ro hown hK hP 2 rfl rfl 0 (by decide) (hkw _ kw_fieldLink_Ro_9) (fun _ h9 => h9) rfl d_Ro_addByNearness_42 ?_
            refine lv_iload hx hb d_Ro_addByNearness_45 (lv_at hl 5 rfl) ?_
            refine k_ald hx hb hK hP 3 0 rfl rfl (i := i) (by omega) (by omega) (by omega) d_Ro_addByNearness_47 ?_
            have hv_2 := ha30 i
            refine k_beV (va_runV (As := [.int (zI ↑i), .int (zI (↑(a i)))]) (rest := []) ⟨hx, hb, hml, hown, hkw⟩ (c_Row_add l D cI cR cG h e i (a i) F (by omega) (by omega) hF _) (cwV 2 hkw (k_gV kw_methodLink_Ro_38 kw_instanceMethod_Ro_add kw_selects_Ro_add kw_initialized_Ro kw_code_Ro_add) rfl rfl rfl (by decide +kernel) ⟨(Nat.le_of_ble_eq_true rfl), (Nat.le_of_ble_eq_true rfl)⟩) (k_preV (q0 := 0) hK hG hP hD [0, 1] rfl rfl rfl rfl) rfl rfl hl.1 rfl (lv_room (Nat.le_of_ble_eq_true rfl)) d_Ro_addByNearness_48 ⟨Nat.zero_le _, Nat.zero_le _⟩) hP hD hS hA [0, 1] rfl (Eq.trans (b := [h, e]) rfl rfl) ?_
            clear hP hD hS; intro H locs hP hD hS
            replace hP : va_P D k_cl ([(h, .inr (2, [.ref e])), (e, .inl (cI, 30, .inl (kA (rAdd F i (a i))))), (ha, .inr (2, [.ref ea])), (ea, .inl (cI, 30, .inl (kA a))), (hb2, .inr (2, [.ref eb])), (eb, .inl (cI, 30, .inl (kA b)))]) H := hP
            replace hD : va_D A ([(h, .inr (2, [.ref e])), (e, .inl (cI, 30, .inl (kA (rAdd F i (a i))))), (ha, .inr (2, [.ref ea])), (ea, .inl (cI, 30, .inl (kA a))), (hb2, .inr (2, [.ref eb])), (eb, .inl (cI, 30, .inl (kA b)))]) := hD
            refine k_iinc (v := ↑(i + 1)) (lv' := [(5, .int (zI (↑(i + 1)))), (0, .ref h), (1, .ref ha), (2, .ref hb2), (3, .int (zI k)), (4, .int (k_b (w = true)))]) hx hb d_Ro_addByNearness_51 hl (k := 5) rfl (by omega) (by decide) rfl ?_
            clear hl; intro ls hl
            refine lv_goto (tgt := 3) hx hb d_Ro_addByNearness_54 (by decide) ?_
            exact ih_3 (i + 1) (rAdd F i (a i)) (by omega) (rAdd_le hF (by omega)) (by rw [rNear] at hgo; (repeat' split at hgo); all_goals first | exact hgo | (exfalso; omega) | contradiction) _ _ _ hP hD hS (lv_sub hl [1, 2, 3, 4, 5, 0] rfl)
  exact loop_3 30 0 G0 (by omega) hG0 rfl _ _ _ hP hD hS (lv_sub hl [1, 2, 3, 4, 5, 0] rfl)

abbrev rm_Row_addBehind_same : Room := { frames := 3, cells := 0, slots := 0, locals := 67 }
set_option maxHeartbeats 4000000 in
set_option maxRecDepth 100000 in
theorem c_Row_addBehind_same (l : Launch) (D : va_G) (cI cR cG : ClassId) (h e ha ea k : Nat) (G0 a : Nat → Nat) (hk : k ≤ 30) (hG0 : ∀ j, G0 j ≤ 30) (ha30 : ∀ j, a j ≤ 30) : k_M l y_Ro_addBehind (.code y_Ro_addBehind b_Ro_addBehind 5 none :: kW) rm_Row_addBehind_same D k_cl (k_ty cI cR cG) [.ref h, .ref ha, .ref ha, .int (zI ↑k)] ([(h, .inr (2, [.ref e])), (e, .inl (cI, 30, .inl (kA G0))), (ha, .inr (2, [.ref ea])), (ea, .inl (cI, 30, .inl (kA a)))]) (k_Qv D k_cl [(h, .inr (2, [.ref e])), (e, .inl (cI, 30, .inl (kA (rBehind a a k 30 0 G0)))), (ha, .inr (2, [.ref ea])), (ea, .inl (cI, 30, .inl (kA a)))]) := by
  refine k_start (cc := b_Ro_addBehind) (maxL := 5) (ret := none) (by decide) rfl (Nat.le_of_ble_eq_true rfl) ?_
  intro p ev s m ar below meth c A ls Qf hQf hx hb hr hml hts hown hlocks hin hK hG hA hP hD hS hl
  replace hown : s.vm.findClass R_Ro = some m.cls := hown
  replace hl : lv_has ls 5 [(0, .ref h), (1, .ref ha), (2, .ref ha), (3, .int (zI ↑k))] := hl
  have hkw : ∀ w ∈ kW, w.before ar s = true := fun w h => hts w (List.mem_cons_of_mem _ h)
  replace hP : va_P D k_cl ([(h, .inr (2, [.ref e])), (e, .inl (cI, 30, .inl (kA G0))), (ha, .inr (2, [.ref ea])), (ea, .inl (cI, 30, .inl (kA a)))]) s.heap := hP
  replace hD : va_D A ([(h, .inr (2, [.ref e])), (e, .inl (cI, 30, .inl (kA G0))), (ha, .inr (2, [.ref ea])), (ea, .inl (cI, 30, .inl (kA a)))]) := hD
  refine lv_iconst (v := zI 0) hx hb d_Ro_addBehind_0 (by decide) ?_
  refine lv_istore (lv' := [(4, .int (zI 0)), (0, .ref h), (1, .ref ha), (2, .ref ha), (3, .int (zI ↑k))]) hx hb d_Ro_addBehind_1 hl (by decide) rfl ?_
  clear hl; intro ls hl
  have loop_3 : ∀ (n : Nat) (i : Nat) (F : Nat → Nat), (i + n = 30) → (∀ j, F j ≤ 30) → (rBehind a a k n i F = rBehind a a k 30 0 G0) → ∀ (H : Heap) (locs : List Loc) (ls : Array Slot), va_P D k_cl ([(h, .inr (2, [.ref e])), (e, .inl (cI, 30, .inl (kA F))), (ha, .inr (2, [.ref ea])), (ea, .inl (cI, 30, .inl (kA a)))]) H → va_D A ([(h, .inr (2, [.ref e])), (e, .inl (cI, 30, .inl (kA F))), (ha, .inr (2, [.ref ea])), (ea, .inl (cI, 30, .inl (kA a)))]) → va_S A s.heap H locs → lv_has ls 5 [(0, .ref h), (1, .ref ha), (2, .ref ha), (3, .int (zI ↑k)), (4, .int (zI ↑i))] → W p l ev rm_Row_addBehind_same s m ar below meth c H locs 0 0 Qf (F0 m 3 ls []) := by
    intro n
    induction n with
    | zero =>
      intro i F hin hF hgo H locs ls hP hD hS hl
      refine lv_iload hx hb d_Ro_addBehind_3 (lv_at hl 4 rfl) ?_
      refine lv_bipush (v := zI 30) hx hb d_Ro_addBehind_5 (by decide) ?_
      refine k_icmp_ge (tgt := 40) hx hb d_Ro_addBehind_7 (by decide) ⟨by omega, by omega⟩ ⟨by omega, by omega⟩ (fun c_7 => ?_) (fun c_7 => ?_)
      · rw [← hQf]
        have hP : va_P D k_cl [(h, .inr (2, [.ref e])), (e, .inl (cI, 30, .inl (kA (rBehind a a k 30 0 G0)))), (ha, .inr (2, [.ref ea])), (ea, .inl (cI, 30, .inl (kA a)))] H := by
          rw [show rBehind a a k 30 0 G0 = F from hgo.symm]
          exact hP
        exact k_vret hx hb hr hlocks hP hS d_Ro_addBehind_40
      · exfalso; omega
    | succ n ih_3 =>
      intro i F hin hF hgo H locs ls hP hD hS hl
      refine lv_iload hx hb d_Ro_addBehind_3 (lv_at hl 4 rfl) ?_
      refine lv_bipush (v := zI 30) hx hb d_Ro_addBehind_5 (by decide) ?_
      refine k_icmp_ge (tgt := 40) hx hb d_Ro_addBehind_7 (by decide) ⟨by omega, by omega⟩ ⟨by omega, by omega⟩ (fun c_7 => ?_) (fun c_7 => ?_)
      · exfalso; omega
      · refine lv_aload_n hx hb d_Ro_addBehind_10 rfl (lv_at hl 1 rfl) ?_
        refine lv_iload hx hb d_Ro_addBehind_11 (lv_at hl 4 rfl) ?_
        refine k_beI (va_runV (As := [.int (zI ↑i)]) (rest := []) ⟨hx, hb, hml, hown, hkw⟩ (c_Row_beginsAt l D cI cR cG ha ea i a (by omega) ha30 _) (cwV 1 hkw (k_gV kw_methodLink_Ro_25 kw_instanceMethod_Ro_beginsAt kw_selects_Ro_beginsAt kw_initialized_Ro kw_code_Ro_beginsAt) rfl rfl rfl (by decide +kernel) ⟨(Nat.le_of_ble_eq_true rfl), (Nat.le_of_ble_eq_true rfl)⟩) (k_preV (q0 := 0) hK hG hP hD [2, 3] rfl rfl rfl rfl) rfl rfl hl.1 rfl (lv_room (Nat.le_of_ble_eq_true rfl)) d_Ro_addBehind_13 ⟨Nat.zero_le _, Nat.zero_le _⟩) hP hD hS hA [2, 3] rfl (Eq.trans (b := [ha, ea]) rfl rfl) ?_
        clear hP hD hS; intro H locs hP hD hS
        replace hP : va_P D k_cl ([(h, .inr (2, [.ref e])), (e, .inl (cI, 30, .inl (kA F))), (ha, .inr (2, [.ref ea])), (ea, .inl (cI, 30, .inl (kA a)))]) H := hP
        replace hD : va_D A ([(h, .inr (2, [.ref e])), (e, .inl (cI, 30, .inl (kA F))), (ha, .inr (2, [.ref ea])), (ea, .inl (cI, 30, .inl (kA a)))]) := hD
        refine k_bif_eq (tgt := 34) hx hb d_Ro_addBehind_16 (by decide) (fun c_16 => ?_) (fun c_16 => ?_)
        · refine k_iinc (v := ↑(i + 1)) (lv' := [(4, .int (zI (↑(i + 1)))), (0, .ref h), (1, .ref ha), (2, .ref ha), (3, .int (zI ↑k))]) hx hb d_Ro_addBehind_34 hl (k := 4) rfl (by omega) (by decide) rfl ?_
          clear hl; intro ls hl
          refine lv_goto (tgt := 3) hx hb d_Ro_addBehind_37 (by decide) ?_
          exact ih_3 (i + 1) F (by omega) hF (by rw [rBehind] at hgo; (repeat' split at hgo); all_goals first | exact hgo | (exfalso; omega) | contradiction) _ _ _ hP hD hS (lv_sub hl [1, 2, 3, 4, 0] rfl)
        · refine lv_aload_n hx hb d_Ro_addBehind_19 rfl (lv_at hl 0 rfl) ?_
          refine lv_iload hx hb d_Ro_addBehind_20 (lv_at hl 4 rfl) ?_
          refine lv_aload_n hx hb d_Ro_addBehind_22 rfl (lv_at hl 1 rfl) ?_
          refine va_get (D := D) (ci := 2) (v := .ref ea) (C := R_Ro) (T := T_Ro) (N := 1) hx hb hkw kin_Ro hown hK hP 2 rfl rfl 0 (by decide) (hkw _ kw_fieldLink_Ro_9) (fun _ h9 => h9) rfl d_Ro_addBehind_23 ?_
          refine lv_iload hx hb d_Ro_addBehind_26 (lv_at hl 4 rfl) ?_
          refine k_ald hx hb hK hP 3 0 rfl rfl (i := i) (by omega) (by omega) (by omega) d_Ro_addBehind_28 ?_
          have hv_1 := ha30 i
          refine lv_aload_n hx hb d_Ro_addBehind_29 rfl (lv_at hl 2 rfl) ?_
          refine lv_iload_n hx hb d_Ro_addBehind_30 rfl (lv_at hl 3 rfl) ?_
          refine k_beV (va_runV (As := [.int (zI ↑i), .int (zI (↑(a i))), .ref ha, .int (zI ↑k)]) (rest := []) ⟨hx, hb, hml, hown, hkw⟩ (c_Row_addBehindOne l D cI cR cG h e ha ea i (a i) k F a (by omega) (by omega) (by omega) hF ha30 _) (cwV 4 hkw (k_gV kw_methodLink_Ro_46 kw_instanceMethod_Ro_addBehindOne kw_selects_Ro_addBehindOne kw_initialized_Ro kw_code_Ro_addBehindOne) rfl rfl rfl (by decide +kernel) ⟨(Nat.le_of_ble_eq_true rfl), (Nat.le_of_ble_eq_true rfl)⟩) (k_preV (q0 := 0) hK hG hP hD [0, 1, 2, 3] rfl rfl rfl rfl) rfl rfl hl.1 rfl (lv_room (Nat.le_of_ble_eq_true rfl)) d_Ro_addBehind_31 ⟨Nat.zero_le _, Nat.zero_le _⟩) hP hD hS hA [0, 1, 2, 3] rfl (Eq.trans (b := [h, e, ha, ea]) rfl rfl) ?_
          clear hP hD hS; intro H locs hP hD hS
          replace hP : va_P D k_cl ([(h, .inr (2, [.ref e])), (e, .inl (cI, 30, .inl (kA (rBehind1 a i (a i) k (29 - (a i)) ((a i) + 1) F)))), (ha, .inr (2, [.ref ea])), (ea, .inl (cI, 30, .inl (kA a)))]) H := hP
          replace hD : va_D A ([(h, .inr (2, [.ref e])), (e, .inl (cI, 30, .inl (kA (rBehind1 a i (a i) k (29 - (a i)) ((a i) + 1) F)))), (ha, .inr (2, [.ref ea])), (ea, .inl (cI, 30, .inl (kA a)))]) := hD
          refine k_iinc (v := ↑(i + 1)) (lv' := [(4, .int (zI (↑(i + 1)))), (0, .ref h), (1, .ref ha), (2, .ref ha), (3, .int (zI ↑k))]) hx hb d_Ro_addBehind_34 hl (k := 4) rfl (by omega) (by decide) rfl ?_
          clear hl; intro ls hl
          refine lv_goto (tgt := 3) hx hb d_Ro_addBehind_37 (by decide) ?_
          exact ih_3 (i + 1) (rBehind1 a i (a i) k (29 - (a i)) ((a i) + 1) F) (by omega) (r_bd_rBehind1 hF ha30) (by rw [rBehind] at hgo; (repeat' split at hgo); all_goals first | exact hgo | (exfalso; omega) | contradiction) _ _ _ hP hD hS (lv_sub hl [1, 2, 3, 4, 0] rfl)
  exact loop_3 30 0 G0 (by omega) hG0 rfl _ _ _ hP hD hS (lv_sub hl [1, 2, 3, 4, 0] rfl)

abbrev rm_Row_addBoth_same : Room := { frames := 3, cells := 0, slots := 0, locals := 69 }
set_option maxHeartbeats 4000000 in
set_option maxRecDepth 100000 in
theorem c_Row_addBoth_same (l : Launch) (D : va_G) (cI cR cG : ClassId) (h e ha ea k : Nat) (G0 a : Nat → Nat) (hk : k ≤ 30) (hG0 : ∀ j, G0 j ≤ 30) (ha30 : ∀ j, a j ≤ 30) : k_M l y_Ro_addBoth (.code y_Ro_addBoth b_Ro_addBoth 5 none :: kW) rm_Row_addBoth_same D k_cl (k_ty cI cR cG) [.ref h, .ref ha, .ref ha, .int (zI ↑k)] ([(h, .inr (2, [.ref e])), (e, .inl (cI, 30, .inl (kA G0))), (ha, .inr (2, [.ref ea])), (ea, .inl (cI, 30, .inl (kA a)))]) (k_Qv D k_cl [(h, .inr (2, [.ref e])), (e, .inl (cI, 30, .inl (kA (rBoth a a k 30 0 G0)))), (ha, .inr (2, [.ref ea])), (ea, .inl (cI, 30, .inl (kA a)))]) := by
  refine k_start (cc := b_Ro_addBoth) (maxL := 5) (ret := none) (by decide) rfl (Nat.le_of_ble_eq_true rfl) ?_
  intro p ev s m ar below meth c A ls Qf hQf hx hb hr hml hts hown hlocks hin hK hG hA hP hD hS hl
  replace hown : s.vm.findClass R_Ro = some m.cls := hown
  replace hl : lv_has ls 5 [(0, .ref h), (1, .ref ha), (2, .ref ha), (3, .int (zI ↑k))] := hl
  have hkw : ∀ w ∈ kW, w.before ar s = true := fun w h => hts w (List.mem_cons_of_mem _ h)
  replace hP : va_P D k_cl ([(h, .inr (2, [.ref e])), (e, .inl (cI, 30, .inl (kA G0))), (ha, .inr (2, [.ref ea])), (ea, .inl (cI, 30, .inl (kA a)))]) s.heap := hP
  replace hD : va_D A ([(h, .inr (2, [.ref e])), (e, .inl (cI, 30, .inl (kA G0))), (ha, .inr (2, [.ref ea])), (ea, .inl (cI, 30, .inl (kA a)))]) := hD
  refine lv_iconst (v := zI 0) hx hb d_Ro_addBoth_0 (by decide) ?_
  refine lv_istore (lv' := [(4, .int (zI 0)), (0, .ref h), (1, .ref ha), (2, .ref ha), (3, .int (zI ↑k))]) hx hb d_Ro_addBoth_1 hl (by decide) rfl ?_
  clear hl; intro ls hl
  have loop_3 : ∀ (n : Nat) (i : Nat) (F : Nat → Nat), (i + n = 30) → (∀ j, F j ≤ 30) → (rBoth a a k n i F = rBoth a a k 30 0 G0) → ∀ (H : Heap) (locs : List Loc) (ls : Array Slot), va_P D k_cl ([(h, .inr (2, [.ref e])), (e, .inl (cI, 30, .inl (kA F))), (ha, .inr (2, [.ref ea])), (ea, .inl (cI, 30, .inl (kA a)))]) H → va_D A ([(h, .inr (2, [.ref e])), (e, .inl (cI, 30, .inl (kA F))), (ha, .inr (2, [.ref ea])), (ea, .inl (cI, 30, .inl (kA a)))]) → va_S A s.heap H locs → lv_has ls 5 [(0, .ref h), (1, .ref ha), (2, .ref ha), (3, .int (zI ↑k)), (4, .int (zI ↑i))] → W p l ev rm_Row_addBoth_same s m ar below meth c H locs 0 0 Qf (F0 m 3 ls []) := by
    intro n
    induction n with
    | zero =>
      intro i F hin hF hgo H locs ls hP hD hS hl
      refine lv_iload hx hb d_Ro_addBoth_3 (lv_at hl 4 rfl) ?_
      refine lv_bipush (v := zI 30) hx hb d_Ro_addBoth_5 (by decide) ?_
      refine k_icmp_ge (tgt := 40) hx hb d_Ro_addBoth_7 (by decide) ⟨by omega, by omega⟩ ⟨by omega, by omega⟩ (fun c_7 => ?_) (fun c_7 => ?_)
      · rw [← hQf]
        have hP : va_P D k_cl [(h, .inr (2, [.ref e])), (e, .inl (cI, 30, .inl (kA (rBoth a a k 30 0 G0)))), (ha, .inr (2, [.ref ea])), (ea, .inl (cI, 30, .inl (kA a)))] H := by
          rw [show rBoth a a k 30 0 G0 = F from hgo.symm]
          exact hP
        exact k_vret hx hb hr hlocks hP hS d_Ro_addBoth_40
      · exfalso; omega
    | succ n ih_3 =>
      intro i F hin hF hgo H locs ls hP hD hS hl
      refine lv_iload hx hb d_Ro_addBoth_3 (lv_at hl 4 rfl) ?_
      refine lv_bipush (v := zI 30) hx hb d_Ro_addBoth_5 (by decide) ?_
      refine k_icmp_ge (tgt := 40) hx hb d_Ro_addBoth_7 (by decide) ⟨by omega, by omega⟩ ⟨by omega, by omega⟩ (fun c_7 => ?_) (fun c_7 => ?_)
      · exfalso; omega
      · refine lv_aload_n hx hb d_Ro_addBoth_10 rfl (lv_at hl 1 rfl) ?_
        refine lv_iload hx hb d_Ro_addBoth_11 (lv_at hl 4 rfl) ?_
        refine k_beI (va_runV (As := [.int (zI ↑i)]) (rest := []) ⟨hx, hb, hml, hown, hkw⟩ (c_Row_beginsAt l D cI cR cG ha ea i a (by omega) ha30 _) (cwV 1 hkw (k_gV kw_methodLink_Ro_25 kw_instanceMethod_Ro_beginsAt kw_selects_Ro_beginsAt kw_initialized_Ro kw_code_Ro_beginsAt) rfl rfl rfl (by decide +kernel) ⟨(Nat.le_of_ble_eq_true rfl), (Nat.le_of_ble_eq_true rfl)⟩) (k_preV (q0 := 0) hK hG hP hD [2, 3] rfl rfl rfl rfl) rfl rfl hl.1 rfl (lv_room (Nat.le_of_ble_eq_true rfl)) d_Ro_addBoth_13 ⟨Nat.zero_le _, Nat.zero_le _⟩) hP hD hS hA [2, 3] rfl (Eq.trans (b := [ha, ea]) rfl rfl) ?_
        clear hP hD hS; intro H locs hP hD hS
        replace hP : va_P D k_cl ([(h, .inr (2, [.ref e])), (e, .inl (cI, 30, .inl (kA F))), (ha, .inr (2, [.ref ea])), (ea, .inl (cI, 30, .inl (kA a)))]) H := hP
        replace hD : va_D A ([(h, .inr (2, [.ref e])), (e, .inl (cI, 30, .inl (kA F))), (ha, .inr (2, [.ref ea])), (ea, .inl (cI, 30, .inl (kA a)))]) := hD
        refine k_bif_eq (tgt := 34) hx hb d_Ro_addBoth_16 (by decide) (fun c_16 => ?_) (fun c_16 => ?_)
        · refine k_iinc (v := ↑(i + 1)) (lv' := [(4, .int (zI (↑(i + 1)))), (0, .ref h), (1, .ref ha), (2, .ref ha), (3, .int (zI ↑k))]) hx hb d_Ro_addBoth_34 hl (k := 4) rfl (by omega) (by decide) rfl ?_
          clear hl; intro ls hl
          refine lv_goto (tgt := 3) hx hb d_Ro_addBoth_37 (by decide) ?_
          exact ih_3 (i + 1) F (by omega) hF (by rw [rBoth] at hgo; (repeat' split at hgo); all_goals first | exact hgo | (exfalso; omega) | contradiction) _ _ _ hP hD hS (lv_sub hl [1, 2, 3, 4, 0] rfl)
        · refine lv_aload_n hx hb d_Ro_addBoth_19 rfl (lv_at hl 0 rfl) ?_
          refine lv_iload hx hb d_Ro_addBoth_20 (lv_at hl 4 rfl) ?_
          refine lv_aload_n hx hb d_Ro_addBoth_22 rfl (lv_at hl 1 rfl) ?_
          refine va_get (D := D) (ci := 2) (v := .ref ea) (C := R_Ro) (T := T_Ro) (N := 1) hx hb hkw kin_Ro hown hK hP 2 rfl rfl 0 (by decide) (hkw _ kw_fieldLink_Ro_9) (fun _ h9 => h9) rfl d_Ro_addBoth_23 ?_
          refine lv_iload hx hb d_Ro_addBoth_26 (lv_at hl 4 rfl) ?_
          refine k_ald hx hb hK hP 3 0 rfl rfl (i := i) (by omega) (by omega) (by omega) d_Ro_addBoth_28 ?_
          have hv_1 := ha30 i
          refine lv_aload_n hx hb d_Ro_addBoth_29 rfl (lv_at hl 2 rfl) ?_
          refine lv_iload_n hx hb d_Ro_addBoth_30 rfl (lv_at hl 3 rfl) ?_
          refine k_beV (va_runV (As := [.int (zI ↑i), .int (zI (↑(a i))), .ref ha, .int (zI ↑k)]) (rest := []) ⟨hx, hb, hml, hown, hkw⟩ (c_Row_addBothOfOne l D cI cR cG h e ha ea i (a i) k F a (by omega) (by omega) (by omega) hF ha30 _) (cwV 4 hkw (k_gV kw_methodLink_Ro_50 kw_instanceMethod_Ro_addBothOfOne kw_selects_Ro_addBothOfOne kw_initialized_Ro kw_code_Ro_addBothOfOne) rfl rfl rfl (by decide +kernel) ⟨(Nat.le_of_ble_eq_true rfl), (Nat.le_of_ble_eq_true rfl)⟩) (k_preV (q0 := 0) hK hG hP hD [0, 1, 2, 3] rfl rfl rfl rfl) rfl rfl hl.1 rfl (lv_room (Nat.le_of_ble_eq_true rfl)) d_Ro_addBoth_31 ⟨Nat.zero_le _, Nat.zero_le _⟩) hP hD hS hA [0, 1, 2, 3] rfl (Eq.trans (b := [h, e, ha, ea]) rfl rfl) ?_
          clear hP hD hS; intro H locs hP hD hS
          replace hP : va_P D k_cl ([(h, .inr (2, [.ref e])), (e, .inl (cI, 30, .inl (kA (rBoth1 a i (a i) k 30 0 F)))), (ha, .inr (2, [.ref ea])), (ea, .inl (cI, 30, .inl (kA a)))]) H := hP
          replace hD : va_D A ([(h, .inr (2, [.ref e])), (e, .inl (cI, 30, .inl (kA (rBoth1 a i (a i) k 30 0 F)))), (ha, .inr (2, [.ref ea])), (ea, .inl (cI, 30, .inl (kA a)))]) := hD
          refine k_iinc (v := ↑(i + 1)) (lv' := [(4, .int (zI (↑(i + 1)))), (0, .ref h), (1, .ref ha), (2, .ref ha), (3, .int (zI ↑k))]) hx hb d_Ro_addBoth_34 hl (k := 4) rfl (by omega) (by decide) rfl ?_
          clear hl; intro ls hl
          refine lv_goto (tgt := 3) hx hb d_Ro_addBoth_37 (by decide) ?_
          exact ih_3 (i + 1) (rBoth1 a i (a i) k 30 0 F) (by omega) (r_bd_rBoth1 hF ha30 (by omega)) (by rw [rBoth] at hgo; (repeat' split at hgo); all_goals first | exact hgo | (exfalso; omega) | contradiction) _ _ _ hP hD hS (lv_sub hl [1, 2, 3, 4, 0] rfl)
  exact loop_3 30 0 G0 (by omega) hG0 rfl _ _ _ hP hD hS (lv_sub hl [1, 2, 3, 4, 0] rfl)

abbrev rm_Row_addHolding_same : Room := { frames := 3, cells := 0, slots := 0, locals := 64 }
set_option maxHeartbeats 4000000 in
set_option maxRecDepth 100000 in
theorem c_Row_addHolding_same (l : Launch) (D : va_G) (cI cR cG : ClassId) (h e ha ea : Nat) (G0 a : Nat → Nat) (hG0 : ∀ j, G0 j ≤ 30) (ha30 : ∀ j, a j ≤ 30) : k_M l y_Ro_addHolding (.code y_Ro_addHolding b_Ro_addHolding 4 none :: kW) rm_Row_addHolding_same D k_cl (k_ty cI cR cG) [.ref h, .ref ha, .ref ha] ([(h, .inr (2, [.ref e])), (e, .inl (cI, 30, .inl (kA G0))), (ha, .inr (2, [.ref ea])), (ea, .inl (cI, 30, .inl (kA a)))]) (k_Qv D k_cl [(h, .inr (2, [.ref e])), (e, .inl (cI, 30, .inl (kA (rHolding a a 30 0 G0)))), (ha, .inr (2, [.ref ea])), (ea, .inl (cI, 30, .inl (kA a)))]) := by
  refine k_start (cc := b_Ro_addHolding) (maxL := 4) (ret := none) (by decide) rfl (Nat.le_of_ble_eq_true rfl) ?_
  intro p ev s m ar below meth c A ls Qf hQf hx hb hr hml hts hown hlocks hin hK hG hA hP hD hS hl
  replace hown : s.vm.findClass R_Ro = some m.cls := hown
  replace hl : lv_has ls 4 [(0, .ref h), (1, .ref ha), (2, .ref ha)] := hl
  have hkw : ∀ w ∈ kW, w.before ar s = true := fun w h => hts w (List.mem_cons_of_mem _ h)
  replace hP : va_P D k_cl ([(h, .inr (2, [.ref e])), (e, .inl (cI, 30, .inl (kA G0))), (ha, .inr (2, [.ref ea])), (ea, .inl (cI, 30, .inl (kA a)))]) s.heap := hP
  replace hD : va_D A ([(h, .inr (2, [.ref e])), (e, .inl (cI, 30, .inl (kA G0))), (ha, .inr (2, [.ref ea])), (ea, .inl (cI, 30, .inl (kA a)))]) := hD
  refine lv_iconst (v := zI 0) hx hb d_Ro_addHolding_0 (by decide) ?_
  refine lv_istore_n (lv' := [(3, .int (zI 0)), (0, .ref h), (1, .ref ha), (2, .ref ha)]) hx hb d_Ro_addHolding_1 rfl hl (by decide) rfl ?_
  clear hl; intro ls hl
  have loop_2 : ∀ (n : Nat) (i : Nat) (F : Nat → Nat), (i + n = 30) → (∀ j, F j ≤ 30) → (rHolding a a n i F = rHolding a a 30 0 G0) → ∀ (H : Heap) (locs : List Loc) (ls : Array Slot), va_P D k_cl ([(h, .inr (2, [.ref e])), (e, .inl (cI, 30, .inl (kA F))), (ha, .inr (2, [.ref ea])), (ea, .inl (cI, 30, .inl (kA a)))]) H → va_D A ([(h, .inr (2, [.ref e])), (e, .inl (cI, 30, .inl (kA F))), (ha, .inr (2, [.ref ea])), (ea, .inl (cI, 30, .inl (kA a)))]) → va_S A s.heap H locs → lv_has ls 4 [(0, .ref h), (1, .ref ha), (2, .ref ha), (3, .int (zI ↑i))] → W p l ev rm_Row_addHolding_same s m ar below meth c H locs 0 0 Qf (F0 m 2 ls []) := by
    intro n
    induction n with
    | zero =>
      intro i F hin hF hgo H locs ls hP hD hS hl
      refine lv_iload_n hx hb d_Ro_addHolding_2 rfl (lv_at hl 3 rfl) ?_
      refine lv_bipush (v := zI 30) hx hb d_Ro_addHolding_3 (by decide) ?_
      refine k_icmp_ge (tgt := 47) hx hb d_Ro_addHolding_5 (by decide) ⟨by omega, by omega⟩ ⟨by omega, by omega⟩ (fun c_5 => ?_) (fun c_5 => ?_)
      · rw [← hQf]
        have hP : va_P D k_cl [(h, .inr (2, [.ref e])), (e, .inl (cI, 30, .inl (kA (rHolding a a 30 0 G0)))), (ha, .inr (2, [.ref ea])), (ea, .inl (cI, 30, .inl (kA a)))] H := by
          rw [show rHolding a a 30 0 G0 = F from hgo.symm]
          exact hP
        exact k_vret hx hb hr hlocks hP hS d_Ro_addHolding_47
      · exfalso; omega
    | succ n ih_2 =>
      intro i F hin hF hgo H locs ls hP hD hS hl
      refine lv_iload_n hx hb d_Ro_addHolding_2 rfl (lv_at hl 3 rfl) ?_
      refine lv_bipush (v := zI 30) hx hb d_Ro_addHolding_3 (by decide) ?_
      refine k_icmp_ge (tgt := 47) hx hb d_Ro_addHolding_5 (by decide) ⟨by omega, by omega⟩ ⟨by omega, by omega⟩ (fun c_5 => ?_) (fun c_5 => ?_)
      · exfalso; omega
      · refine lv_aload_n hx hb d_Ro_addHolding_8 rfl (lv_at hl 1 rfl) ?_
        refine lv_iload_n hx hb d_Ro_addHolding_9 rfl (lv_at hl 3 rfl) ?_
        refine k_beI (va_runV (As := [.int (zI ↑i)]) (rest := []) ⟨hx, hb, hml, hown, hkw⟩ (c_Row_beginsAt l D cI cR cG ha ea i a (by omega) ha30 _) (cwV 1 hkw (k_gV kw_methodLink_Ro_25 kw_instanceMethod_Ro_beginsAt kw_selects_Ro_beginsAt kw_initialized_Ro kw_code_Ro_beginsAt) rfl rfl rfl (by decide +kernel) ⟨(Nat.le_of_ble_eq_true rfl), (Nat.le_of_ble_eq_true rfl)⟩) (k_preV (q0 := 0) hK hG hP hD [2, 3] rfl rfl rfl rfl) rfl rfl hl.1 rfl (lv_room (Nat.le_of_ble_eq_true rfl)) d_Ro_addHolding_10 ⟨Nat.zero_le _, Nat.zero_le _⟩) hP hD hS hA [2, 3] rfl (Eq.trans (b := [ha, ea]) rfl rfl) ?_
        clear hP hD hS; intro H locs hP hD hS
        replace hP : va_P D k_cl ([(h, .inr (2, [.ref e])), (e, .inl (cI, 30, .inl (kA F))), (ha, .inr (2, [.ref ea])), (ea, .inl (cI, 30, .inl (kA a)))]) H := hP
        replace hD : va_D A ([(h, .inr (2, [.ref e])), (e, .inl (cI, 30, .inl (kA F))), (ha, .inr (2, [.ref ea])), (ea, .inl (cI, 30, .inl (kA a)))]) := hD
        refine k_bif_eq (tgt := 41) hx hb d_Ro_addHolding_13 (by decide) (fun c_13 => ?_) (fun c_13 => ?_)
        · refine k_iinc (v := ↑(i + 1)) (lv' := [(3, .int (zI (↑(i + 1)))), (0, .ref h), (1, .ref ha), (2, .ref ha)]) hx hb d_Ro_addHolding_41 hl (k := 3) rfl (by omega) (by decide) rfl ?_
          clear hl; intro ls hl
          refine lv_goto (tgt := 2) hx hb d_Ro_addHolding_44 (by decide) ?_
          exact ih_2 (i + 1) F (by omega) hF (by rw [rHolding] at hgo; (repeat' split at hgo); all_goals first | exact hgo | (exfalso; omega) | contradiction) _ _ _ hP hD hS (lv_sub hl [1, 2, 3, 0] rfl)
        · refine lv_aload_n hx hb d_Ro_addHolding_16 rfl (lv_at hl 2 rfl) ?_
          refine lv_iload_n hx hb d_Ro_addHolding_17 rfl (lv_at hl 3 rfl) ?_
          refine lv_aload_n hx hb d_Ro_addHolding_18 rfl (lv_at hl 1 rfl) ?_
          refine va_get (D := D) (ci := 2) (v := .ref ea) (C := R_Ro) (T := T_Ro) (N := 1) hx hb hkw kin_Ro hown hK hP 2 rfl rfl 0 (by decide) (hkw _ kw_fieldLink_Ro_9) (fun _ h9 => h9) rfl d_Ro_addHolding_19 ?_
          refine lv_iload_n hx hb d_Ro_addHolding_22 rfl (lv_at hl 3 rfl) ?_
          refine k_ald hx hb hK hP 3 0 rfl rfl (i := i) (by omega) (by omega) (by omega) d_Ro_addHolding_23 ?_
          have hv_1 := ha30 i
          refine k_beI (va_runV (As := [.int (zI ↑i), .int (zI (↑(a i)))]) (rest := []) ⟨hx, hb, hml, hown, hkw⟩ (c_Row_hasWithin l D cI cR cG ha ea i (a i) a (by omega) (by omega) ha30 _) (cwV 2 hkw (k_gV kw_methodLink_Ro_56 kw_instanceMethod_Ro_hasWithin kw_selects_Ro_hasWithin kw_initialized_Ro kw_code_Ro_hasWithin) rfl rfl rfl (by decide +kernel) ⟨(Nat.le_of_ble_eq_true rfl), (Nat.le_of_ble_eq_true rfl)⟩) (k_preV (q0 := 0) hK hG hP hD [2, 3] rfl rfl rfl rfl) rfl rfl hl.1 rfl (lv_room (Nat.le_of_ble_eq_true rfl)) d_Ro_addHolding_24 ⟨Nat.zero_le _, Nat.zero_le _⟩) hP hD hS hA [2, 3] rfl (Eq.trans (b := [ha, ea]) rfl rfl) ?_
          clear hP hD hS; intro H locs hP hD hS
          replace hP : va_P D k_cl ([(h, .inr (2, [.ref e])), (e, .inl (cI, 30, .inl (kA F))), (ha, .inr (2, [.ref ea])), (ea, .inl (cI, 30, .inl (kA a)))]) H := hP
          replace hD : va_D A ([(h, .inr (2, [.ref e])), (e, .inl (cI, 30, .inl (kA F))), (ha, .inr (2, [.ref ea])), (ea, .inl (cI, 30, .inl (kA a)))]) := hD
          refine k_bif_eq (tgt := 41) hx hb d_Ro_addHolding_27 (by decide) (fun c_27 => ?_) (fun c_27 => ?_)
          · refine k_iinc (v := ↑(i + 1)) (lv' := [(3, .int (zI (↑(i + 1)))), (0, .ref h), (1, .ref ha), (2, .ref ha)]) hx hb d_Ro_addHolding_41 hl (k := 3) rfl (by omega) (by decide) rfl ?_
            clear hl; intro ls hl
            refine lv_goto (tgt := 2) hx hb d_Ro_addHolding_44 (by decide) ?_
            exact ih_2 (i + 1) F (by omega) hF (by rw [rHolding] at hgo; (repeat' split at hgo); all_goals first | exact hgo | (exfalso; omega) | contradiction) _ _ _ hP hD hS (lv_sub hl [1, 2, 3, 0] rfl)
          · refine lv_aload_n hx hb d_Ro_addHolding_30 rfl (lv_at hl 0 rfl) ?_
            refine lv_iload_n hx hb d_Ro_addHolding_31 rfl (lv_at hl 3 rfl) ?_
            refine lv_aload_n hx hb d_Ro_addHolding_32 rfl (lv_at hl 1 rfl) ?_
            refine va_get (D := D) (ci := 2) (v := .ref ea) (C := R_Ro) (T := T_Ro) (N := 1) hx hb hkw kin_Ro hown hK hP 2 rfl rfl 0 (by decide) (hkw _ kw_fieldLink_Ro_9) (fun _ h9 => h9) rfl d_Ro_addHolding_33 ?_
            refine lv_iload_n hx hb d_Ro_addHolding_36 rfl (lv_at hl 3 rfl) ?_
            refine k_ald hx hb hK hP 3 0 rfl rfl (i := i) (by omega) (by omega) (by omega) d_Ro_addHolding_37 ?_
            have hv_2 := ha30 i
            refine k_beV (va_runV (As := [.int (zI ↑i), .int (zI (↑(a i)))]) (rest := []) ⟨hx, hb, hml, hown, hkw⟩ (c_Row_add l D cI cR cG h e i (a i) F (by omega) (by omega) hF _) (cwV 2 hkw (k_gV kw_methodLink_Ro_38 kw_instanceMethod_Ro_add kw_selects_Ro_add kw_initialized_Ro kw_code_Ro_add) rfl rfl rfl (by decide +kernel) ⟨(Nat.le_of_ble_eq_true rfl), (Nat.le_of_ble_eq_true rfl)⟩) (k_preV (q0 := 0) hK hG hP hD [0, 1] rfl rfl rfl rfl) rfl rfl hl.1 rfl (lv_room (Nat.le_of_ble_eq_true rfl)) d_Ro_addHolding_38 ⟨Nat.zero_le _, Nat.zero_le _⟩) hP hD hS hA [0, 1] rfl (Eq.trans (b := [h, e]) rfl rfl) ?_
            clear hP hD hS; intro H locs hP hD hS
            replace hP : va_P D k_cl ([(h, .inr (2, [.ref e])), (e, .inl (cI, 30, .inl (kA (rAdd F i (a i))))), (ha, .inr (2, [.ref ea])), (ea, .inl (cI, 30, .inl (kA a)))]) H := hP
            replace hD : va_D A ([(h, .inr (2, [.ref e])), (e, .inl (cI, 30, .inl (kA (rAdd F i (a i))))), (ha, .inr (2, [.ref ea])), (ea, .inl (cI, 30, .inl (kA a)))]) := hD
            refine k_iinc (v := ↑(i + 1)) (lv' := [(3, .int (zI (↑(i + 1)))), (0, .ref h), (1, .ref ha), (2, .ref ha)]) hx hb d_Ro_addHolding_41 hl (k := 3) rfl (by omega) (by decide) rfl ?_
            clear hl; intro ls hl
            refine lv_goto (tgt := 2) hx hb d_Ro_addHolding_44 (by decide) ?_
            exact ih_2 (i + 1) (rAdd F i (a i)) (by omega) (rAdd_le hF (by omega)) (by rw [rHolding] at hgo; (repeat' split at hgo); all_goals first | exact hgo | (exfalso; omega) | contradiction) _ _ _ hP hD hS (lv_sub hl [1, 2, 3, 0] rfl)
  exact loop_2 30 0 G0 (by omega) hG0 rfl _ _ _ hP hD hS (lv_sub hl [1, 2, 3, 0] rfl)

abbrev rm_Row_addIn_same : Room := { frames := 3, cells := 0, slots := 0, locals := 64 }
set_option maxHeartbeats 4000000 in
set_option maxRecDepth 100000 in
theorem c_Row_addIn_same (l : Launch) (D : va_G) (cI cR cG : ClassId) (h e ha ea : Nat) (G0 a : Nat → Nat) (hG0 : ∀ j, G0 j ≤ 30) (ha30 : ∀ j, a j ≤ 30) : k_M l y_Ro_addIn (.code y_Ro_addIn b_Ro_addIn 4 none :: kW) rm_Row_addIn_same D k_cl (k_ty cI cR cG) [.ref h, .ref ha, .ref ha] ([(h, .inr (2, [.ref e])), (e, .inl (cI, 30, .inl (kA G0))), (ha, .inr (2, [.ref ea])), (ea, .inl (cI, 30, .inl (kA a)))]) (k_Qv D k_cl [(h, .inr (2, [.ref e])), (e, .inl (cI, 30, .inl (kA (rIn a a 30 0 G0)))), (ha, .inr (2, [.ref ea])), (ea, .inl (cI, 30, .inl (kA a)))]) := by
  refine k_start (cc := b_Ro_addIn) (maxL := 4) (ret := none) (by decide) rfl (Nat.le_of_ble_eq_true rfl) ?_
  intro p ev s m ar below meth c A ls Qf hQf hx hb hr hml hts hown hlocks hin hK hG hA hP hD hS hl
  replace hown : s.vm.findClass R_Ro = some m.cls := hown
  replace hl : lv_has ls 4 [(0, .ref h), (1, .ref ha), (2, .ref ha)] := hl
  have hkw : ∀ w ∈ kW, w.before ar s = true := fun w h => hts w (List.mem_cons_of_mem _ h)
  replace hP : va_P D k_cl ([(h, .inr (2, [.ref e])), (e, .inl (cI, 30, .inl (kA G0))), (ha, .inr (2, [.ref ea])), (ea, .inl (cI, 30, .inl (kA a)))]) s.heap := hP
  replace hD : va_D A ([(h, .inr (2, [.ref e])), (e, .inl (cI, 30, .inl (kA G0))), (ha, .inr (2, [.ref ea])), (ea, .inl (cI, 30, .inl (kA a)))]) := hD
  refine lv_iconst (v := zI 0) hx hb d_Ro_addIn_0 (by decide) ?_
  refine lv_istore_n (lv' := [(3, .int (zI 0)), (0, .ref h), (1, .ref ha), (2, .ref ha)]) hx hb d_Ro_addIn_1 rfl hl (by decide) rfl ?_
  clear hl; intro ls hl
  have loop_2 : ∀ (n : Nat) (i : Nat) (F : Nat → Nat), (i + n = 30) → (∀ j, F j ≤ 30) → (rIn a a n i F = rIn a a 30 0 G0) → ∀ (H : Heap) (locs : List Loc) (ls : Array Slot), va_P D k_cl ([(h, .inr (2, [.ref e])), (e, .inl (cI, 30, .inl (kA F))), (ha, .inr (2, [.ref ea])), (ea, .inl (cI, 30, .inl (kA a)))]) H → va_D A ([(h, .inr (2, [.ref e])), (e, .inl (cI, 30, .inl (kA F))), (ha, .inr (2, [.ref ea])), (ea, .inl (cI, 30, .inl (kA a)))]) → va_S A s.heap H locs → lv_has ls 4 [(0, .ref h), (1, .ref ha), (2, .ref ha), (3, .int (zI ↑i))] → W p l ev rm_Row_addIn_same s m ar below meth c H locs 0 0 Qf (F0 m 2 ls []) := by
    intro n
    induction n with
    | zero =>
      intro i F hin hF hgo H locs ls hP hD hS hl
      refine lv_iload_n hx hb d_Ro_addIn_2 rfl (lv_at hl 3 rfl) ?_
      refine lv_bipush (v := zI 30) hx hb d_Ro_addIn_3 (by decide) ?_
      refine k_icmp_ge (tgt := 47) hx hb d_Ro_addIn_5 (by decide) ⟨by omega, by omega⟩ ⟨by omega, by omega⟩ (fun c_5 => ?_) (fun c_5 => ?_)
      · rw [← hQf]
        have hP : va_P D k_cl [(h, .inr (2, [.ref e])), (e, .inl (cI, 30, .inl (kA (rIn a a 30 0 G0)))), (ha, .inr (2, [.ref ea])), (ea, .inl (cI, 30, .inl (kA a)))] H := by
          rw [show rIn a a 30 0 G0 = F from hgo.symm]
          exact hP
        exact k_vret hx hb hr hlocks hP hS d_Ro_addIn_47
      · exfalso; omega
    | succ n ih_2 =>
      intro i F hin hF hgo H locs ls hP hD hS hl
      refine lv_iload_n hx hb d_Ro_addIn_2 rfl (lv_at hl 3 rfl) ?_
      refine lv_bipush (v := zI 30) hx hb d_Ro_addIn_3 (by decide) ?_
      refine k_icmp_ge (tgt := 47) hx hb d_Ro_addIn_5 (by decide) ⟨by omega, by omega⟩ ⟨by omega, by omega⟩ (fun c_5 => ?_) (fun c_5 => ?_)
      · exfalso; omega
      · refine lv_aload_n hx hb d_Ro_addIn_8 rfl (lv_at hl 1 rfl) ?_
        refine lv_iload_n hx hb d_Ro_addIn_9 rfl (lv_at hl 3 rfl) ?_
        refine k_beI (va_runV (As := [.int (zI ↑i)]) (rest := []) ⟨hx, hb, hml, hown, hkw⟩ (c_Row_beginsAt l D cI cR cG ha ea i a (by omega) ha30 _) (cwV 1 hkw (k_gV kw_methodLink_Ro_25 kw_instanceMethod_Ro_beginsAt kw_selects_Ro_beginsAt kw_initialized_Ro kw_code_Ro_beginsAt) rfl rfl rfl (by decide +kernel) ⟨(Nat.le_of_ble_eq_true rfl), (Nat.le_of_ble_eq_true rfl)⟩) (k_preV (q0 := 0) hK hG hP hD [2, 3] rfl rfl rfl rfl) rfl rfl hl.1 rfl (lv_room (Nat.le_of_ble_eq_true rfl)) d_Ro_addIn_10 ⟨Nat.zero_le _, Nat.zero_le _⟩) hP hD hS hA [2, 3] rfl (Eq.trans (b := [ha, ea]) rfl rfl) ?_
        clear hP hD hS; intro H locs hP hD hS
        replace hP : va_P D k_cl ([(h, .inr (2, [.ref e])), (e, .inl (cI, 30, .inl (kA F))), (ha, .inr (2, [.ref ea])), (ea, .inl (cI, 30, .inl (kA a)))]) H := hP
        replace hD : va_D A ([(h, .inr (2, [.ref e])), (e, .inl (cI, 30, .inl (kA F))), (ha, .inr (2, [.ref ea])), (ea, .inl (cI, 30, .inl (kA a)))]) := hD
        refine k_bif_eq (tgt := 41) hx hb d_Ro_addIn_13 (by decide) (fun c_13 => ?_) (fun c_13 => ?_)
        · refine k_iinc (v := ↑(i + 1)) (lv' := [(3, .int (zI (↑(i + 1)))), (0, .ref h), (1, .ref ha), (2, .ref ha)]) hx hb d_Ro_addIn_41 hl (k := 3) rfl (by omega) (by decide) rfl ?_
          clear hl; intro ls hl
          refine lv_goto (tgt := 2) hx hb d_Ro_addIn_44 (by decide) ?_
          exact ih_2 (i + 1) F (by omega) hF (by rw [rIn] at hgo; (repeat' split at hgo); all_goals first | exact hgo | (exfalso; omega) | contradiction) _ _ _ hP hD hS (lv_sub hl [1, 2, 3, 0] rfl)
        · refine lv_aload_n hx hb d_Ro_addIn_16 rfl (lv_at hl 2 rfl) ?_
          refine lv_iload_n hx hb d_Ro_addIn_17 rfl (lv_at hl 3 rfl) ?_
          refine lv_aload_n hx hb d_Ro_addIn_18 rfl (lv_at hl 1 rfl) ?_
          refine va_get (D := D) (ci := 2) (v := .ref ea) (C := R_Ro) (T := T_Ro) (N := 1) hx hb hkw kin_Ro hown hK hP 2 rfl rfl 0 (by decide) (hkw _ kw_fieldLink_Ro_9) (fun _ h9 => h9) rfl d_Ro_addIn_19 ?_
          refine lv_iload_n hx hb d_Ro_addIn_22 rfl (lv_at hl 3 rfl) ?_
          refine k_ald hx hb hK hP 3 0 rfl rfl (i := i) (by omega) (by omega) (by omega) d_Ro_addIn_23 ?_
          have hv_1 := ha30 i
          refine k_beI (va_runV (As := [.int (zI ↑i), .int (zI (↑(a i)))]) (rest := []) ⟨hx, hb, hml, hown, hkw⟩ (c_Row_hasAround l D cI cR cG ha ea i (a i) a (by omega) (by omega) ha30 _) (cwV 2 hkw (k_gV kw_methodLink_Ro_60 kw_instanceMethod_Ro_hasAround kw_selects_Ro_hasAround kw_initialized_Ro kw_code_Ro_hasAround) rfl rfl rfl (by decide +kernel) ⟨(Nat.le_of_ble_eq_true rfl), (Nat.le_of_ble_eq_true rfl)⟩) (k_preV (q0 := 0) hK hG hP hD [2, 3] rfl rfl rfl rfl) rfl rfl hl.1 rfl (lv_room (Nat.le_of_ble_eq_true rfl)) d_Ro_addIn_24 ⟨Nat.zero_le _, Nat.zero_le _⟩) hP hD hS hA [2, 3] rfl (Eq.trans (b := [ha, ea]) rfl rfl) ?_
          clear hP hD hS; intro H locs hP hD hS
          replace hP : va_P D k_cl ([(h, .inr (2, [.ref e])), (e, .inl (cI, 30, .inl (kA F))), (ha, .inr (2, [.ref ea])), (ea, .inl (cI, 30, .inl (kA a)))]) H := hP
          replace hD : va_D A ([(h, .inr (2, [.ref e])), (e, .inl (cI, 30, .inl (kA F))), (ha, .inr (2, [.ref ea])), (ea, .inl (cI, 30, .inl (kA a)))]) := hD
          refine k_bif_eq (tgt := 41) hx hb d_Ro_addIn_27 (by decide) (fun c_27 => ?_) (fun c_27 => ?_)
          · refine k_iinc (v := ↑(i + 1)) (lv' := [(3, .int (zI (↑(i + 1)))), (0, .ref h), (1, .ref ha), (2, .ref ha)]) hx hb d_Ro_addIn_41 hl (k := 3) rfl (by omega) (by decide) rfl ?_
            clear hl; intro ls hl
            refine lv_goto (tgt := 2) hx hb d_Ro_addIn_44 (by decide) ?_
            exact ih_2 (i + 1) F (by omega) hF (by rw [rIn] at hgo; (repeat' split at hgo); all_goals first | exact hgo | (exfalso; omega) | contradiction) _ _ _ hP hD hS (lv_sub hl [1, 2, 3, 0] rfl)
          · refine lv_aload_n hx hb d_Ro_addIn_30 rfl (lv_at hl 0 rfl) ?_
            refine lv_iload_n hx hb d_Ro_addIn_31 rfl (lv_at hl 3 rfl) ?_
            refine lv_aload_n hx hb d_Ro_addIn_32 rfl (lv_at hl 1 rfl) ?_
            refine va_get (D := D) (ci := 2) (v := .ref ea) (C := R_Ro) (T := T_Ro) (N := 1) hx hb hkw kin_Ro hown hK hP 2 rfl rfl 0 (by decide) (hkw _ kw_fieldLink_Ro_9) (fun _ h9 => h9) rfl d_Ro_addIn_33 ?_
            refine lv_iload_n hx hb d_Ro_addIn_36 rfl (lv_at hl 3 rfl) ?_
            refine k_ald hx hb hK hP 3 0 rfl rfl (i := i) (by omega) (by omega) (by omega) d_Ro_addIn_37 ?_
            have hv_2 := ha30 i
            refine k_beV (va_runV (As := [.int (zI ↑i), .int (zI (↑(a i)))]) (rest := []) ⟨hx, hb, hml, hown, hkw⟩ (c_Row_add l D cI cR cG h e i (a i) F (by omega) (by omega) hF _) (cwV 2 hkw (k_gV kw_methodLink_Ro_38 kw_instanceMethod_Ro_add kw_selects_Ro_add kw_initialized_Ro kw_code_Ro_add) rfl rfl rfl (by decide +kernel) ⟨(Nat.le_of_ble_eq_true rfl), (Nat.le_of_ble_eq_true rfl)⟩) (k_preV (q0 := 0) hK hG hP hD [0, 1] rfl rfl rfl rfl) rfl rfl hl.1 rfl (lv_room (Nat.le_of_ble_eq_true rfl)) d_Ro_addIn_38 ⟨Nat.zero_le _, Nat.zero_le _⟩) hP hD hS hA [0, 1] rfl (Eq.trans (b := [h, e]) rfl rfl) ?_
            clear hP hD hS; intro H locs hP hD hS
            replace hP : va_P D k_cl ([(h, .inr (2, [.ref e])), (e, .inl (cI, 30, .inl (kA (rAdd F i (a i))))), (ha, .inr (2, [.ref ea])), (ea, .inl (cI, 30, .inl (kA a)))]) H := hP
            replace hD : va_D A ([(h, .inr (2, [.ref e])), (e, .inl (cI, 30, .inl (kA (rAdd F i (a i))))), (ha, .inr (2, [.ref ea])), (ea, .inl (cI, 30, .inl (kA a)))]) := hD
            refine k_iinc (v := ↑(i + 1)) (lv' := [(3, .int (zI (↑(i + 1)))), (0, .ref h), (1, .ref ha), (2, .ref ha)]) hx hb d_Ro_addIn_41 hl (k := 3) rfl (by omega) (by decide) rfl ?_
            clear hl; intro ls hl
            refine lv_goto (tgt := 2) hx hb d_Ro_addIn_44 (by decide) ?_
            exact ih_2 (i + 1) (rAdd F i (a i)) (by omega) (rAdd_le hF (by omega)) (by rw [rIn] at hgo; (repeat' split at hgo); all_goals first | exact hgo | (exfalso; omega) | contradiction) _ _ _ hP hD hS (lv_sub hl [1, 2, 3, 0] rfl)
  exact loop_2 30 0 G0 (by omega) hG0 rfl _ _ _ hP hD hS (lv_sub hl [1, 2, 3, 0] rfl)

abbrev rm_Row_addByNearness_same : Room := { frames := 3, cells := 0, slots := 0, locals := 65 }
set_option maxHeartbeats 4000000 in
set_option maxRecDepth 100000 in
theorem c_Row_addByNearness_same (l : Launch) (D : va_G) (cI cR cG : ClassId) (h e ha ea : Nat) (k : Int) (w : Bool) (G0 a : Nat → Nat) (hk : -1 ≤ k ∧ k ≤ 30) (hG0 : ∀ j, G0 j ≤ 30) (ha30 : ∀ j, a j ≤ 30) : k_M l y_Ro_addByNearness (.code y_Ro_addByNearness b_Ro_addByNearness 6 none :: kW) rm_Row_addByNearness_same D k_cl (k_ty cI cR cG) [.ref h, .ref ha, .ref ha, .int (zI k), .int (k_b (w = true))] ([(h, .inr (2, [.ref e])), (e, .inl (cI, 30, .inl (kA G0))), (ha, .inr (2, [.ref ea])), (ea, .inl (cI, 30, .inl (kA a)))]) (k_Qv D k_cl [(h, .inr (2, [.ref e])), (e, .inl (cI, 30, .inl (kA (rNear a a k w 30 0 G0)))), (ha, .inr (2, [.ref ea])), (ea, .inl (cI, 30, .inl (kA a)))]) := by
  refine k_start (cc := b_Ro_addByNearness) (maxL := 6) (ret := none) (by decide) rfl (Nat.le_of_ble_eq_true rfl) ?_
  intro p ev s m ar below meth c A ls Qf hQf hx hb hr hml hts hown hlocks hin hK hG hA hP hD hS hl
  replace hown : s.vm.findClass R_Ro = some m.cls := hown
  replace hl : lv_has ls 6 [(0, .ref h), (1, .ref ha), (2, .ref ha), (3, .int (zI k)), (4, .int (k_b (w = true)))] := hl
  have hkw : ∀ w ∈ kW, w.before ar s = true := fun w h => hts w (List.mem_cons_of_mem _ h)
  replace hP : va_P D k_cl ([(h, .inr (2, [.ref e])), (e, .inl (cI, 30, .inl (kA G0))), (ha, .inr (2, [.ref ea])), (ea, .inl (cI, 30, .inl (kA a)))]) s.heap := hP
  replace hD : va_D A ([(h, .inr (2, [.ref e])), (e, .inl (cI, 30, .inl (kA G0))), (ha, .inr (2, [.ref ea])), (ea, .inl (cI, 30, .inl (kA a)))]) := hD
  refine lv_iconst (v := zI 0) hx hb d_Ro_addByNearness_0 (by decide) ?_
  refine lv_istore (lv' := [(5, .int (zI 0)), (0, .ref h), (1, .ref ha), (2, .ref ha), (3, .int (zI k)), (4, .int (k_b (w = true)))]) hx hb d_Ro_addByNearness_1 hl (by decide) rfl ?_
  clear hl; intro ls hl
  have loop_3 : ∀ (n : Nat) (i : Nat) (F : Nat → Nat), (i + n = 30) → (∀ j, F j ≤ 30) → (rNear a a k w n i F = rNear a a k w 30 0 G0) → ∀ (H : Heap) (locs : List Loc) (ls : Array Slot), va_P D k_cl ([(h, .inr (2, [.ref e])), (e, .inl (cI, 30, .inl (kA F))), (ha, .inr (2, [.ref ea])), (ea, .inl (cI, 30, .inl (kA a)))]) H → va_D A ([(h, .inr (2, [.ref e])), (e, .inl (cI, 30, .inl (kA F))), (ha, .inr (2, [.ref ea])), (ea, .inl (cI, 30, .inl (kA a)))]) → va_S A s.heap H locs → lv_has ls 6 [(0, .ref h), (1, .ref ha), (2, .ref ha), (3, .int (zI k)), (4, .int (k_b (w = true))), (5, .int (zI ↑i))] → W p l ev rm_Row_addByNearness_same s m ar below meth c H locs 0 0 Qf (F0 m 3 ls []) := by
    intro n
    induction n with
    | zero =>
      intro i F hin hF hgo H locs ls hP hD hS hl
      refine lv_iload hx hb d_Ro_addByNearness_3 (lv_at hl 5 rfl) ?_
      refine lv_bipush (v := zI 30) hx hb d_Ro_addByNearness_5 (by decide) ?_
      refine k_icmp_ge (tgt := 57) hx hb d_Ro_addByNearness_7 (by decide) ⟨by omega, by omega⟩ ⟨by omega, by omega⟩ (fun c_7 => ?_) (fun c_7 => ?_)
      · rw [← hQf]
        have hP : va_P D k_cl [(h, .inr (2, [.ref e])), (e, .inl (cI, 30, .inl (kA (rNear a a k w 30 0 G0)))), (ha, .inr (2, [.ref ea])), (ea, .inl (cI, 30, .inl (kA a)))] H := by
          rw [show rNear a a k w 30 0 G0 = F from hgo.symm]
          exact hP
        exact k_vret hx hb hr hlocks hP hS d_Ro_addByNearness_57
      · exfalso; omega
    | succ n ih_3 =>
      intro i F hin hF hgo H locs ls hP hD hS hl
      refine lv_iload hx hb d_Ro_addByNearness_3 (lv_at hl 5 rfl) ?_
      refine lv_bipush (v := zI 30) hx hb d_Ro_addByNearness_5 (by decide) ?_
      refine k_icmp_ge (tgt := 57) hx hb d_Ro_addByNearness_7 (by decide) ⟨by omega, by omega⟩ ⟨by omega, by omega⟩ (fun c_7 => ?_) (fun c_7 => ?_)
      · exfalso; omega
      · refine lv_aload_n hx hb d_Ro_addByNearness_10 rfl (lv_at hl 1 rfl) ?_
        refine lv_iload hx hb d_Ro_addByNearness_11 (lv_at hl 5 rfl) ?_
        refine k_beI (va_runV (As := [.int (zI ↑i)]) (rest := []) ⟨hx, hb, hml, hown, hkw⟩ (c_Row_beginsAt l D cI cR cG ha ea i a (by omega) ha30 _) (cwV 1 hkw (k_gV kw_methodLink_Ro_25 kw_instanceMethod_Ro_beginsAt kw_selects_Ro_beginsAt kw_initialized_Ro kw_code_Ro_beginsAt) rfl rfl rfl (by decide +kernel) ⟨(Nat.le_of_ble_eq_true rfl), (Nat.le_of_ble_eq_true rfl)⟩) (k_preV (q0 := 0) hK hG hP hD [2, 3] rfl rfl rfl rfl) rfl rfl hl.1 rfl (lv_room (Nat.le_of_ble_eq_true rfl)) d_Ro_addByNearness_13 ⟨Nat.zero_le _, Nat.zero_le _⟩) hP hD hS hA [2, 3] rfl (Eq.trans (b := [ha, ea]) rfl rfl) ?_
        clear hP hD hS; intro H locs hP hD hS
        replace hP : va_P D k_cl ([(h, .inr (2, [.ref e])), (e, .inl (cI, 30, .inl (kA F))), (ha, .inr (2, [.ref ea])), (ea, .inl (cI, 30, .inl (kA a)))]) H := hP
        replace hD : va_D A ([(h, .inr (2, [.ref e])), (e, .inl (cI, 30, .inl (kA F))), (ha, .inr (2, [.ref ea])), (ea, .inl (cI, 30, .inl (kA a)))]) := hD
        refine k_bif_eq (tgt := 51) hx hb d_Ro_addByNearness_16 (by decide) (fun c_16 => ?_) (fun c_16 => ?_)
        · refine k_iinc (v := ↑(i + 1)) (lv' := [(5, .int (zI (↑(i + 1)))), (0, .ref h), (1, .ref ha), (2, .ref ha), (3, .int (zI k)), (4, .int (k_b (w = true)))]) hx hb d_Ro_addByNearness_51 hl (k := 5) rfl (by omega) (by decide) rfl ?_
          clear hl; intro ls hl
          refine lv_goto (tgt := 3) hx hb d_Ro_addByNearness_54 (by decide) ?_
          exact ih_3 (i + 1) F (by omega) hF (by rw [rNear] at hgo; (repeat' split at hgo); all_goals first | exact hgo | (exfalso; omega) | contradiction) _ _ _ hP hD hS (lv_sub hl [1, 2, 3, 4, 5, 0] rfl)
        · refine lv_aload_n hx hb d_Ro_addByNearness_19 rfl (lv_at hl 2 rfl) ?_
          refine lv_iload hx hb d_Ro_addByNearness_20 (lv_at hl 5 rfl) ?_
          refine lv_aload_n hx hb d_Ro_addByNearness_22 rfl (lv_at hl 1 rfl) ?_
          refine va_get (D := D) (ci := 2) (v := .ref ea) (C := R_Ro) (T := T_Ro) (N := 1) hx hb hkw kin_Ro hown hK hP 2 rfl rfl 0 (by decide) (hkw _ kw_fieldLink_Ro_9) (fun _ h9 => h9) rfl d_Ro_addByNearness_23 ?_
          refine lv_iload hx hb d_Ro_addByNearness_26 (lv_at hl 5 rfl) ?_
          refine k_ald hx hb hK hP 3 0 rfl rfl (i := i) (by omega) (by omega) (by omega) d_Ro_addByNearness_28 ?_
          have hv_1 := ha30 i
          refine lv_iload_n hx hb d_Ro_addByNearness_29 rfl (lv_at hl 3 rfl) ?_
          refine k_beI (va_runV (As := [.int (zI ↑i), .int (zI (↑(a i))), .int (zI k)]) (rest := []) ⟨hx, hb, hml, hown, hkw⟩ (c_Row_hasNear l D cI cR cG ha ea i (a i) k a (by omega) (by omega) (by omega) ha30 _) (cwV 3 hkw (k_gV kw_methodLink_Ro_63 kw_instanceMethod_Ro_hasNear kw_selects_Ro_hasNear kw_initialized_Ro kw_code_Ro_hasNear) rfl rfl rfl (by decide +kernel) ⟨(Nat.le_of_ble_eq_true rfl), (Nat.le_of_ble_eq_true rfl)⟩) (k_preV (q0 := 0) hK hG hP hD [2, 3] rfl rfl rfl rfl) rfl rfl hl.1 rfl (lv_room (Nat.le_of_ble_eq_true rfl)) d_Ro_addByNearness_30 ⟨Nat.zero_le _, Nat.zero_le _⟩) hP hD hS hA [2, 3] rfl (Eq.trans (b := [ha, ea]) rfl rfl) ?_
          clear hP hD hS; intro H locs hP hD hS
          replace hP : va_P D k_cl ([(h, .inr (2, [.ref e])), (e, .inl (cI, 30, .inl (kA F))), (ha, .inr (2, [.ref ea])), (ea, .inl (cI, 30, .inl (kA a)))]) H := hP
          replace hD : va_D A ([(h, .inr (2, [.ref e])), (e, .inl (cI, 30, .inl (kA F))), (ha, .inr (2, [.ref ea])), (ea, .inl (cI, 30, .inl (kA a)))]) := hD
          refine lv_iload hx hb d_Ro_addByNearness_33 (lv_at hl 4 rfl) ?_
          refine k_bcmp_ne (tgt := 51) hx hb d_Ro_addByNearness_35 (by decide) (fun c_35 => ?_) (fun c_35 => ?_)
          · refine k_iinc (v := ↑(i + 1)) (lv' := [(5, .int (zI (↑(i + 1)))), (0, .ref h), (1, .ref ha), (2, .ref ha), (3, .int (zI k)), (4, .int (k_b (w = true)))]) hx hb d_Ro_addByNearness_51 hl (k := 5) rfl (by omega) (by decide) rfl ?_
            clear hl; intro ls hl
            refine lv_goto (tgt := 3) hx hb d_Ro_addByNearness_54 (by decide) ?_
            exact ih_3 (i + 1) F (by omega) hF (by rw [rNear] at hgo; (repeat' split at hgo); all_goals first | exact hgo | (exfalso; omega) | contradiction) _ _ _ hP hD hS (lv_sub hl [1, 2, 3, 4, 5, 0] rfl)
          · refine lv_aload_n hx hb d_Ro_addByNearness_38 rfl (lv_at hl 0 rfl) ?_
            refine lv_iload hx hb d_Ro_addByNearness_39 (lv_at hl 5 rfl) ?_
            refine lv_aload_n hx hb d_Ro_addByNearness_41 rfl (lv_at hl 1 rfl) ?_
            refine va_get (D := D) (ci := 2) (v := .ref ea) (C := R_Ro) (T := T_Ro) (N := 1) hx hb hkw kin_Ro hown hK hP 2 rfl rfl 0 (by decide) (hkw _ kw_fieldLink_Ro_9) (fun _ h9 => h9) rfl d_Ro_addByNearness_42 ?_
            refine lv_iload hx hb d_Ro_addByNearness_45 (lv_at hl 5 rfl) ?_
            refine k_ald hx hb hK hP 3 0 rfl rfl (i := i) (by omega) (by omega) (by omega) d_Ro_addByNearness_47 ?_
            have hv_2 := ha30 i
            refine k_beV (va_runV (As := [.int (zI ↑i), .int (zI (↑(a i)))]) (rest := []) ⟨hx, hb, hml, hown, hkw⟩ (c_Row_add l D cI cR cG h e i (a i) F (by omega) (by omega) hF _) (cwV 2 hkw (k_gV kw_methodLink_Ro_38 kw_instanceMethod_Ro_add kw_selects_Ro_add kw_initialized_Ro kw_code_Ro_add) rfl rfl rfl (by decide +kernel) ⟨(Nat.le_of_ble_eq_true rfl), (Nat.le_of_ble_eq_true rfl)⟩) (k_preV (q0 := 0) hK hG hP hD [0, 1] rfl rfl rfl rfl) rfl rfl hl.1 rfl (lv_room (Nat.le_of_ble_eq_true rfl)) d_Ro_addByNearness_48 ⟨Nat.zero_le _, Nat.zero_le _⟩) hP hD hS hA [0, 1] rfl (Eq.trans (b := [h, e]) rfl rfl) ?_
            clear hP hD hS; intro H locs hP hD hS
            replace hP : va_P D k_cl ([(h, .inr (2, [.ref e])), (e, .inl (cI, 30, .inl (kA (rAdd F i (a i))))), (ha, .inr (2, [.ref ea])), (ea, .inl (cI, 30, .inl (kA a)))]) H := hP
            replace hD : va_D A ([(h, .inr (2, [.ref e])), (e, .inl (cI, 30, .inl (kA (rAdd F i (a i))))), (ha, .inr (2, [.ref ea])), (ea, .inl (cI, 30, .inl (kA a)))]) := hD
            refine k_iinc (v := ↑(i + 1)) (lv' := [(5, .int (zI (↑(i + 1)))), (0, .ref h), (1, .ref ha), (2, .ref ha), (3, .int (zI k)), (4, .int (k_b (w = true)))]) hx hb d_Ro_addByNearness_51 hl (k := 5) rfl (by omega) (by decide) rfl ?_
            clear hl; intro ls hl
            refine lv_goto (tgt := 3) hx hb d_Ro_addByNearness_54 (by decide) ?_
            exact ih_3 (i + 1) (rAdd F i (a i)) (by omega) (rAdd_le hF (by omega)) (by rw [rNear] at hgo; (repeat' split at hgo); all_goals first | exact hgo | (exfalso; omega) | contradiction) _ _ _ hP hD hS (lv_sub hl [1, 2, 3, 4, 5, 0] rfl)
  exact loop_3 30 0 G0 (by omega) hG0 rfl _ _ _ hP hD hS (lv_sub hl [1, 2, 3, 4, 5, 0] rfl)
end
section
/-! worlds with a tail: cells in any number behind the ones that are named -/
theorem k_mem_at {D : va_G} {cl : List vw_C} {ws : va_W} {H : Heap} (hP : va_P D cl ws H) {u : Nat × va_E} (h : u ∈ ws) : va_at D cl u H := by
  obtain ⟨k, hk⟩ := List.getElem?_of_mem h
  exact hP k u hk
theorem k_at_mem {D : va_G} {cl : List vw_C} {ws : va_W} {H : Heap} (h : ∀ u ∈ ws, va_at D cl u H) : va_P D cl ws H := fun _ u hk => h u (List.mem_of_getElem? hk)
theorem k_D_inj {A : Nat → Prop} {ws : va_W} (hD : va_D A ws) {u v : Nat × va_E} (hu : u ∈ ws) (hv : v ∈ ws) (e : u.1 = v.1) : u = v := by
  obtain ⟨i, hi⟩ := List.getElem?_of_mem hu
  obtain ⟨j, hj⟩ := List.getElem?_of_mem hv
  have hij := hD.1 i j u v hi hj e
  subst hij
  exact Option.some.inj (hi.symm.trans hj)
theorem k_D_fst {A : Nat → Prop} {ws ws' : va_W} (hD : va_D A ws) (e : ws'.map (·.1) = ws.map (·.1)) : va_D A ws' := by
  have hin : ∀ (k : Nat) (q : Nat × va_E), ws'[k]? = some q → ∃ y, ws[k]? = some y ∧ y.1 = q.1 := by
    intro k q hk
    have e1 : (ws'.map (·.1))[k]? = some q.1 := by rw [List.getElem?_map, hk]; rfl
    rw [e, List.getElem?_map] at e1
    cases hz : ws[k]? with
    | none => rw [hz] at e1; simp at e1
    | some z => rw [hz] at e1; exact ⟨z, rfl, by simpa using e1⟩
  refine ⟨?_, ?_⟩
  · intro i j p q hi hj he
    obtain ⟨y, y1, y2⟩ := hin i p hi
    obtain ⟨z, z1, z2⟩ := hin j q hj
    exact hD.1 i j y z y1 z1 (by rw [y2, z2, he])
  · intro k q h
    obtain ⟨y, y1, y2⟩ := hin k q h
    rw [← y2]
    exact hD.2 k y y1
theorem k_nd_D {ws : va_W} (h : (ws.map (·.1)).Nodup) : va_D (fun _ => True) ws := by
  refine ⟨?_, fun _ _ _ => trivial⟩
  intro i j p q hi hj he
  have h := List.pairwise_iff_getElem.mp h
  have l1 : i < ws.length := (List.getElem?_eq_some_iff.mp hi).1
  have l2 : j < ws.length := (List.getElem?_eq_some_iff.mp hj).1
  have key : ∀ a b : Nat, ∀ u v : Nat × va_E, ws[a]? = some u → ws[b]? = some v → u.1 = v.1 → a < b → b < ws.length → False := by
    intro a b u v ha hb huv hab hbl
    refine h a b (by rw [List.length_map]; omega) (by rw [List.length_map]; exact hbl) hab ?_
    rw [List.getElem_map, List.getElem_map]
    have e1 : ws[a] = u := (List.getElem?_eq_some_iff.mp ha).2
    have e2 : ws[b] = v := (List.getElem?_eq_some_iff.mp hb).2
    rw [e1, e2]; exact huv
  rcases Nat.lt_trichotomy i j with h1 | h1 | h1
  · exact (key i j p q hi hj he h1 l2).elim
  · exact h1
  · exact (key j i q p hj hi he.symm h1 l1).elim
theorem k_D_left {A : Nat → Prop} {a b : va_W} (h : va_D A (a ++ b)) : va_D A a :=
  ⟨fun i j p q hi hj e => h.1 i j p q (by rw [List.getElem?_append_left (List.getElem?_eq_some_iff.mp hi).1]; exact hi) (by rw [List.getElem?_append_left (List.getElem?_eq_some_iff.mp hj).1]; exact hj) e,
   fun k q hk => h.2 k q (by rw [List.getElem?_append_left (List.getElem?_eq_some_iff.mp hk).1]; exact hk)⟩
theorem k_D_right {A : Nat → Prop} {a b : va_W} (h : va_D A (a ++ b)) : va_D A b := by
  have hx : ∀ (k : Nat) (q : Nat × va_E), b[k]? = some q → (a ++ b)[a.length + k]? = some q := fun k q hk => by
    rw [List.getElem?_append_right (by omega), show a.length + k - a.length = k by omega]; exact hk
  exact ⟨fun i j p q hi hj e => by have := h.1 _ _ p q (hx i p hi) (hx j q hj) e; omega, fun k q hk => h.2 _ q (hx k q hk)⟩
theorem k_D_apart {A : Nat → Prop} {a b : va_W} (h : va_D A (a ++ b)) {u v : Nat × va_E} (hu : u ∈ a) (hv : v ∈ b) : u.1 ≠ v.1 := by
  obtain ⟨i, hi⟩ := List.getElem?_of_mem hu
  obtain ⟨j, hj⟩ := List.getElem?_of_mem hv
  intro e
  have l1 : i < a.length := (List.getElem?_eq_some_iff.mp hi).1
  have := h.1 i (a.length + j) u v (by rw [List.getElem?_append_left l1]; exact hi) (by rw [List.getElem?_append_right (by omega), show a.length + j - a.length = j by omega]; exact hj) e
  omega
theorem k_pick_mem {X px : va_W} (is : List Nat) (hC : is.map (fun i => X[i]?) = px.map some) {u : Nat × va_E} (h : u ∈ px) : u ∈ X := by
  obtain ⟨k, hk⟩ := List.getElem?_of_mem h
  obtain ⟨i, -, hi⟩ := va_in_of is hC hk
  exact List.mem_of_getElem? hi
/-- what a callee gets: named cells px of X, and cells tc of the tail T -/
theorem k_cutT {D : va_G} {cl : List vw_C} {X T px tc : va_W} {H : Heap} (hP : va_P D cl (X ++ T) H) (is : List Nat) (hC : is.map (fun i => X[i]?) = px.map some) (ht : ∀ u ∈ tc, u ∈ T) : va_P D cl (px ++ tc) H :=
  k_at_mem (fun u hu => k_mem_at hP (List.mem_append.mpr ((List.mem_append.mp hu).imp (fun h => k_pick_mem is hC h) (ht u))))
theorem k_cutDT {A : Nat → Prop} {X T px tc : va_W} (hD : va_D A (X ++ T)) (is : List Nat) (hni : va_nd is = true) (hC : is.map (fun i => X[i]?) = px.map some) (ht : ∀ u ∈ tc, u ∈ T) (hDt : va_D (fun _ => True) tc) : va_D (fun _ => True) (px ++ tc) :=
  va_D.app ((va_D.sub (k_D_left hD) is hni hC).weaken (fun _ _ _ _ => trivial)) hDt (fun _ _ _ _ hp hq => k_D_apart hD (k_pick_mem is hC (List.mem_of_getElem? hp)) (ht _ (List.mem_of_getElem? hq)))
theorem k_freeT {A0 : Nat → Prop} {X T px tc : va_W} {H0 H : Heap} {locs : List Loc} (hD : va_D A0 (X ++ T)) (hS : va_S A0 H0 H locs) (hA : ∀ q, H0.size ≤ q → A0 q) (is : List Nat) (hC : is.map (fun i => X[i]?) = px.map some) (ht : ∀ u ∈ tc, u ∈ T) : ∀ q, va_A (px ++ tc) H.size q → A0 q := by
  rintro q (⟨k, e, hk⟩ | h)
  · have hm : (q, e) ∈ X ++ T := List.mem_append.mpr ((List.mem_append.mp (List.mem_of_getElem? hk)).imp (fun h => k_pick_mem is hC h) (ht _))
    obtain ⟨j, hj⟩ := List.getElem?_of_mem hm
    exact hD.2 j _ hj
  · exact hA q (Nat.le_trans hS.1 h)
/-- THE FRAME, with a tail -/
theorem k_frT {A0 : Nat → Prop} {D : va_G} {cl : List vw_C} {X T px tc nx tn T1 : va_W} {H H1 : Heap} (hP : va_P D cl (X ++ T) H) (hD : va_D A0 (X ++ T)) (is : List Nat) (hC : is.map (fun i => X[i]?) = px.map some) (hE : nx.map (·.1) = px.map (·.1)) (ht : ∀ u ∈ tc, u ∈ T) (hT : T1.map (·.1) = T.map (·.1)) (hU : ∀ u ∈ T1, u ∈ tn ∨ (u ∈ T ∧ (u ∈ tc → u ∈ tn)))
    (hk : ∀ q : Nat, q < H.size → ¬ va_A (px ++ tc) H.size q → H1[q]? = H[q]?) (hP1 : va_P D cl (nx ++ tn) H1) : va_P D cl (k_put X is nx ++ T1) H1 ∧ va_D A0 (k_put X is nx ++ T1) := by
  have hlen : is.length = nx.length := by
    have e1 := congrArg List.length hC
    have e2 := congrArg List.length hE
    simp at e1 e2
    omega
  have hX : (k_put X is nx).map (·.1) = X.map (·.1) := by
    apply List.ext_getElem?
    intro k
    have hadr : ∀ (j i : Nat) (x : Nat × va_E), is[j]? = some i → nx[j]? = some x → ∃ y, X[i]? = some y ∧ y.1 = x.1 := by
      intro j i x a b
      have e2 : (nx.map (·.1))[j]? = some x.1 := by simp [b]
      rw [hE, List.getElem?_map] at e2
      cases hz : px[j]? with
      | none => rw [hz] at e2; simp at e2
      | some z =>
        rw [hz] at e2
        have hzx : z.1 = x.1 := by simpa using e2
        have e1 : (is.map (fun i => X[i]?))[j]? = some X[i]? := by rw [List.getElem?_map, a]; rfl
        rw [hC, List.getElem?_map, hz] at e1
        exact ⟨z, (Option.some.inj e1).symm, hzx⟩
    have hl : ∀ (is : List Nat) (qs w : va_W), (k_put w is qs).length = w.length := by
      intro is
      induction is with
      | nil => intro qs w; cases qs <;> rfl
      | cons i is ih =>
        intro qs w
        cases qs with
        | nil => rfl
        | cons q qs => exact (ih qs (w.set i q)).trans (List.length_set ..)
    rw [List.getElem?_map, List.getElem?_map]
    cases hz : (k_put X is nx)[k]? with
    | none =>
      have : X[k]? = none := by rw [List.getElem?_eq_none_iff] at hz ⊢; rw [hl] at hz; exact hz
      rw [this]
    | some q =>
      obtain ⟨y, y1, y2⟩ := k_put_addr is nx X hadr k q hz
      rw [y1]; simp [y2]
  refine ⟨k_at_mem ?_, k_D_fst hD (by rw [List.map_append, List.map_append, hX, hT])⟩
  have keep : ∀ u : Nat × va_E, u ∈ X ++ T → (u ∈ px ++ tc → u ∈ nx ++ tn) → va_at D cl u H1 := by
    intro u hu himp
    have ha := k_mem_at hP hu
    by_cases hin : ∃ w ∈ px ++ tc, w.1 = u.1
    · obtain ⟨w, hw, hwu⟩ := hin
      have hw2 : w ∈ X ++ T := List.mem_append.mpr ((List.mem_append.mp hw).imp (fun h => k_pick_mem is hC h) (ht _))
      have := k_D_inj hD hw2 hu hwu
      subst this
      exact k_mem_at hP1 (himp hw)
    · refine va_at.kept ha (hk u.1 (va_at.lt ha) ?_)
      rintro (⟨k, e, h⟩ | h)
      · exact hin ⟨_, List.mem_of_getElem? h, rfl⟩
      · have := va_at.lt ha; omega
  intro u hu
  rcases List.mem_append.mp hu with h | h
  · obtain ⟨k, hk1⟩ := List.getElem?_of_mem h
    rcases k_put_old is nx X k u hlen hk1 with h1 | ⟨h1, h2⟩
    · exact k_mem_at hP1 (List.mem_append_left _ h1)
    · refine keep u (List.mem_append_left _ (List.mem_of_getElem? h1)) (fun hin => ?_)
      exfalso
      rcases List.mem_append.mp hin with h3 | h3
      · obtain ⟨j, hj⟩ := List.getElem?_of_mem h3
        obtain ⟨i, hi1, hi2⟩ := va_in_of is hC hj
        have hik : i = k := (k_D_left hD).1 i k _ _ hi2 h1 rfl
        subst hik
        exact h2 (List.mem_of_getElem? hi1)
      · exact k_D_apart hD (List.mem_of_getElem? h1) (ht u h3) rfl
  · rcases hU u h with h1 | ⟨h1, h2⟩
    · exact k_mem_at hP1 (List.mem_append_right _ h1)
    · refine keep u (List.mem_append_right _ h1) (fun hin => ?_)
      rcases List.mem_append.mp hin with h3 | h3
      · exact absurd rfl (k_D_apart hD (k_pick_mem is hC h3) h1)
      · exact List.mem_append_right _ (h2 h3)
section KT
variable {p : Program} {l : Launch} {e : Env} {R : Room} {s : State} {m : MethodId} {args : Array Value} {below : List Frame} {meth : Method} {c : Code} {H : Heap} {locs : List Loc} {cells slots : Nat} {Q : State → Prop}
variable {cc : ByteArray} {pc : Nat} {ls : Array Slot} {rest : List Value} {D : va_G} {cl : List vw_C} {A : Nat → Prop} {a : Nat} {tys : List (ClassId × FieldType)} {X T px tc nx tn T1 : va_W} {H0 : Heap}
theorem k_preVT {C : String} {b ci q0 : Nat} {As fs : List Value} {Tq : u_T} {Nq : Nat} (hK : va_K D cl tys s) (hG : k_G k_ns s) (hP : va_P D cl (X ++ T) H) (hD : va_D A (X ++ T)) (is : List Nat) (hC : is.map (fun i => X[i]?) = px.map some) (hni : va_nd is = true) (ht : ∀ u ∈ tc, u ∈ T) (hDt : va_D (fun _ => True) tc) (hq : cl[ci]? = some (C, Tq, Nq)) (he : (px ++ tc)[q0]? = some (b, .inr (ci, fs))) : PreV s H C b (va_Pc (.ref b :: As) (k_In D cl tys (px ++ tc) H.size)) As :=
  ⟨k_blind, va_recv hK (k_cutT hP is hC ht) hq he, fun U hU hW => ⟨rfl, by rw [hU], by rw [hU]; exact k_cutT hP is hC ht, va_K.moved hW.alike hK, hG.warm hW, k_cutDT hD is hni hC ht hDt⟩⟩
theorem k_beIT {rr : Int32} {aa : Array Value} {st0 : List Value} (hr : va_Run p l e R s m args below meth c H locs cells slots 0 0 (F0 m pc ls st0) rest (k_Qi D cl rr (nx ++ tn) (va_A (px ++ tc) H.size) aa) (va_A (px ++ tc) H.size)) (hP : va_P D cl (X ++ T) H) (hD : va_D A (X ++ T)) (hS : va_S A H0 H locs) (hA : ∀ q, H0.size ≤ q → A q) (is : List Nat) (hC : is.map (fun i => X[i]?) = px.map some) (hE : nx.map (·.1) = px.map (·.1)) (ht : ∀ u ∈ tc, u ∈ T) (hT : T1.map (·.1) = T.map (·.1)) (hU : ∀ u ∈ T1, u ∈ tn ∨ (u ∈ T ∧ (u ∈ tc → u ∈ tn)))
    (kk : ∀ (H1 : Heap) (locs1 : List Loc), va_P D cl (k_put X is nx ++ T1) H1 → va_D A (k_put X is nx ++ T1) → va_S A H0 H1 locs1 → W p l e R s m args below meth c H1 locs1 cells slots Q (F0 m (pc + 3) ls (.int rr :: rest))) : W p l e R s m args below meth c H locs cells slots Q (F0 m pc ls st0) := by
  have hFc := k_freeT hD hS hA is hC ht
  refine va_calli hr hS (fun q _ h => hFc q h) hFc (fun r u t H1 locs1 htt hvm hw hB hz1 hk1 hS1 => ?_)
  subst hw
  subst htt
  obtain ⟨g1, g2⟩ := k_frT hP hD is hC hE ht hT hU hk1 hB
  exact kk t.heap locs1 g1 g2 hS1
theorem k_beVT {aa : Array Value} {st0 : List Value} (hr : va_Run p l e R s m args below meth c H locs cells slots 0 0 (F0 m pc ls st0) rest (k_Qv D cl (nx ++ tn) (va_A (px ++ tc) H.size) aa) (va_A (px ++ tc) H.size)) (hP : va_P D cl (X ++ T) H) (hD : va_D A (X ++ T)) (hS : va_S A H0 H locs) (hA : ∀ q, H0.size ≤ q → A q) (is : List Nat) (hC : is.map (fun i => X[i]?) = px.map some) (hE : nx.map (·.1) = px.map (·.1)) (ht : ∀ u ∈ tc, u ∈ T) (hT : T1.map (·.1) = T.map (·.1)) (hU : ∀ u ∈ T1, u ∈ tn ∨ (u ∈ T ∧ (u ∈ tc → u ∈ tn)))
    (kk : ∀ (H1 : Heap) (locs1 : List Loc), va_P D cl (k_put X is nx ++ T1) H1 → va_D A (k_put X is nx ++ T1) → va_S A H0 H1 locs1 → W p l e R s m args below meth c H1 locs1 cells slots Q (F0 m (pc + 3) ls rest)) : W p l e R s m args below meth c H locs cells slots Q (F0 m pc ls st0) := by
  have hFc := k_freeT hD hS hA is hC ht
  refine va_callv hr hS (fun q _ h => hFc q h) hFc (fun u t H1 locs1 htt hvm hw hB hz1 hk1 hS1 => ?_)
  subst htt
  obtain ⟨g1, g2⟩ := k_frT hP hD is hC hE ht hT hU hk1 hB
  exact kk t.heap locs1 g1 g2 hS1
theorem k_beRT {rr : Nat} {aa : Array Value} {st0 : List Value} (hr : va_Run p l e R s m args below meth c H locs cells slots 0 0 (F0 m pc ls st0) rest (k_Qr D cl rr (nx ++ tn) (va_A (px ++ tc) H.size) aa) (va_A (px ++ tc) H.size)) (hP : va_P D cl (X ++ T) H) (hD : va_D A (X ++ T)) (hS : va_S A H0 H locs) (hA : ∀ q, H0.size ≤ q → A q) (is : List Nat) (hC : is.map (fun i => X[i]?) = px.map some) (hE : nx.map (·.1) = px.map (·.1)) (ht : ∀ u ∈ tc, u ∈ T) (hT : T1.map (·.1) = T.map (·.1)) (hU : ∀ u ∈ T1, u ∈ tn ∨ (u ∈ T ∧ (u ∈ tc → u ∈ tn)))
    (kk : ∀ (H1 : Heap) (locs1 : List Loc), va_P D cl (k_put X is nx ++ T1) H1 → va_D A (k_put X is nx ++ T1) → va_S A H0 H1 locs1 → W p l e R s m args below meth c H1 locs1 cells slots Q (F0 m (pc + 3) ls (.ref rr :: rest))) : W p l e R s m args below meth c H locs cells slots Q (F0 m pc ls st0) := by
  have hFc := k_freeT hD hS hA is hC ht
  refine va_callr hr hS (fun q _ h => hFc q h) hFc (fun u ra t H1 locs1 htt hvm hw hB hz1 hk1 hS1 => ?_)
  obtain ⟨rfl, hB⟩ := hB
  subst htt
  obtain ⟨g1, g2⟩ := k_frT hP hD is hC hE ht hT hU hk1 hB
  exact kk t.heap locs1 g1 g2 hS1
end KT
end
section
/-! the rows of the asks, in a pool: row j lies at ro j, its ends at en j -/
def k_p1 (ro en : Nat → Nat) : va_W := (List.range 30).map (fun j => (ro j, .inr (2, [.ref (en j)])))
def k_p2 (cI : ClassId) (en : Nat → Nat) (E : Nat → Nat → Nat) : va_W := (List.range 30).map (fun j => (en j, .inl (cI, 30, .inl (kA (E j)))))
abbrev k_pp (cI : ClassId) (ro en : Nat → Nat) (E : Nat → Nat → Nat) : va_W := k_p1 ro en ++ k_p2 cI en E
theorem k_p1_at {ro en : Nat → Nat} {j : Nat} (h : j < 30) : (k_p1 ro en)[j]? = some (ro j, .inr (2, [.ref (en j)])) := by
  unfold k_p1; rw [List.getElem?_map, List.getElem?_range h]; rfl
theorem k_p2_at {cI : ClassId} {en : Nat → Nat} {E : Nat → Nat → Nat} {j : Nat} (h : j < 30) : (k_p2 cI en E)[j]? = some (en j, .inl (cI, 30, .inl (kA (E j)))) := by
  unfold k_p2; rw [List.getElem?_map, List.getElem?_range h]; rfl
theorem k_p1_len {ro en : Nat → Nat} : (k_p1 ro en).length = 30 := by simp [k_p1]
theorem k_m1 {cI : ClassId} {ro en : Nat → Nat} {E : Nat → Nat → Nat} {j : Nat} (h : j < 30) : ((ro j, .inr (2, [.ref (en j)])) : Nat × va_E) ∈ k_pp cI ro en E := List.mem_append_left _ (List.mem_of_getElem? (k_p1_at h))
theorem k_m2 {cI : ClassId} {ro en : Nat → Nat} {E : Nat → Nat → Nat} {j : Nat} (h : j < 30) : ((en j, .inl (cI, 30, .inl (kA (E j)))) : Nat × va_E) ∈ k_pp cI ro en E := List.mem_append_right _ (List.mem_of_getElem? (k_p2_at h))
theorem k_pp_fst {cI : ClassId} {ro en : Nat → Nat} {E E' : Nat → Nat → Nat} : (k_pp cI ro en E').map (·.1) = (k_pp cI ro en E).map (·.1) := by
  simp [k_pp, k_p1, k_p2]
/-- the addresses of a pool are apart -/
def k_pn (ro en : Nat → Nat) : Prop := (∀ i j, i < 30 → j < 30 → ro i = ro j → i = j) ∧ (∀ i j, i < 30 → j < 30 → en i = en j → i = j) ∧ (∀ i j, i < 30 → j < 30 → ro i ≠ en j)
theorem k_pp_ne {A : Nat → Prop} {cI : ClassId} {ro en : Nat → Nat} {E : Nat → Nat → Nat} (hD : va_D A (k_pp cI ro en E)) : k_pn ro en := by
  have h1 : ∀ i, i < 30 → (k_pp cI ro en E)[i]? = some (ro i, .inr (2, [.ref (en i)])) := fun i h => by
    rw [List.getElem?_append_left (by rw [k_p1_len]; exact h)]; exact k_p1_at h
  have h2 : ∀ i, i < 30 → (k_pp cI ro en E)[30 + i]? = some (en i, .inl (cI, 30, .inl (kA (E i)))) := fun i h => by
    rw [List.getElem?_append_right (by rw [k_p1_len]; omega), k_p1_len, show 30 + i - 30 = i by omega]; exact k_p2_at h
  refine ⟨fun i j hi hj e => hD.1 i j _ _ (h1 i hi) (h1 j hj) e, fun i j hi hj e => ?_, fun i j hi hj e => ?_⟩
  · have := hD.1 _ _ _ _ (h2 i hi) (h2 j hj) e; omega
  · have := hD.1 _ _ _ _ (h1 i hi) (h2 j hj) e; omega
/-- the pool behind a call that has changed one row -/
theorem k_pp_hU {cI : ClassId} {ro en : Nat → Nat} {E : Nat → Nat → Nat} {q : Nat} {v : Nat → Nat} {tc tn : va_W} (hn : k_pn ro en) (hq : q < 30) (h1 : ((en q, .inl (cI, 30, .inl (kA v))) : Nat × va_E) ∈ tn) (h2 : ∀ u ∈ tc, u ∈ tn ∨ u = (en q, .inl (cI, 30, .inl (kA (E q))))) : ∀ u ∈ k_pp cI ro en (va_up E q v), u ∈ tn ∨ (u ∈ k_pp cI ro en E ∧ (u ∈ tc → u ∈ tn)) := by
  intro u hu
  rcases List.mem_append.mp hu with h | h
  · refine Or.inr ⟨List.mem_append_left _ h, fun ht => (h2 u ht).elim id (fun e => ?_)⟩
    obtain ⟨j, hj, rfl⟩ := List.mem_map.mp h
    exact absurd (congrArg Prod.fst e) (hn.2.2 j q (List.mem_range.mp hj) hq)
  · obtain ⟨j, hj, rfl⟩ := List.mem_map.mp h
    have hj := List.mem_range.mp hj
    by_cases e : j = q
    · subst e
      rw [va_up_self]
      exact Or.inl h1
    · rw [va_up_ne _ _ e]
      refine Or.inr ⟨k_m2 hj, fun ht => (h2 _ ht).elim id (fun e2 => ?_)⟩
      exact absurd (hn.2.1 j q hj hq (congrArg Prod.fst e2)) e
theorem k_hU_l {A : Nat → Prop} {P P' Q : va_W} (hD : va_D A (P ++ Q)) : ∀ u ∈ P' ++ Q, u ∈ P' ∨ (u ∈ P ++ Q ∧ (u ∈ P → u ∈ P')) := fun u hu =>
  (List.mem_append.mp hu).elim Or.inl (fun h => Or.inr ⟨List.mem_append_right _ h, fun h2 => absurd rfl (k_D_apart hD h2 h)⟩)
theorem k_hU_r {A : Nat → Prop} {P Q Q' : va_W} (hD : va_D A (P ++ Q)) : ∀ u ∈ P ++ Q', u ∈ Q' ∨ (u ∈ P ++ Q ∧ (u ∈ Q → u ∈ Q')) := fun u hu =>
  (List.mem_append.mp hu).elim (fun h => Or.inr ⟨List.mem_append_left _ h, fun h2 => absurd rfl (k_D_apart hD h h2)⟩) Or.inl
/-! what an ask's row is -/
def e30 : Nat → Nat := fun _ => 30
theorem e30_le : ∀ j, e30 j ≤ 30 := fun _ => Nat.le_refl 30
def rowRaw (t : Nat → Nat) (kd n : Nat) (a b : Nat → Nat) : Nat → Nat := match kd with
  | 0 => rWith t (2 ^ n) 30 0 e30
  | 1 => rGrown b 0 30 0 (rGrown a 0 30 0 e30)
  | 2 => rBehind a b n 30 0 e30
  | 3 => rBehind b a n 30 0 (rBehind a b n 30 0 e30)
  | 4 => rBoth a b n 30 0 e30
  | 5 => rHolding a b 30 0 e30
  | 6 => rIn a b 30 0 e30
  | 7 => rNear a b (-1) true 30 0 e30
  | 8 => rNear a b n false 30 0 e30
  | 9 => rBefore a n 30 0 e30
  | 10 => rGrown a n 30 0 e30
  | _ => e30
def rowVal (t : Nat → Nat) (kd n : Nat) (a b : Nat → Nat) : Nat → Nat := rKL 30 (rowRaw t kd n a b) 30
theorem rowVal_le {t : Nat → Nat} {kd n : Nat} {a b : Nat → Nat} (ha : ∀ j, a j ≤ 30) (hb : ∀ j, b j ≤ 30) : ∀ j, rowVal t kd n a b j ≤ 30 := by
  unfold rowVal
  refine r_bd_rKL ?_
  unfold rowRaw
  split
  · exact r_bd_rWith (by omega) e30_le
  · exact r_bd_rGrown (r_bd_rGrown e30_le ha) hb
  · exact r_bd_rBehind e30_le hb
  · exact r_bd_rBehind (r_bd_rBehind e30_le hb) ha
  · exact r_bd_rBoth e30_le ha hb
  · exact r_bd_rHolding e30_le ha
  · exact r_bd_rIn e30_le ha
  · exact r_bd_rNear e30_le ha
  · exact r_bd_rNear e30_le ha
  · exact r_bd_rBefore e30_le ha
  · exact r_bd_rGrown e30_le ha
  · exact e30_le
def rowsTo (t K fi se nu : Nat → Nat) : Nat → Nat → (Nat → Nat → Nat) → (Nat → Nat → Nat)
  | 0, _, E => E
  | n + 1, i, E => rowsTo t K fi se nu n (i + 1) (va_up E i (rowVal t (K i) (nu i) (E (fi i)) (E (se i))))
def askOK (n : Nat) (K fi se nu : Nat → Nat) : Prop := ∀ i, i < n → K i ≤ 10 ∧ nu i ≤ 30 ∧ (K i = 0 → nu i < 10 ∧ fi i = 0 ∧ se i = 0) ∧ (K i ≠ 0 → fi i < i ∧ se i < i)
theorem k_upE {E : Nat → Nat → Nat} {i : Nat} {v : Nat → Nat} (hE : ∀ j k, E j k ≤ 30) (hv : ∀ k, v k ≤ 30) : ∀ j k, va_up E i v j k ≤ 30 := by
  intro j k
  unfold va_up
  split
  · exact hv k
  · exact hE j k
theorem rowsTo_le {t K fi se nu : Nat → Nat} : ∀ {n i : Nat} {E : Nat → Nat → Nat}, (∀ j k, E j k ≤ 30) → ∀ j k, rowsTo t K fi se nu n i E j k ≤ 30
  | 0, _, _, hE => hE
  | n + 1, i, E, hE => rowsTo_le (n := n) (i := i + 1) (k_upE hE (rowVal_le (hE _) (hE _)))
/-! more rows -/
theorem k_sh1 : ∀ l : Fin 31, (zI 1) <<< (zI ((l.val : Nat) : Int) &&& 31) = zI ((2 ^ l.val : Nat) : Int) := by decide +kernel
theorem k_p10 {n : Nat} (h : n < 10) : 2 ^ n < 1024 := Nat.pow_lt_pow_right (by decide) h
theorem k_tt : zI 1 = k_b (true = true) := by decide +kernel
theorem k_ff : zI 0 = k_b (false = true) := by decide +kernel
/-- cells with the same contents -/
theorem k_ext {cI : ClassId} {n : Nat} {f g : Nat → Int32} (h : ∀ j, j < n → f j = g j) : vp_cell cI (n, .inl f) = vp_cell cI (n, .inl g) := by
  show arrV cI n (fun j => .int (f j)) = arrV cI n (fun j => .int (g j))
  unfold arrV
  congr 2
  funext j
  show Value.int (f j.val) = Value.int (g j.val)
  rw [h j.val j.isLt]
section KP
variable {p : Program} {l : Launch} {e : Env} {R : Room} {s : State} {m : MethodId} {args : Array Value} {below : List Frame} {meth : Method} {c : Code} {H : Heap} {locs : List Loc} {cells slots : Nat} {Q : State → Prop}
variable {cc : ByteArray} {pc : Nat} {ls : Array Slot} {rest : List Value} {D : va_G} {cl : List vw_C} {A : Nat → Prop} {a : Nat} {tys : List (ClassId × FieldType)} {ws : va_W} {H0 : Heap}
theorem k_ishl1 (hx : p.tables.exec = Jvm.exec) (hb : c.code = cc) {n : Nat} (hn : n < 31) (hdg : decode cc pc = .ok (.ishl, 1)) (k : W p l e R s m args below meth c H locs cells slots Q (F0 m (pc + 1) ls (.int (zI ((2 ^ n : Nat) : Int)) :: rest))) : W p l e R s m args below meth c H locs cells slots Q (F0 m pc ls (.int (zI (n : Int)) :: .int (zI 1) :: rest)) :=
  lv_ishl hx hb hdg (by rw [k_sh1 ⟨n, hn⟩]; exact k)
/-- a row of the pool is looked up -/
theorem k_aald (hx : p.tables.exec = Jvm.exec) (hb : c.code = cc) (hK : va_K D cl tys s) (hP : va_P D cl ws H) (q0 t0 : Nat) {cA : ClassId} {C : String} {n : Nat} {ro : Nat → Nat} (ha : ws[q0]? = some (a, .inl (cA, n, .inr (.inr (.inr (.inr (fun i => some (ro i)))))))) (ht : tys[t0]? = some (cA, .object C)) {x : Int} {i : Nat} (hxi : x = (i : Int)) (hi : i < n) (hn : n ≤ 2147483647) (hdg : decode cc pc = .ok (.aaload, 1))
    (kk : W p l e R s m args below meth c H locs cells slots Q (F0 m (pc + 1) ls (.ref (ro i) :: rest))) : W p l e R s m args below meth c H locs cells slots Q (F0 m pc ls (.int (zI x) :: .ref a :: rest)) := by
  subst hxi
  exact va_aldq hx hb hK hP q0 t0 ha ht (zI_in hi hn) hdg (by rw [zI_cl (by omega)]; exact kk)
theorem k_table (hx : p.tables.exec = Jvm.exec) (hb : c.code = cc) {dflt hi : Int} {offs : Array Int} {len : Nat} {x : Int} {v : Nat} {off : Int} {tgt : Nat} (hdg : decode cc pc = .ok (.tableswitch dflt 0 hi offs, len)) (hv : x = (v : Int)) (h2 : (v : Int) ≤ hi) (h3 : hi < 2147483647) (ho : offs[v]? = some off) (ht : (pc : Int) + off = (tgt : Int))
    (k : W p l e R s m args below meth c H locs cells slots Q (F0 m tgt ls rest)) : W p l e R s m args below meth c H locs cells slots Q (F0 m pc ls (.int (zI x) :: rest)) := by
  subst hv
  have e1 : (zI (v : Int)).toInt = (v : Int) := zI_toInt ⟨by omega, by omega⟩
  exact lv_tableIn hx hb hdg (by rw [e1]; omega) (by rw [e1]; omega) (by rw [e1, Int.sub_zero, Int.toNat_natCast]; exact ho) ht k
/-- how long an array is -/
theorem k_alen (hx : p.tables.exec = Jvm.exec) (hb : c.code = cc) (hK : va_K D cl tys s) (hP : va_P D cl ws H) (q0 t0 : Nat) {cA : ClassId} {x : vp_A} (ha : ws[q0]? = some (a, .inl (cA, x))) {ty : FieldType} (ht : tys[t0]? = some (cA, ty)) {v : Int} (hv : (x.1 : Int) = v) (hdg : decode cc pc = .ok (.arraylength, 1))
    (kk : W p l e R s m args below meth c H locs cells slots Q (F0 m (pc + 1) ls (.int (zI v) :: rest))) : W p l e R s m args below meth c H locs cells slots Q (F0 m pc ls (.ref a :: rest)) :=
  va_alen hx hb hK hP q0 t0 ha ht (v := zI v) (by subst hv; exact (zI_nat _).symm) hdg kk
end KP
theorem k_nd2 {ro en : Nat → Nat} {i : Nat} (h : k_pn ro en) (hi : i < 30) : ([ro i, en i] : List Nat).Nodup := by
  simp [h.2.2 i i hi hi]
theorem k_nd4 {ro en : Nat → Nat} {i x : Nat} (h : k_pn ro en) (hi : i < 30) (hx : x < 30) (hix : i ≠ x) : ([ro i, en i, ro x, en x] : List Nat).Nodup := by
  have a1 : ro i ≠ ro x := fun e => hix (h.1 i x hi hx e)
  have a2 : en i ≠ en x := fun e => hix (h.2.1 i x hi hx e)
  have a3 : en i ≠ ro x := fun e => h.2.2 x i hx hi e.symm
  simp [h.2.2 i i hi hi, h.2.2 i x hi hx, h.2.2 x x hx hx, a1, a2, a3]
theorem k_nd6 {ro en : Nat → Nat} {i x y : Nat} (h : k_pn ro en) (hi : i < 30) (hx : x < 30) (hy : y < 30) (hix : i ≠ x) (hiy : i ≠ y) (hxy : x ≠ y) : ([ro i, en i, ro x, en x, ro y, en y] : List Nat).Nodup := by
  have a1 : ro i ≠ ro x := fun e => hix (h.1 i x hi hx e)
  have a2 : en i ≠ en x := fun e => hix (h.2.1 i x hi hx e)
  have a3 : en i ≠ ro x := fun e => h.2.2 x i hx hi e.symm
  have b1 : ro i ≠ ro y := fun e => hiy (h.1 i y hi hy e)
  have b2 : en i ≠ en y := fun e => hiy (h.2.1 i y hi hy e)
  have b3 : en i ≠ ro y := fun e => h.2.2 y i hy hi e.symm
  have c1 : ro x ≠ ro y := fun e => hxy (h.1 x y hx hy e)
  have c2 : en x ≠ en y := fun e => hxy (h.2.1 x y hx hy e)
  have c3 : en x ≠ ro y := fun e => h.2.2 y x hy hx e.symm
  simp [h.2.2 i i hi hi, h.2.2 i x hi hx, h.2.2 i y hi hy, h.2.2 x x hx hx, h.2.2 x y hx hy, h.2.2 y y hy hy, a1, a2, a3, b1, b2, b3, c1, c2, c3]
end
section
theorem d_Ja_fill_0 : decode b_Ja_fill 0 = .ok (.iconst 0, 1) := by decide +kernel
theorem d_Ja_fill_1 : decode b_Ja_fill 1 = .ok (.istore_n 2, 1) := by decide +kernel
theorem d_Ja_fill_2 : decode b_Ja_fill 2 = .ok (.aload_n 0, 1) := by decide +kernel
theorem d_Ja_fill_3 : decode b_Ja_fill 3 = .ok (.arraylength, 1) := by decide +kernel
theorem d_Ja_fill_4 : decode b_Ja_fill 4 = .ok (.istore_n 3, 1) := by decide +kernel
theorem d_Ja_fill_5 : decode b_Ja_fill 5 = .ok (.iload_n 2, 1) := by decide +kernel
theorem d_Ja_fill_6 : decode b_Ja_fill 6 = .ok (.iload_n 3, 1) := by decide +kernel
theorem d_Ja_fill_7 : decode b_Ja_fill 7 = .ok (.if_icmp .ge 13, 3) := by decide +kernel
theorem d_Ja_fill_10 : decode b_Ja_fill 10 = .ok (.aload_n 0, 1) := by decide +kernel
theorem d_Ja_fill_11 : decode b_Ja_fill 11 = .ok (.iload_n 2, 1) := by decide +kernel
theorem d_Ja_fill_12 : decode b_Ja_fill 12 = .ok (.iload_n 1, 1) := by decide +kernel
theorem d_Ja_fill_13 : decode b_Ja_fill 13 = .ok (.iastore, 1) := by decide +kernel
theorem d_Ja_fill_14 : decode b_Ja_fill 14 = .ok (.iinc 2 1, 3) := by decide +kernel
theorem d_Ja_fill_17 : decode b_Ja_fill 17 = .ok (.goto (-12), 3) := by decide +kernel
theorem d_Ja_fill_20 : decode b_Ja_fill 20 = .ok (.return_, 1) := by decide +kernel
theorem d_As_init_0 : decode b_As_init 0 = .ok (.aload_n 0, 1) := by decide +kernel
theorem d_As_init_1 : decode b_As_init 1 = .ok (.invokespecial 3, 3) := by decide +kernel
theorem d_As_init_4 : decode b_As_init 4 = .ok (.aload_n 0, 1) := by decide +kernel
theorem d_As_init_5 : decode b_As_init 5 = .ok (.bipush 30, 2) := by decide +kernel
theorem d_As_init_7 : decode b_As_init 7 = .ok (.newarray .int, 2) := by decide +kernel
theorem d_As_init_9 : decode b_As_init 9 = .ok (.putfield 9, 3) := by decide +kernel
theorem d_As_init_12 : decode b_As_init 12 = .ok (.aload_n 0, 1) := by decide +kernel
theorem d_As_init_13 : decode b_As_init 13 = .ok (.bipush 30, 2) := by decide +kernel
theorem d_As_init_15 : decode b_As_init 15 = .ok (.newarray .int, 2) := by decide +kernel
theorem d_As_init_17 : decode b_As_init 17 = .ok (.putfield 15, 3) := by decide +kernel
theorem d_As_init_20 : decode b_As_init 20 = .ok (.aload_n 0, 1) := by decide +kernel
theorem d_As_init_21 : decode b_As_init 21 = .ok (.bipush 30, 2) := by decide +kernel
theorem d_As_init_23 : decode b_As_init 23 = .ok (.newarray .int, 2) := by decide +kernel
theorem d_As_init_25 : decode b_As_init 25 = .ok (.putfield 18, 3) := by decide +kernel
theorem d_As_init_28 : decode b_As_init 28 = .ok (.aload_n 0, 1) := by decide +kernel
theorem d_As_init_29 : decode b_As_init 29 = .ok (.bipush 30, 2) := by decide +kernel
theorem d_As_init_31 : decode b_As_init 31 = .ok (.newarray .int, 2) := by decide +kernel
theorem d_As_init_33 : decode b_As_init 33 = .ok (.putfield 21, 3) := by decide +kernel
theorem d_As_init_36 : decode b_As_init 36 = .ok (.aload_n 0, 1) := by decide +kernel
theorem d_As_init_37 : decode b_As_init 37 = .ok (.bipush 30, 2) := by decide +kernel
theorem d_As_init_39 : decode b_As_init 39 = .ok (.anewarray 24, 3) := by decide +kernel
theorem d_As_init_42 : decode b_As_init 42 = .ok (.putfield 26, 3) := by decide +kernel
theorem d_As_init_45 : decode b_As_init 45 = .ok (.iconst 0, 1) := by decide +kernel
theorem d_As_init_46 : decode b_As_init 46 = .ok (.istore_n 1, 1) := by decide +kernel
theorem d_As_init_47 : decode b_As_init 47 = .ok (.iload_n 1, 1) := by decide +kernel
theorem d_As_init_48 : decode b_As_init 48 = .ok (.bipush 30, 2) := by decide +kernel
theorem d_As_init_50 : decode b_As_init 50 = .ok (.if_icmp .ge 22, 3) := by decide +kernel
theorem d_As_init_53 : decode b_As_init 53 = .ok (.aload_n 0, 1) := by decide +kernel
theorem d_As_init_54 : decode b_As_init 54 = .ok (.getfield 26, 3) := by decide +kernel
theorem d_As_init_57 : decode b_As_init 57 = .ok (.iload_n 1, 1) := by decide +kernel
theorem d_As_init_58 : decode b_As_init 58 = .ok (.new 24, 3) := by decide +kernel
theorem d_As_init_61 : decode b_As_init 61 = .ok (.dup, 1) := by decide +kernel
theorem d_As_init_62 : decode b_As_init 62 = .ok (.invokespecial 30, 3) := by decide +kernel
theorem d_As_init_65 : decode b_As_init 65 = .ok (.aastore, 1) := by decide +kernel
theorem d_As_init_66 : decode b_As_init 66 = .ok (.iinc 1 1, 3) := by decide +kernel
theorem d_As_init_69 : decode b_As_init 69 = .ok (.goto (-22), 3) := by decide +kernel
theorem d_As_init_72 : decode b_As_init 72 = .ok (.aload_n 0, 1) := by decide +kernel
theorem d_As_init_73 : decode b_As_init 73 = .ok (.iconst 0, 1) := by decide +kernel
theorem d_As_init_74 : decode b_As_init 74 = .ok (.putfield 31, 3) := by decide +kernel
theorem d_As_init_77 : decode b_As_init 77 = .ok (.aload_n 0, 1) := by decide +kernel
theorem d_As_init_78 : decode b_As_init 78 = .ok (.iconst 0, 1) := by decide +kernel
theorem d_As_init_79 : decode b_As_init 79 = .ok (.putfield 35, 3) := by decide +kernel
theorem d_As_init_82 : decode b_As_init 82 = .ok (.return_, 1) := by decide +kernel
theorem d_As_has_0 : decode b_As_has 0 = .ok (.iload_n 1, 1) := by decide +kernel
theorem d_As_has_1 : decode b_As_has 1 = .ok (.ifCond .lt 15, 3) := by decide +kernel
theorem d_As_has_4 : decode b_As_has 4 = .ok (.iload_n 1, 1) := by decide +kernel
theorem d_As_has_5 : decode b_As_has 5 = .ok (.aload_n 0, 1) := by decide +kernel
theorem d_As_has_6 : decode b_As_has 6 = .ok (.getfield 31, 3) := by decide +kernel
theorem d_As_has_9 : decode b_As_has 9 = .ok (.if_icmp .ge 7, 3) := by decide +kernel
theorem d_As_has_12 : decode b_As_has 12 = .ok (.iconst 1, 1) := by decide +kernel
theorem d_As_has_13 : decode b_As_has 13 = .ok (.goto 4, 3) := by decide +kernel
theorem d_As_has_16 : decode b_As_has 16 = .ok (.iconst 0, 1) := by decide +kernel
theorem d_As_has_17 : decode b_As_has 17 = .ok (.ireturn, 1) := by decide +kernel
theorem d_As_append_0 : decode b_As_append 0 = .ok (.aload_n 0, 1) := by decide +kernel
theorem d_As_append_1 : decode b_As_append 1 = .ok (.getfield 31, 3) := by decide +kernel
theorem d_As_append_4 : decode b_As_append 4 = .ok (.bipush 30, 2) := by decide +kernel
theorem d_As_append_6 : decode b_As_append 6 = .ok (.if_icmp .lt 6, 3) := by decide +kernel
theorem d_As_append_9 : decode b_As_append 9 = .ok (.bipush (-4), 2) := by decide +kernel
theorem d_As_append_11 : decode b_As_append 11 = .ok (.ireturn, 1) := by decide +kernel
theorem d_As_append_12 : decode b_As_append 12 = .ok (.aload_n 0, 1) := by decide +kernel
theorem d_As_append_13 : decode b_As_append 13 = .ok (.getfield 9, 3) := by decide +kernel
theorem d_As_append_16 : decode b_As_append 16 = .ok (.aload_n 0, 1) := by decide +kernel
theorem d_As_append_17 : decode b_As_append 17 = .ok (.getfield 31, 3) := by decide +kernel
theorem d_As_append_20 : decode b_As_append 20 = .ok (.iload_n 1, 1) := by decide +kernel
theorem d_As_append_21 : decode b_As_append 21 = .ok (.iastore, 1) := by decide +kernel
theorem d_As_append_22 : decode b_As_append 22 = .ok (.aload_n 0, 1) := by decide +kernel
theorem d_As_append_23 : decode b_As_append 23 = .ok (.getfield 15, 3) := by decide +kernel
theorem d_As_append_26 : decode b_As_append 26 = .ok (.aload_n 0, 1) := by decide +kernel
theorem d_As_append_27 : decode b_As_append 27 = .ok (.getfield 31, 3) := by decide +kernel
theorem d_As_append_30 : decode b_As_append 30 = .ok (.iload_n 2, 1) := by decide +kernel
theorem d_As_append_31 : decode b_As_append 31 = .ok (.iastore, 1) := by decide +kernel
theorem d_As_append_32 : decode b_As_append 32 = .ok (.aload_n 0, 1) := by decide +kernel
theorem d_As_append_33 : decode b_As_append 33 = .ok (.getfield 18, 3) := by decide +kernel
theorem d_As_append_36 : decode b_As_append 36 = .ok (.aload_n 0, 1) := by decide +kernel
theorem d_As_append_37 : decode b_As_append 37 = .ok (.getfield 31, 3) := by decide +kernel
theorem d_As_append_40 : decode b_As_append 40 = .ok (.iload_n 3, 1) := by decide +kernel
theorem d_As_append_41 : decode b_As_append 41 = .ok (.iastore, 1) := by decide +kernel
theorem d_As_append_42 : decode b_As_append 42 = .ok (.aload_n 0, 1) := by decide +kernel
theorem d_As_append_43 : decode b_As_append 43 = .ok (.getfield 21, 3) := by decide +kernel
theorem d_As_append_46 : decode b_As_append 46 = .ok (.aload_n 0, 1) := by decide +kernel
theorem d_As_append_47 : decode b_As_append 47 = .ok (.getfield 31, 3) := by decide +kernel
theorem d_As_append_50 : decode b_As_append 50 = .ok (.iload 4, 2) := by decide +kernel
theorem d_As_append_52 : decode b_As_append 52 = .ok (.iastore, 1) := by decide +kernel
theorem d_As_append_53 : decode b_As_append 53 = .ok (.aload_n 0, 1) := by decide +kernel
theorem d_As_append_54 : decode b_As_append 54 = .ok (.dup, 1) := by decide +kernel
theorem d_As_append_55 : decode b_As_append 55 = .ok (.getfield 31, 3) := by decide +kernel
theorem d_As_append_58 : decode b_As_append 58 = .ok (.iconst 1, 1) := by decide +kernel
theorem d_As_append_59 : decode b_As_append 59 = .ok (.iadd, 1) := by decide +kernel
theorem d_As_append_60 : decode b_As_append 60 = .ok (.putfield 31, 3) := by decide +kernel
theorem d_As_append_63 : decode b_As_append 63 = .ok (.aload_n 0, 1) := by decide +kernel
theorem d_As_append_64 : decode b_As_append 64 = .ok (.getfield 31, 3) := by decide +kernel
theorem d_As_append_67 : decode b_As_append 67 = .ok (.iconst 1, 1) := by decide +kernel
theorem d_As_append_68 : decode b_As_append 68 = .ok (.isub, 1) := by decide +kernel
theorem d_As_append_69 : decode b_As_append 69 = .ok (.ireturn, 1) := by decide +kernel
theorem d_As_dropAll_0 : decode b_As_dropAll 0 = .ok (.aload_n 0, 1) := by decide +kernel
theorem d_As_dropAll_1 : decode b_As_dropAll 1 = .ok (.getfield 31, 3) := by decide +kernel
theorem d_As_dropAll_4 : decode b_As_dropAll 4 = .ok (.istore_n 1, 1) := by decide +kernel
theorem d_As_dropAll_5 : decode b_As_dropAll 5 = .ok (.aload_n 0, 1) := by decide +kernel
theorem d_As_dropAll_6 : decode b_As_dropAll 6 = .ok (.iconst 0, 1) := by decide +kernel
theorem d_As_dropAll_7 : decode b_As_dropAll 7 = .ok (.putfield 31, 3) := by decide +kernel
theorem d_As_dropAll_10 : decode b_As_dropAll 10 = .ok (.aload_n 0, 1) := by decide +kernel
theorem d_As_dropAll_11 : decode b_As_dropAll 11 = .ok (.iconst 0, 1) := by decide +kernel
theorem d_As_dropAll_12 : decode b_As_dropAll 12 = .ok (.putfield 35, 3) := by decide +kernel
theorem d_As_dropAll_15 : decode b_As_dropAll 15 = .ok (.iload_n 1, 1) := by decide +kernel
theorem d_As_dropAll_16 : decode b_As_dropAll 16 = .ok (.ireturn, 1) := by decide +kernel
theorem d_As_outdate_0 : decode b_As_outdate 0 = .ok (.aload_n 0, 1) := by decide +kernel
theorem d_As_outdate_1 : decode b_As_outdate 1 = .ok (.iconst 0, 1) := by decide +kernel
theorem d_As_outdate_2 : decode b_As_outdate 2 = .ok (.putfield 35, 3) := by decide +kernel
theorem d_As_outdate_5 : decode b_As_outdate 5 = .ok (.return_, 1) := by decide +kernel
theorem d_As_rowOf_0 : decode b_As_rowOf 0 = .ok (.aload_n 0, 1) := by decide +kernel
theorem d_As_rowOf_1 : decode b_As_rowOf 1 = .ok (.getfield 35, 3) := by decide +kernel
theorem d_As_rowOf_4 : decode b_As_rowOf 4 = .ok (.istore_n 3, 1) := by decide +kernel
theorem d_As_rowOf_5 : decode b_As_rowOf 5 = .ok (.iload_n 3, 1) := by decide +kernel
theorem d_As_rowOf_6 : decode b_As_rowOf 6 = .ok (.iload_n 1, 1) := by decide +kernel
theorem d_As_rowOf_7 : decode b_As_rowOf 7 = .ok (.if_icmp .gt 30, 3) := by decide +kernel
theorem d_As_rowOf_10 : decode b_As_rowOf 10 = .ok (.iload_n 3, 1) := by decide +kernel
theorem d_As_rowOf_11 : decode b_As_rowOf 11 = .ok (.aload_n 0, 1) := by decide +kernel
theorem d_As_rowOf_12 : decode b_As_rowOf 12 = .ok (.getfield 31, 3) := by decide +kernel
theorem d_As_rowOf_15 : decode b_As_rowOf 15 = .ok (.if_icmp .ge 22, 3) := by decide +kernel
theorem d_As_rowOf_18 : decode b_As_rowOf 18 = .ok (.aload_n 0, 1) := by decide +kernel
theorem d_As_rowOf_19 : decode b_As_rowOf 19 = .ok (.iload_n 3, 1) := by decide +kernel
theorem d_As_rowOf_20 : decode b_As_rowOf 20 = .ok (.aload_n 2, 1) := by decide +kernel
theorem d_As_rowOf_21 : decode b_As_rowOf 21 = .ok (.invokevirtual 38, 3) := by decide +kernel
theorem d_As_rowOf_24 : decode b_As_rowOf 24 = .ok (.aload_n 0, 1) := by decide +kernel
theorem d_As_rowOf_25 : decode b_As_rowOf 25 = .ok (.iload_n 3, 1) := by decide +kernel
theorem d_As_rowOf_26 : decode b_As_rowOf 26 = .ok (.iconst 1, 1) := by decide +kernel
theorem d_As_rowOf_27 : decode b_As_rowOf 27 = .ok (.iadd, 1) := by decide +kernel
theorem d_As_rowOf_28 : decode b_As_rowOf 28 = .ok (.putfield 35, 3) := by decide +kernel
theorem d_As_rowOf_31 : decode b_As_rowOf 31 = .ok (.iinc 3 1, 3) := by decide +kernel
theorem d_As_rowOf_34 : decode b_As_rowOf 34 = .ok (.goto (-29), 3) := by decide +kernel
theorem d_As_rowOf_37 : decode b_As_rowOf 37 = .ok (.aload_n 0, 1) := by decide +kernel
theorem d_As_rowOf_38 : decode b_As_rowOf 38 = .ok (.getfield 26, 3) := by decide +kernel
theorem d_As_rowOf_41 : decode b_As_rowOf 41 = .ok (.iload_n 1, 1) := by decide +kernel
theorem d_As_rowOf_42 : decode b_As_rowOf 42 = .ok (.aaload, 1) := by decide +kernel
theorem d_As_rowOf_43 : decode b_As_rowOf 43 = .ok (.areturn, 1) := by decide +kernel
theorem d_As_workOut_0 : decode b_As_workOut 0 = .ok (.aload_n 0, 1) := by decide +kernel
theorem d_As_workOut_1 : decode b_As_workOut 1 = .ok (.getfield 26, 3) := by decide +kernel
theorem d_As_workOut_4 : decode b_As_workOut 4 = .ok (.iload_n 1, 1) := by decide +kernel
theorem d_As_workOut_5 : decode b_As_workOut 5 = .ok (.aaload, 1) := by decide +kernel
theorem d_As_workOut_6 : decode b_As_workOut 6 = .ok (.astore_n 3, 1) := by decide +kernel
theorem d_As_workOut_7 : decode b_As_workOut 7 = .ok (.aload_n 0, 1) := by decide +kernel
theorem d_As_workOut_8 : decode b_As_workOut 8 = .ok (.getfield 26, 3) := by decide +kernel
theorem d_As_workOut_11 : decode b_As_workOut 11 = .ok (.aload_n 0, 1) := by decide +kernel
theorem d_As_workOut_12 : decode b_As_workOut 12 = .ok (.getfield 15, 3) := by decide +kernel
theorem d_As_workOut_15 : decode b_As_workOut 15 = .ok (.iload_n 1, 1) := by decide +kernel
theorem d_As_workOut_16 : decode b_As_workOut 16 = .ok (.iaload, 1) := by decide +kernel
theorem d_As_workOut_17 : decode b_As_workOut 17 = .ok (.aaload, 1) := by decide +kernel
theorem d_As_workOut_18 : decode b_As_workOut 18 = .ok (.astore 4, 2) := by decide +kernel
theorem d_As_workOut_20 : decode b_As_workOut 20 = .ok (.aload_n 0, 1) := by decide +kernel
theorem d_As_workOut_21 : decode b_As_workOut 21 = .ok (.getfield 26, 3) := by decide +kernel
theorem d_As_workOut_24 : decode b_As_workOut 24 = .ok (.aload_n 0, 1) := by decide +kernel
theorem d_As_workOut_25 : decode b_As_workOut 25 = .ok (.getfield 18, 3) := by decide +kernel
theorem d_As_workOut_28 : decode b_As_workOut 28 = .ok (.iload_n 1, 1) := by decide +kernel
theorem d_As_workOut_29 : decode b_As_workOut 29 = .ok (.iaload, 1) := by decide +kernel
theorem d_As_workOut_30 : decode b_As_workOut 30 = .ok (.aaload, 1) := by decide +kernel
theorem d_As_workOut_31 : decode b_As_workOut 31 = .ok (.astore 5, 2) := by decide +kernel
theorem d_As_workOut_33 : decode b_As_workOut 33 = .ok (.aload_n 0, 1) := by decide +kernel
theorem d_As_workOut_34 : decode b_As_workOut 34 = .ok (.getfield 21, 3) := by decide +kernel
theorem d_As_workOut_37 : decode b_As_workOut 37 = .ok (.iload_n 1, 1) := by decide +kernel
theorem d_As_workOut_38 : decode b_As_workOut 38 = .ok (.iaload, 1) := by decide +kernel
theorem d_As_workOut_39 : decode b_As_workOut 39 = .ok (.istore 6, 2) := by decide +kernel
theorem d_As_workOut_41 : decode b_As_workOut 41 = .ok (.aload_n 3, 1) := by decide +kernel
theorem d_As_workOut_42 : decode b_As_workOut 42 = .ok (.invokevirtual 42, 3) := by decide +kernel
theorem d_As_workOut_45 : decode b_As_workOut 45 = .ok (.aload_n 0, 1) := by decide +kernel
theorem d_As_workOut_46 : decode b_As_workOut 46 = .ok (.getfield 9, 3) := by decide +kernel
theorem d_As_workOut_49 : decode b_As_workOut 49 = .ok (.iload_n 1, 1) := by decide +kernel
theorem d_As_workOut_50 : decode b_As_workOut 50 = .ok (.iaload, 1) := by decide +kernel
theorem d_As_workOut_51 : decode b_As_workOut 51 = .ok (.tableswitch 204 0 10 #[57, 69, 84, 97, 120, 133, 144, 155, 168, 182, 193], 57) := by decide +kernel
theorem d_As_workOut_108 : decode b_As_workOut 108 = .ok (.aload_n 3, 1) := by decide +kernel
theorem d_As_workOut_109 : decode b_As_workOut 109 = .ok (.iconst 1, 1) := by decide +kernel
theorem d_As_workOut_110 : decode b_As_workOut 110 = .ok (.iload 6, 2) := by decide +kernel
theorem d_As_workOut_112 : decode b_As_workOut 112 = .ok (.ishl, 1) := by decide +kernel
theorem d_As_workOut_113 : decode b_As_workOut 113 = .ok (.aload_n 2, 1) := by decide +kernel
theorem d_As_workOut_114 : decode b_As_workOut 114 = .ok (.invokevirtual 45, 3) := by decide +kernel
theorem d_As_workOut_117 : decode b_As_workOut 117 = .ok (.goto 138, 3) := by decide +kernel
theorem d_As_workOut_120 : decode b_As_workOut 120 = .ok (.aload_n 3, 1) := by decide +kernel
theorem d_As_workOut_121 : decode b_As_workOut 121 = .ok (.aload 4, 2) := by decide +kernel
theorem d_As_workOut_123 : decode b_As_workOut 123 = .ok (.invokevirtual 48, 3) := by decide +kernel
theorem d_As_workOut_126 : decode b_As_workOut 126 = .ok (.aload_n 3, 1) := by decide +kernel
theorem d_As_workOut_127 : decode b_As_workOut 127 = .ok (.aload 5, 2) := by decide +kernel
theorem d_As_workOut_129 : decode b_As_workOut 129 = .ok (.invokevirtual 48, 3) := by decide +kernel
theorem d_As_workOut_132 : decode b_As_workOut 132 = .ok (.goto 123, 3) := by decide +kernel
theorem d_As_workOut_135 : decode b_As_workOut 135 = .ok (.aload_n 3, 1) := by decide +kernel
theorem d_As_workOut_136 : decode b_As_workOut 136 = .ok (.aload 4, 2) := by decide +kernel
theorem d_As_workOut_138 : decode b_As_workOut 138 = .ok (.aload 5, 2) := by decide +kernel
theorem d_As_workOut_140 : decode b_As_workOut 140 = .ok (.iload 6, 2) := by decide +kernel
theorem d_As_workOut_142 : decode b_As_workOut 142 = .ok (.invokevirtual 52, 3) := by decide +kernel
theorem d_As_workOut_145 : decode b_As_workOut 145 = .ok (.goto 110, 3) := by decide +kernel
theorem d_As_workOut_148 : decode b_As_workOut 148 = .ok (.aload_n 3, 1) := by decide +kernel
theorem d_As_workOut_149 : decode b_As_workOut 149 = .ok (.aload 4, 2) := by decide +kernel
theorem d_As_workOut_151 : decode b_As_workOut 151 = .ok (.aload 5, 2) := by decide +kernel
theorem d_As_workOut_153 : decode b_As_workOut 153 = .ok (.iload 6, 2) := by decide +kernel
theorem d_As_workOut_155 : decode b_As_workOut 155 = .ok (.invokevirtual 52, 3) := by decide +kernel
theorem d_As_workOut_158 : decode b_As_workOut 158 = .ok (.aload_n 3, 1) := by decide +kernel
theorem d_As_workOut_159 : decode b_As_workOut 159 = .ok (.aload 5, 2) := by decide +kernel
theorem d_As_workOut_161 : decode b_As_workOut 161 = .ok (.aload 4, 2) := by decide +kernel
theorem d_As_workOut_163 : decode b_As_workOut 163 = .ok (.iload 6, 2) := by decide +kernel
theorem d_As_workOut_165 : decode b_As_workOut 165 = .ok (.invokevirtual 52, 3) := by decide +kernel
theorem d_As_workOut_168 : decode b_As_workOut 168 = .ok (.goto 87, 3) := by decide +kernel
theorem d_As_workOut_171 : decode b_As_workOut 171 = .ok (.aload_n 3, 1) := by decide +kernel
theorem d_As_workOut_172 : decode b_As_workOut 172 = .ok (.aload 4, 2) := by decide +kernel
theorem d_As_workOut_174 : decode b_As_workOut 174 = .ok (.aload 5, 2) := by decide +kernel
theorem d_As_workOut_176 : decode b_As_workOut 176 = .ok (.iload 6, 2) := by decide +kernel
theorem d_As_workOut_178 : decode b_As_workOut 178 = .ok (.invokevirtual 56, 3) := by decide +kernel
theorem d_As_workOut_181 : decode b_As_workOut 181 = .ok (.goto 74, 3) := by decide +kernel
theorem d_As_workOut_184 : decode b_As_workOut 184 = .ok (.aload_n 3, 1) := by decide +kernel
theorem d_As_workOut_185 : decode b_As_workOut 185 = .ok (.aload 4, 2) := by decide +kernel
theorem d_As_workOut_187 : decode b_As_workOut 187 = .ok (.aload 5, 2) := by decide +kernel
theorem d_As_workOut_189 : decode b_As_workOut 189 = .ok (.invokevirtual 59, 3) := by decide +kernel
theorem d_As_workOut_192 : decode b_As_workOut 192 = .ok (.goto 63, 3) := by decide +kernel
theorem d_As_workOut_195 : decode b_As_workOut 195 = .ok (.aload_n 3, 1) := by decide +kernel
theorem d_As_workOut_196 : decode b_As_workOut 196 = .ok (.aload 4, 2) := by decide +kernel
theorem d_As_workOut_198 : decode b_As_workOut 198 = .ok (.aload 5, 2) := by decide +kernel
theorem d_As_workOut_200 : decode b_As_workOut 200 = .ok (.invokevirtual 63, 3) := by decide +kernel
theorem d_As_workOut_203 : decode b_As_workOut 203 = .ok (.goto 52, 3) := by decide +kernel
theorem d_As_workOut_206 : decode b_As_workOut 206 = .ok (.aload_n 3, 1) := by decide +kernel
theorem d_As_workOut_207 : decode b_As_workOut 207 = .ok (.aload 4, 2) := by decide +kernel
theorem d_As_workOut_209 : decode b_As_workOut 209 = .ok (.aload 5, 2) := by decide +kernel
theorem d_As_workOut_211 : decode b_As_workOut 211 = .ok (.iconst (-1), 1) := by decide +kernel
theorem d_As_workOut_212 : decode b_As_workOut 212 = .ok (.iconst 1, 1) := by decide +kernel
theorem d_As_workOut_213 : decode b_As_workOut 213 = .ok (.invokevirtual 66, 3) := by decide +kernel
theorem d_As_workOut_216 : decode b_As_workOut 216 = .ok (.goto 39, 3) := by decide +kernel
theorem d_As_workOut_219 : decode b_As_workOut 219 = .ok (.aload_n 3, 1) := by decide +kernel
theorem d_As_workOut_220 : decode b_As_workOut 220 = .ok (.aload 4, 2) := by decide +kernel
theorem d_As_workOut_222 : decode b_As_workOut 222 = .ok (.aload 5, 2) := by decide +kernel
theorem d_As_workOut_224 : decode b_As_workOut 224 = .ok (.iload 6, 2) := by decide +kernel
theorem d_As_workOut_226 : decode b_As_workOut 226 = .ok (.iconst 0, 1) := by decide +kernel
theorem d_As_workOut_227 : decode b_As_workOut 227 = .ok (.invokevirtual 66, 3) := by decide +kernel
theorem d_As_workOut_230 : decode b_As_workOut 230 = .ok (.goto 25, 3) := by decide +kernel
theorem d_As_workOut_233 : decode b_As_workOut 233 = .ok (.aload_n 3, 1) := by decide +kernel
theorem d_As_workOut_234 : decode b_As_workOut 234 = .ok (.aload 4, 2) := by decide +kernel
theorem d_As_workOut_236 : decode b_As_workOut 236 = .ok (.iload 6, 2) := by decide +kernel
theorem d_As_workOut_238 : decode b_As_workOut 238 = .ok (.invokevirtual 70, 3) := by decide +kernel
theorem d_As_workOut_241 : decode b_As_workOut 241 = .ok (.goto 14, 3) := by decide +kernel
theorem d_As_workOut_244 : decode b_As_workOut 244 = .ok (.aload_n 3, 1) := by decide +kernel
theorem d_As_workOut_245 : decode b_As_workOut 245 = .ok (.aload 4, 2) := by decide +kernel
theorem d_As_workOut_247 : decode b_As_workOut 247 = .ok (.iload 6, 2) := by decide +kernel
theorem d_As_workOut_249 : decode b_As_workOut 249 = .ok (.invokevirtual 74, 3) := by decide +kernel
theorem d_As_workOut_252 : decode b_As_workOut 252 = .ok (.goto 3, 3) := by decide +kernel
theorem d_As_workOut_255 : decode b_As_workOut 255 = .ok (.aload_n 3, 1) := by decide +kernel
theorem d_As_workOut_256 : decode b_As_workOut 256 = .ok (.invokevirtual 77, 3) := by decide +kernel
theorem d_As_workOut_259 : decode b_As_workOut 259 = .ok (.return_, 1) := by decide +kernel
abbrev rm_Ja_fill : Room := { frames := 0, cells := 0, slots := 0, locals := 0 }
set_option maxHeartbeats 4000000 in
set_option maxRecDepth 100000 in
theorem c_Ja_fill (l : Launch) (D : va_G) (cI cR cG : ClassId) (q N v : Nat) (G0 : Nat → Nat) (hN : N ≤ 1000) : k_M l y_Ja_fill (.code y_Ja_fill b_Ja_fill 4 none :: kW) rm_Ja_fill D k_cl (k_ty cI cR cG) [.ref q, .int (zI ↑v)] ([(q, .inl (cI, N, .inl (kA G0)))]) (k_Qv D k_cl [(q, .inl (cI, N, .inl (kA (fun _ => v))))]) := by
  refine k_start (cc := b_Ja_fill) (maxL := 4) (ret := none) (by decide) rfl (Nat.le_of_ble_eq_true rfl) ?_
  intro p ev s m ar below meth c A ls Qf hQf hx hb hr hml hts hown hlocks hin hK hG hA hP hD hS hl
  replace hown : s.vm.findClass "java/util/Arrays" = some m.cls := hown
  replace hl : lv_has ls 4 [(0, .ref q), (1, .int (zI ↑v))] := hl
  have hkw : ∀ w ∈ kW, w.before ar s = true := fun w h => hts w (List.mem_cons_of_mem _ h)
  replace hP : va_P D k_cl ([(q, .inl (cI, N, .inl (kA G0)))]) s.heap := hP
  replace hD : va_D A ([(q, .inl (cI, N, .inl (kA G0)))]) := hD
  refine lv_iconst (v := zI 0) hx hb d_Ja_fill_0 (by decide) ?_
  refine lv_istore_n (lv' := [(2, .int (zI 0)), (0, .ref q), (1, .int (zI ↑v))]) hx hb d_Ja_fill_1 rfl hl (by decide) rfl ?_
  clear hl; intro ls hl
  refine lv_aload_n hx hb d_Ja_fill_2 rfl (lv_at hl 1 rfl) ?_
  refine k_alen (v := ↑N) hx hb hK hP 0 0 rfl rfl (by first | rfl | omega) d_Ja_fill_3 ?_
  refine lv_istore_n (lv' := [(3, .int (zI ↑N)), (2, .int (zI 0)), (0, .ref q), (1, .int (zI ↑v))]) hx hb d_Ja_fill_4 rfl hl (by decide) rfl ?_
  clear hl; intro ls hl
  have loop_5 : ∀ (n : Nat) (i : Nat) (F : Nat → Nat), (i + n = N) → (∀ j, j < i → F j = v) → ∀ (H : Heap) (locs : List Loc) (ls : Array Slot), va_P D k_cl ([(q, .inl (cI, N, .inl (kA F)))]) H → va_D A ([(q, .inl (cI, N, .inl (kA F)))]) → va_S A s.heap H locs → lv_has ls 4 [(0, .ref q), (1, .int (zI ↑v)), (2, .int (zI ↑i)), (3, .int (zI ↑N))] → W p l ev rm_Ja_fill s m ar below meth c H locs 0 0 Qf (F0 m 5 ls []) := by
    intro n
    induction n with
    | zero =>
      intro i F hin hgo H locs ls hP hD hS hl
      refine lv_iload_n hx hb d_Ja_fill_5 rfl (lv_at hl 2 rfl) ?_
      refine lv_iload_n hx hb d_Ja_fill_6 rfl (lv_at hl 3 rfl) ?_
      refine k_icmp_ge (tgt := 20) hx hb d_Ja_fill_7 (by decide) ⟨by omega, by omega⟩ ⟨by omega, by omega⟩ (fun c_7 => ?_) (fun c_7 => ?_)
      · rw [← hQf]
        have hP : va_P D k_cl [(q, .inl (cI, N, .inl (kA (fun _ => v))))] H := k_at_mem (fun u hu => by
          have hu := List.mem_singleton.mp hu
          subst hu
          have h0 := hP 0 _ rfl
          show H[q]? = some (vp_cell cI (N, .inl (kA (fun _ => v))))
          rw [k_ext (g := kA F) (fun j hj => by unfold kA; rw [hgo j (by omega)])]
          exact h0)
        exact k_vret hx hb hr hlocks hP hS d_Ja_fill_20
      · exfalso; omega
    | succ n ih_5 =>
      intro i F hin hgo H locs ls hP hD hS hl
      refine lv_iload_n hx hb d_Ja_fill_5 rfl (lv_at hl 2 rfl) ?_
      refine lv_iload_n hx hb d_Ja_fill_6 rfl (lv_at hl 3 rfl) ?_
      refine k_icmp_ge (tgt := 20) hx hb d_Ja_fill_7 (by decide) ⟨by omega, by omega⟩ ⟨by omega, by omega⟩ (fun c_7 => ?_) (fun c_7 => ?_)
      · exfalso; omega
      · refine lv_aload_n hx hb d_Ja_fill_10 rfl (lv_at hl 0 rfl) ?_
        refine lv_iload_n hx hb d_Ja_fill_11 rfl (lv_at hl 2 rfl) ?_
        refine lv_iload_n hx hb d_Ja_fill_12 rfl (lv_at hl 1 rfl) ?_
        refine k_ast hx hb hK hP hD hS 0 0 rfl rfl (i := i) (v := v) (by omega) (by omega) (by omega) (by omega) d_Ja_fill_13 ?_
        clear hP hD hS; intro H locs hP hD hS
        replace hP : va_P D k_cl ([(q, .inl (cI, N, .inl (kA (va_up F i v))))]) H := hP
        replace hD : va_D A ([(q, .inl (cI, N, .inl (kA (va_up F i v))))]) := hD
        refine k_iinc (v := ↑(i + 1)) (lv' := [(2, .int (zI (↑(i + 1)))), (0, .ref q), (1, .int (zI ↑v)), (3, .int (zI ↑N))]) hx hb d_Ja_fill_14 hl (k := 2) rfl (by omega) (by decide) rfl ?_
        clear hl; intro ls hl
        refine lv_goto (tgt := 5) hx hb d_Ja_fill_17 (by decide) ?_
        exact ih_5 (i + 1) (va_up F i v) (by omega) (by intro j hj; unfold va_up; split <;> first | rfl | exact hgo j (by omega)) _ _ _ hP hD hS (lv_sub hl [1, 2, 0, 3] rfl)
  exact loop_5 N 0 G0 (by omega) (by omega) _ _ _ hP hD hS (lv_sub hl [2, 3, 1, 0] rfl)

abbrev rm_Row_empty : Room := { frames := 1, cells := 0, slots := 0, locals := 23 }
set_option maxHeartbeats 4000000 in
set_option maxRecDepth 100000 in
theorem c_Row_empty (l : Launch) (D : va_G) (cI cR cG : ClassId) (h e : Nat) (G0 : Nat → Nat)  : k_M l y_Ro_empty (.code y_Ro_empty b_Ro_empty 1 none :: kW) rm_Row_empty D k_cl (k_ty cI cR cG) [.ref h] ([(h, .inr (2, [.ref e])), (e, .inl (cI, 30, .inl (kA G0)))]) (k_Qv D k_cl [(h, .inr (2, [.ref e])), (e, .inl (cI, 30, .inl (kA e30)))]) := by
  refine k_start (cc := b_Ro_empty) (maxL := 1) (ret := none) (by decide) rfl (Nat.le_of_ble_eq_true rfl) ?_
  intro p ev s m ar below meth c A ls Qf hQf hx hb hr hml hts hown hlocks hin hK hG hA hP hD hS hl
  replace hown : s.vm.findClass R_Ro = some m.cls := hown
  replace hl : lv_has ls 1 [(0, .ref h)] := hl
  have hkw : ∀ w ∈ kW, w.before ar s = true := fun w h => hts w (List.mem_cons_of_mem _ h)
  replace hP : va_P D k_cl ([(h, .inr (2, [.ref e])), (e, .inl (cI, 30, .inl (kA G0)))]) s.heap := hP
  replace hD : va_D A ([(h, .inr (2, [.ref e])), (e, .inl (cI, 30, .inl (kA G0)))]) := hD
  refine lv_aload_n hx hb d_Ro_empty_0 rfl (lv_at hl 0 rfl) ?_
  refine va_get (D := D) (ci := 2) (v := .ref e) (C := R_Ro) (T := T_Ro) (N := 1) hx hb hkw kin_Ro hown hK hP 0 rfl rfl 0 (by decide) (hkw _ kw_fieldLink_Ro_9) (fun _ h9 => h9) rfl d_Ro_empty_1 ?_
  refine lv_bipush (v := zI 30) hx hb d_Ro_empty_4 (by decide) ?_
  refine k_beV (va_runS (As := [.ref e, .int (zI 30)]) (rest := []) ⟨hx, hb, hml, hown, hkw⟩ (c_Ja_fill l D cI cR cG e 30 30 G0 (by decide) _) (va_cwS 2 hkw (k_gS kw_methodLink_Ro_15 kw_static_Arrays_fill kw_initialized_Arrays kw_code_Arrays_fill) rfl rfl rfl (by decide +kernel) ⟨(Nat.le_of_ble_eq_true rfl), (Nat.le_of_ble_eq_true rfl)⟩) (k_preS hK hG hP hD [1] rfl rfl) rfl rfl hl.1 rfl (lv_room (Nat.le_of_ble_eq_true rfl)) d_Ro_empty_6 ⟨Nat.zero_le _, Nat.zero_le _⟩) hP hD hS hA [1] rfl (Eq.trans (b := [e]) rfl rfl) ?_
  clear hP hD hS; intro H locs hP hD hS
  replace hP : va_P D k_cl ([(h, .inr (2, [.ref e])), (e, .inl (cI, 30, .inl (kA (fun _ => 30))))]) H := hP
  replace hD : va_D A ([(h, .inr (2, [.ref e])), (e, .inl (cI, 30, .inl (kA (fun _ => 30))))]) := hD
  rw [← hQf]
  exact k_vret hx hb hr hlocks hP hS d_Ro_empty_9

abbrev rm_As_has : Room := { frames := 0, cells := 0, slots := 0, locals := 0 }
set_option maxHeartbeats 4000000 in
set_option maxRecDepth 100000 in
theorem c_As_has (l : Launch) (D : va_G) (cI cR cG : ClassId) (h qk qf qs qn qr n r : Nat) (x : Int) (hx1 : k_sm x) (hn : n ≤ 30) : k_M l y_As_has (.code y_As_has b_As_has 2 (some .boolean) :: kW) rm_As_has D k_cl (k_ty cI cR cG) [.ref h, .int (zI x)] ([(h, .inr (0, [.ref qk, .ref qf, .ref qs, .ref qn, .ref qr, .int (zI ↑n), .int (zI ↑r)]))]) (k_Qi D k_cl (k_b (0 ≤ x ∧ x < ↑n)) [(h, .inr (0, [.ref qk, .ref qf, .ref qs, .ref qn, .ref qr, .int (zI ↑n), .int (zI ↑r)]))]) := by
  refine k_start (cc := b_As_has) (maxL := 2) (ret := (some .boolean)) (by decide) rfl (Nat.le_of_ble_eq_true rfl) ?_
  intro p ev s m ar below meth c A ls Qf hQf hx hb hr hml hts hown hlocks hin hK hG hA hP hD hS hl
  replace hown : s.vm.findClass R_As = some m.cls := hown
  replace hl : lv_has ls 2 [(0, .ref h), (1, .int (zI x))] := hl
  have hkw : ∀ w ∈ kW, w.before ar s = true := fun w h => hts w (List.mem_cons_of_mem _ h)
  replace hP : va_P D k_cl ([(h, .inr (0, [.ref qk, .ref qf, .ref qs, .ref qn, .ref qr, .int (zI ↑n), .int (zI ↑r)]))]) s.heap := hP
  replace hD : va_D A ([(h, .inr (0, [.ref qk, .ref qf, .ref qs, .ref qn, .ref qr, .int (zI ↑n), .int (zI ↑r)]))]) := hD
  have hx2 := hx1.1
  have hx3 := hx1.2
  refine lv_iload_n hx hb d_As_has_0 rfl (lv_at hl 1 rfl) ?_
  refine k_if_lt (tgt := 16) hx hb d_As_has_1 (by decide) ⟨by omega, by omega⟩ (fun c_1 => ?_) (fun c_1 => ?_)
  · refine lv_iconst (v := zI 0) hx hb d_As_has_16 (by decide) ?_
    rw [← hQf]
    exact k_zret hx hb hr hlocks hP hS (k_bf (by omega)).symm d_As_has_17
  · refine lv_iload_n hx hb d_As_has_4 rfl (lv_at hl 1 rfl) ?_
    refine lv_aload_n hx hb d_As_has_5 rfl (lv_at hl 0 rfl) ?_
    refine va_get (D := D) (ci := 0) (v := .int (zI ↑n)) (C := R_As) (T := T_As) (N := 7) hx hb hkw kin_As hown hK hP 0 rfl rfl 5 (by decide) (hkw _ kw_fieldLink_As_31) (fun _ h9 => h9) rfl d_As_has_6 ?_
    refine k_icmp_ge (tgt := 16) hx hb d_As_has_9 (by decide) ⟨by omega, by omega⟩ ⟨by omega, by omega⟩ (fun c_9 => ?_) (fun c_9 => ?_)
    · refine lv_iconst (v := zI 0) hx hb d_As_has_16 (by decide) ?_
      rw [← hQf]
      exact k_zret hx hb hr hlocks hP hS (k_bf (by omega)).symm d_As_has_17
    · refine lv_iconst (v := zI 1) hx hb d_As_has_12 (by decide) ?_
      refine lv_goto (tgt := 17) hx hb d_As_has_13 (by decide) ?_
      rw [← hQf]
      exact k_zret hx hb hr hlocks hP hS (k_bt (by omega)).symm d_As_has_17

abbrev rm_As_append : Room := { frames := 0, cells := 0, slots := 0, locals := 0 }
set_option maxHeartbeats 4000000 in
set_option maxRecDepth 100000 in
theorem c_As_append (l : Launch) (D : va_G) (cI cR cG : ClassId) (h qk qf qs qn qr n r : Nat) (K fi se nu : Nat → Nat) (a b d f : Nat) (hn : n < 30) : k_M l y_As_append (.code y_As_append b_As_append 5 (some .int) :: kW) rm_As_append D k_cl (k_ty cI cR cG) [.ref h, .int (zI ↑a), .int (zI ↑b), .int (zI ↑d), .int (zI ↑f)] ([(h, .inr (0, [.ref qk, .ref qf, .ref qs, .ref qn, .ref qr, .int (zI ↑n), .int (zI ↑r)])), (qk, .inl (cI, 30, .inl (kA K))), (qf, .inl (cI, 30, .inl (kA fi))), (qs, .inl (cI, 30, .inl (kA se))), (qn, .inl (cI, 30, .inl (kA nu)))]) (k_Qi D k_cl (zI ↑n) [(h, .inr (0, [.ref qk, .ref qf, .ref qs, .ref qn, .ref qr, .int (zI (↑(n + 1))), .int (zI ↑r)])), (qk, .inl (cI, 30, .inl (kA (va_up K n a)))), (qf, .inl (cI, 30, .inl (kA (va_up fi n b)))), (qs, .inl (cI, 30, .inl (kA (va_up se n d)))), (qn, .inl (cI, 30, .inl (kA (va_up nu n f))))]) := by
  refine k_start (cc := b_As_append) (maxL := 5) (ret := (some .int)) (by decide) rfl (Nat.le_of_ble_eq_true rfl) ?_
  intro p ev s m ar below meth c A ls Qf hQf hx hb hr hml hts hown hlocks hin hK hG hA hP hD hS hl
  replace hown : s.vm.findClass R_As = some m.cls := hown
  replace hl : lv_has ls 5 [(0, .ref h), (1, .int (zI ↑a)), (2, .int (zI ↑b)), (3, .int (zI ↑d)), (4, .int (zI ↑f))] := hl
  have hkw : ∀ w ∈ kW, w.before ar s = true := fun w h => hts w (List.mem_cons_of_mem _ h)
  replace hP : va_P D k_cl ([(h, .inr (0, [.ref qk, .ref qf, .ref qs, .ref qn, .ref qr, .int (zI ↑n), .int (zI ↑r)])), (qk, .inl (cI, 30, .inl (kA K))), (qf, .inl (cI, 30, .inl (kA fi))), (qs, .inl (cI, 30, .inl (kA se))), (qn, .inl (cI, 30, .inl (kA nu)))]) s.heap := hP
  replace hD : va_D A ([(h, .inr (0, [.ref qk, .ref qf, .ref qs, .ref qn, .ref qr, .int (zI ↑n), .int (zI ↑r)])), (qk, .inl (cI, 30, .inl (kA K))), (qf, .inl (cI, 30, .inl (kA fi))), (qs, .inl (cI, 30, .inl (kA se))), (qn, .inl (cI, 30, .inl (kA nu)))]) := hD
  refine lv_aload_n hx hb d_As_append_0 rfl (lv_at hl 0 rfl) ?_
  refine va_get (D := D) (ci := 0) (v := .int (zI ↑n)) (C := R_As) (T := T_As) (N := 7) hx hb hkw kin_As hown hK hP 0 rfl rfl 5 (by decide) (hkw _ kw_fieldLink_As_31) (fun _ h9 => h9) rfl d_As_append_1 ?_
  refine lv_bipush (v := zI 30) hx hb d_As_append_4 (by decide) ?_
  refine k_icmp_lt (tgt := 12) hx hb d_As_append_6 (by decide) ⟨by omega, by omega⟩ ⟨by omega, by omega⟩ (fun c_6 => ?_) (fun c_6 => ?_)
  · refine lv_aload_n hx hb d_As_append_12 rfl (lv_at hl 0 rfl) ?_
    refine va_get (D := D) (ci := 0) (v := .ref qk) (C := R_As) (T := T_As) (N := 7) hx hb hkw kin_As hown hK hP 0 rfl rfl 0 (by decide) (hkw _ kw_fieldLink_As_9) (fun _ h9 => h9) rfl d_As_append_13 ?_
    refine lv_aload_n hx hb d_As_append_16 rfl (lv_at hl 0 rfl) ?_
    refine va_get (D := D) (ci := 0) (v := .int (zI ↑n)) (C := R_As) (T := T_As) (N := 7) hx hb hkw kin_As hown hK hP 0 rfl rfl 5 (by decide) (hkw _ kw_fieldLink_As_31) (fun _ h9 => h9) rfl d_As_append_17 ?_
    refine lv_iload_n hx hb d_As_append_20 rfl (lv_at hl 1 rfl) ?_
    refine k_ast hx hb hK hP hD hS 1 0 rfl rfl (i := n) (v := a) (by omega) (by omega) (by omega) (by omega) d_As_append_21 ?_
    clear hP hD hS; intro H locs hP hD hS
    replace hP : va_P D k_cl ([(h, .inr (0, [.ref qk, .ref qf, .ref qs, .ref qn, .ref qr, .int (zI ↑n), .int (zI ↑r)])), (qk, .inl (cI, 30, .inl (kA (va_up K n a)))), (qf, .inl (cI, 30, .inl (kA fi))), (qs, .inl (cI, 30, .inl (kA se))), (qn, .inl (cI, 30, .inl (kA nu)))]) H := hP
    replace hD : va_D A ([(h, .inr (0, [.ref qk, .ref qf, .ref qs, .ref qn, .ref qr, .int (zI ↑n), .int (zI ↑r)])), (qk, .inl (cI, 30, .inl (kA (va_up K n a)))), (qf, .inl (cI, 30, .inl (kA fi))), (qs, .inl (cI, 30, .inl (kA se))), (qn, .inl (cI, 30, .inl (kA nu)))]) := hD
    refine lv_aload_n hx hb d_As_append_22 rfl (lv_at hl 0 rfl) ?_
    refine va_get (D := D) (ci := 0) (v := .ref qf) (C := R_As) (T := T_As) (N := 7) hx hb hkw kin_As hown hK hP 0 rfl rfl 1 (by decide) (hkw _ kw_fieldLink_As_15) (fun _ h9 => h9) rfl d_As_append_23 ?_
    refine lv_aload_n hx hb d_As_append_26 rfl (lv_at hl 0 rfl) ?_
    refine va_get (D := D) (ci := 0) (v := .int (zI ↑n)) (C := R_As) (T := T_As) (N := 7) hx hb hkw kin_As hown hK hP 0 rfl rfl 5 (by decide) (hkw _ kw_fieldLink_As_31) (fun _ h9 => h9) rfl d_As_append_27 ?_
    refine lv_iload_n hx hb d_As_append_30 rfl (lv_at hl 2 rfl) ?_
    refine k_ast hx hb hK hP hD hS 2 0 rfl rfl (i := n) (v := b) (by omega) (by omega) (by omega) (by omega) d_As_append_31 ?_
    clear hP hD hS; intro H locs hP hD hS
    replace hP : va_P D k_cl ([(h, .inr (0, [.ref qk, .ref qf, .ref qs, .ref qn, .ref qr, .int (zI ↑n), .int (zI ↑r)])), (qk, .inl (cI, 30, .inl (kA (va_up K n a)))), (qf, .inl (cI, 30, .inl (kA (va_up fi n b)))), (qs, .inl (cI, 30, .inl (kA se))), (qn, .inl (cI, 30, .inl (kA nu)))]) H := hP
    replace hD : va_D A ([(h, .inr (0, [.ref qk, .ref qf, .ref qs, .ref qn, .ref qr, .int (zI ↑n), .int (zI ↑r)])), (qk, .inl (cI, 30, .inl (kA (va_up K n a)))), (qf, .inl (cI, 30, .inl (kA (va_up fi n b)))), (qs, .inl (cI, 30, .inl (kA se))), (qn, .inl (cI, 30, .inl (kA nu)))]) := hD
    refine lv_aload_n hx hb d_As_append_32 rfl (lv_at hl 0 rfl) ?_
    refine va_get (D := D) (ci := 0) (v := .ref qs) (C := R_As) (T := T_As) (N := 7) hx hb hkw kin_As hown hK hP 0 rfl rfl 2 (by decide) (hkw _ kw_fieldLink_As_18) (fun _ h9 => h9) rfl d_As_append_33 ?_
    refine lv_aload_n hx hb d_As_append_36 rfl (lv_at hl 0 rfl) ?_
    refine va_get (D := D) (ci := 0) (v := .int (zI ↑n)) (C := R_As) (T := T_As) (N := 7) hx hb hkw kin_As hown hK hP 0 rfl rfl 5 (by decide) (hkw _ kw_fieldLink_As_31) (fun _ h9 => h9) rfl d_As_append_37 ?_
    refine lv_iload_n hx hb d_As_append_40 rfl (lv_at hl 3 rfl) ?_
    refine k_ast hx hb hK hP hD hS 3 0 rfl rfl (i := n) (v := d) (by omega) (by omega) (by omega) (by omega) d_As_append_41 ?_
    clear hP hD hS; intro H locs hP hD hS
    replace hP : va_P D k_cl ([(h, .inr (0, [.ref qk, .ref qf, .ref qs, .ref qn, .ref qr, .int (zI ↑n), .int (zI ↑r)])), (qk, .inl (cI, 30, .inl (kA (va_up K n a)))), (qf, .inl (cI, 30, .inl (kA (va_up fi n b)))), (qs, .inl (cI, 30, .inl (kA (va_up se n d)))), (qn, .inl (cI, 30, .inl (kA nu)))]) H := hP
    replace hD : va_D A ([(h, .inr (0, [.ref qk, .ref qf, .ref qs, .ref qn, .ref qr, .int (zI ↑n), .int (zI ↑r)])), (qk, .inl (cI, 30, .inl (kA (va_up K n a)))), (qf, .inl (cI, 30, .inl (kA (va_up fi n b)))), (qs, .inl (cI, 30, .inl (kA (va_up se n d)))), (qn, .inl (cI, 30, .inl (kA nu)))]) := hD
    refine lv_aload_n hx hb d_As_append_42 rfl (lv_at hl 0 rfl) ?_
    refine va_get (D := D) (ci := 0) (v := .ref qn) (C := R_As) (T := T_As) (N := 7) hx hb hkw kin_As hown hK hP 0 rfl rfl 3 (by decide) (hkw _ kw_fieldLink_As_21) (fun _ h9 => h9) rfl d_As_append_43 ?_
    refine lv_aload_n hx hb d_As_append_46 rfl (lv_at hl 0 rfl) ?_
    refine va_get (D := D) (ci := 0) (v := .int (zI ↑n)) (C := R_As) (T := T_As) (N := 7) hx hb hkw kin_As hown hK hP 0 rfl rfl 5 (by decide) (hkw _ kw_fieldLink_As_31) (fun _ h9 => h9) rfl d_As_append_47 ?_
    refine lv_iload hx hb d_As_append_50 (lv_at hl 4 rfl) ?_
    refine k_ast hx hb hK hP hD hS 4 0 rfl rfl (i := n) (v := f) (by omega) (by omega) (by omega) (by omega) d_As_append_52 ?_
    clear hP hD hS; intro H locs hP hD hS
    replace hP : va_P D k_cl ([(h, .inr (0, [.ref qk, .ref qf, .ref qs, .ref qn, .ref qr, .int (zI ↑n), .int (zI ↑r)])), (qk, .inl (cI, 30, .inl (kA (va_up K n a)))), (qf, .inl (cI, 30, .inl (kA (va_up fi n b)))), (qs, .inl (cI, 30, .inl (kA (va_up se n d)))), (qn, .inl (cI, 30, .inl (kA (va_up nu n f))))]) H := hP
    replace hD : va_D A ([(h, .inr (0, [.ref qk, .ref qf, .ref qs, .ref qn, .ref qr, .int (zI ↑n), .int (zI ↑r)])), (qk, .inl (cI, 30, .inl (kA (va_up K n a)))), (qf, .inl (cI, 30, .inl (kA (va_up fi n b)))), (qs, .inl (cI, 30, .inl (kA (va_up se n d)))), (qn, .inl (cI, 30, .inl (kA (va_up nu n f))))]) := hD
    refine lv_aload_n hx hb d_As_append_53 rfl (lv_at hl 0 rfl) ?_
    refine lv_dup hx hb d_As_append_54 rfl ?_
    refine va_get (D := D) (ci := 0) (v := .int (zI ↑n)) (C := R_As) (T := T_As) (N := 7) hx hb hkw kin_As hown hK hP 0 rfl rfl 5 (by decide) (hkw _ kw_fieldLink_As_31) (fun _ h9 => h9) rfl d_As_append_55 ?_
    refine lv_iconst (v := zI 1) hx hb d_As_append_58 (by decide) ?_
    refine k_iadd (v := ↑(n + 1)) hx hb d_As_append_59 (by omega) ?_
    refine va_put (D := D) (ci := 0) (v := .int (zI (↑(n + 1)))) (ty := .int) (C := R_As) (T := T_As) (N := 7) hx hb hkw kin_As ty_As ty_As_ok nm_As hown hK hP hD hS 0 rfl rfl 5 (by decide) (hkw _ kw_fieldLink_As_31) (fun _ h9 => h9) rfl (by decide +kernel) rfl rfl (Nat.le_of_ble_eq_true rfl) d_As_append_60 ?_
    clear hP hD hS; intro H locs hP hD hS
    replace hP : va_P D k_cl ([(h, .inr (0, [.ref qk, .ref qf, .ref qs, .ref qn, .ref qr, .int (zI (↑(n + 1))), .int (zI ↑r)])), (qk, .inl (cI, 30, .inl (kA (va_up K n a)))), (qf, .inl (cI, 30, .inl (kA (va_up fi n b)))), (qs, .inl (cI, 30, .inl (kA (va_up se n d)))), (qn, .inl (cI, 30, .inl (kA (va_up nu n f))))]) H := hP
    replace hD : va_D A ([(h, .inr (0, [.ref qk, .ref qf, .ref qs, .ref qn, .ref qr, .int (zI (↑(n + 1))), .int (zI ↑r)])), (qk, .inl (cI, 30, .inl (kA (va_up K n a)))), (qf, .inl (cI, 30, .inl (kA (va_up fi n b)))), (qs, .inl (cI, 30, .inl (kA (va_up se n d)))), (qn, .inl (cI, 30, .inl (kA (va_up nu n f))))]) := hD
    refine lv_aload_n hx hb d_As_append_63 rfl (lv_at hl 0 rfl) ?_
    refine va_get (D := D) (ci := 0) (v := .int (zI (↑(n + 1)))) (C := R_As) (T := T_As) (N := 7) hx hb hkw kin_As hown hK hP 0 rfl rfl 5 (by decide) (hkw _ kw_fieldLink_As_31) (fun _ h9 => h9) rfl d_As_append_64 ?_
    refine lv_iconst (v := zI 1) hx hb d_As_append_67 (by decide) ?_
    refine k_isub (v := ↑n) hx hb d_As_append_68 (by omega) ?_
    rw [← hQf]
    exact k_iret hx hb hr hlocks hP hS rfl d_As_append_69
  · exfalso; omega

abbrev rm_As_append_full : Room := { frames := 0, cells := 0, slots := 0, locals := 0 }
set_option maxHeartbeats 4000000 in
set_option maxRecDepth 100000 in
theorem c_As_append_full (l : Launch) (D : va_G) (cI cR cG : ClassId) (h qk qf qs qn qr n r : Nat) (a b d f : Int) (hn : n = 30) : k_M l y_As_append (.code y_As_append b_As_append 5 (some .int) :: kW) rm_As_append_full D k_cl (k_ty cI cR cG) [.ref h, .int (zI a), .int (zI b), .int (zI d), .int (zI f)] ([(h, .inr (0, [.ref qk, .ref qf, .ref qs, .ref qn, .ref qr, .int (zI ↑n), .int (zI ↑r)]))]) (k_Qi D k_cl (zI (-4)) [(h, .inr (0, [.ref qk, .ref qf, .ref qs, .ref qn, .ref qr, .int (zI ↑n), .int (zI ↑r)]))]) := by
  refine k_start (cc := b_As_append) (maxL := 5) (ret := (some .int)) (by decide) rfl (Nat.le_of_ble_eq_true rfl) ?_
  intro p ev s m ar below meth c A ls Qf hQf hx hb hr hml hts hown hlocks hin hK hG hA hP hD hS hl
  replace hown : s.vm.findClass R_As = some m.cls := hown
  replace hl : lv_has ls 5 [(0, .ref h), (1, .int (zI a)), (2, .int (zI b)), (3, .int (zI d)), (4, .int (zI f))] := hl
  have hkw : ∀ w ∈ kW, w.before ar s = true := fun w h => hts w (List.mem_cons_of_mem _ h)
  replace hP : va_P D k_cl ([(h, .inr (0, [.ref qk, .ref qf, .ref qs, .ref qn, .ref qr, .int (zI ↑n), .int (zI ↑r)]))]) s.heap := hP
  replace hD : va_D A ([(h, .inr (0, [.ref qk, .ref qf, .ref qs, .ref qn, .ref qr, .int (zI ↑n), .int (zI ↑r)]))]) := hD
  refine lv_aload_n hx hb d_As_append_0 rfl (lv_at hl 0 rfl) ?_
  refine va_get (D := D) (ci := 0) (v := .int (zI ↑n)) (C := R_As) (T := T_As) (N := 7) hx hb hkw kin_As hown hK hP 0 rfl rfl 5 (by decide) (hkw _ kw_fieldLink_As_31) (fun _ h9 => h9) rfl d_As_append_1 ?_
  refine lv_bipush (v := zI 30) hx hb d_As_append_4 (by decide) ?_
  refine k_icmp_lt (tgt := 12) hx hb d_As_append_6 (by decide) ⟨by omega, by omega⟩ ⟨by omega, by omega⟩ (fun c_6 => ?_) (fun c_6 => ?_)
  · exfalso; omega
  · refine lv_bipush (v := zI (-4)) hx hb d_As_append_9 (by decide) ?_
    rw [← hQf]
    exact k_iret hx hb hr hlocks hP hS rfl d_As_append_11

abbrev rm_As_dropAll : Room := { frames := 0, cells := 0, slots := 0, locals := 0 }
set_option maxHeartbeats 4000000 in
set_option maxRecDepth 100000 in
theorem c_As_dropAll (l : Launch) (D : va_G) (cI cR cG : ClassId) (h qk qf qs qn qr n r : Nat)  : k_M l y_As_dropAll (.code y_As_dropAll b_As_dropAll 2 (some .int) :: kW) rm_As_dropAll D k_cl (k_ty cI cR cG) [.ref h] ([(h, .inr (0, [.ref qk, .ref qf, .ref qs, .ref qn, .ref qr, .int (zI ↑n), .int (zI ↑r)]))]) (k_Qi D k_cl (zI ↑n) [(h, .inr (0, [.ref qk, .ref qf, .ref qs, .ref qn, .ref qr, .int (zI 0), .int (zI 0)]))]) := by
  refine k_start (cc := b_As_dropAll) (maxL := 2) (ret := (some .int)) (by decide) rfl (Nat.le_of_ble_eq_true rfl) ?_
  intro p ev s m ar below meth c A ls Qf hQf hx hb hr hml hts hown hlocks hin hK hG hA hP hD hS hl
  replace hown : s.vm.findClass R_As = some m.cls := hown
  replace hl : lv_has ls 2 [(0, .ref h)] := hl
  have hkw : ∀ w ∈ kW, w.before ar s = true := fun w h => hts w (List.mem_cons_of_mem _ h)
  replace hP : va_P D k_cl ([(h, .inr (0, [.ref qk, .ref qf, .ref qs, .ref qn, .ref qr, .int (zI ↑n), .int (zI ↑r)]))]) s.heap := hP
  replace hD : va_D A ([(h, .inr (0, [.ref qk, .ref qf, .ref qs, .ref qn, .ref qr, .int (zI ↑n), .int (zI ↑r)]))]) := hD
  refine lv_aload_n hx hb d_As_dropAll_0 rfl (lv_at hl 0 rfl) ?_
  refine va_get (D := D) (ci := 0) (v := .int (zI ↑n)) (C := R_As) (T := T_As) (N := 7) hx hb hkw kin_As hown hK hP 0 rfl rfl 5 (by decide) (hkw _ kw_fieldLink_As_31) (fun _ h9 => h9) rfl d_As_dropAll_1 ?_
  refine lv_istore_n (lv' := [(1, .int (zI ↑n)), (0, .ref h)]) hx hb d_As_dropAll_4 rfl hl (by decide) rfl ?_
  clear hl; intro ls hl
  refine lv_aload_n hx hb d_As_dropAll_5 rfl (lv_at hl 1 rfl) ?_
  refine lv_iconst (v := zI 0) hx hb d_As_dropAll_6 (by decide) ?_
  refine va_put (D := D) (ci := 0) (v := .int (zI 0)) (ty := .int) (C := R_As) (T := T_As) (N := 7) hx hb hkw kin_As ty_As ty_As_ok nm_As hown hK hP hD hS 0 rfl rfl 5 (by decide) (hkw _ kw_fieldLink_As_31) (fun _ h9 => h9) rfl (by decide +kernel) rfl rfl (Nat.le_of_ble_eq_true rfl) d_As_dropAll_7 ?_
  clear hP hD hS; intro H locs hP hD hS
  replace hP : va_P D k_cl ([(h, .inr (0, [.ref qk, .ref qf, .ref qs, .ref qn, .ref qr, .int (zI 0), .int (zI ↑r)]))]) H := hP
  replace hD : va_D A ([(h, .inr (0, [.ref qk, .ref qf, .ref qs, .ref qn, .ref qr, .int (zI 0), .int (zI ↑r)]))]) := hD
  refine lv_aload_n hx hb d_As_dropAll_10 rfl (lv_at hl 1 rfl) ?_
  refine lv_iconst (v := zI 0) hx hb d_As_dropAll_11 (by decide) ?_
  refine va_put (D := D) (ci := 0) (v := .int (zI 0)) (ty := .int) (C := R_As) (T := T_As) (N := 7) hx hb hkw kin_As ty_As ty_As_ok nm_As hown hK hP hD hS 0 rfl rfl 6 (by decide) (hkw _ kw_fieldLink_As_35) (fun _ h9 => h9) rfl (by decide +kernel) rfl rfl (Nat.le_of_ble_eq_true rfl) d_As_dropAll_12 ?_
  clear hP hD hS; intro H locs hP hD hS
  replace hP : va_P D k_cl ([(h, .inr (0, [.ref qk, .ref qf, .ref qs, .ref qn, .ref qr, .int (zI 0), .int (zI 0)]))]) H := hP
  replace hD : va_D A ([(h, .inr (0, [.ref qk, .ref qf, .ref qs, .ref qn, .ref qr, .int (zI 0), .int (zI 0)]))]) := hD
  refine lv_iload_n hx hb d_As_dropAll_15 rfl (lv_at hl 0 rfl) ?_
  rw [← hQf]
  exact k_iret hx hb hr hlocks hP hS rfl d_As_dropAll_16

abbrev rm_As_outdate : Room := { frames := 0, cells := 0, slots := 0, locals := 0 }
set_option maxHeartbeats 4000000 in
set_option maxRecDepth 100000 in
theorem c_As_outdate (l : Launch) (D : va_G) (cI cR cG : ClassId) (h qk qf qs qn qr n r : Nat)  : k_M l y_As_outdate (.code y_As_outdate b_As_outdate 1 none :: kW) rm_As_outdate D k_cl (k_ty cI cR cG) [.ref h] ([(h, .inr (0, [.ref qk, .ref qf, .ref qs, .ref qn, .ref qr, .int (zI ↑n), .int (zI ↑r)]))]) (k_Qv D k_cl [(h, .inr (0, [.ref qk, .ref qf, .ref qs, .ref qn, .ref qr, .int (zI ↑n), .int (zI 0)]))]) := by
  refine k_start (cc := b_As_outdate) (maxL := 1) (ret := none) (by decide) rfl (Nat.le_of_ble_eq_true rfl) ?_
  intro p ev s m ar below meth c A ls Qf hQf hx hb hr hml hts hown hlocks hin hK hG hA hP hD hS hl
  replace hown : s.vm.findClass R_As = some m.cls := hown
  replace hl : lv_has ls 1 [(0, .ref h)] := hl
  have hkw : ∀ w ∈ kW, w.before ar s = true := fun w h => hts w (List.mem_cons_of_mem _ h)
  replace hP : va_P D k_cl ([(h, .inr (0, [.ref qk, .ref qf, .ref qs, .ref qn, .ref qr, .int (zI ↑n), .int (zI ↑r)]))]) s.heap := hP
  replace hD : va_D A ([(h, .inr (0, [.ref qk, .ref qf, .ref qs, .ref qn, .ref qr, .int (zI ↑n), .int (zI ↑r)]))]) := hD
  refine lv_aload_n hx hb d_As_outdate_0 rfl (lv_at hl 0 rfl) ?_
  refine lv_iconst (v := zI 0) hx hb d_As_outdate_1 (by decide) ?_
  refine va_put (D := D) (ci := 0) (v := .int (zI 0)) (ty := .int) (C := R_As) (T := T_As) (N := 7) hx hb hkw kin_As ty_As ty_As_ok nm_As hown hK hP hD hS 0 rfl rfl 6 (by decide) (hkw _ kw_fieldLink_As_35) (fun _ h9 => h9) rfl (by decide +kernel) rfl rfl (Nat.le_of_ble_eq_true rfl) d_As_outdate_2 ?_
  clear hP hD hS; intro H locs hP hD hS
  replace hP : va_P D k_cl ([(h, .inr (0, [.ref qk, .ref qf, .ref qs, .ref qn, .ref qr, .int (zI ↑n), .int (zI 0)]))]) H := hP
  replace hD : va_D A ([(h, .inr (0, [.ref qk, .ref qf, .ref qs, .ref qn, .ref qr, .int (zI ↑n), .int (zI 0)]))]) := hD
  rw [← hQf]
  exact k_vret hx hb hr hlocks hP hS d_As_outdate_5

abbrev rm_As_workOut0 : Room := { frames := 3, cells := 0, slots := 0, locals := 65 }
set_option maxHeartbeats 4000000 in
set_option maxRecDepth 100000 in
theorem c_As_workOut0 (l : Launch) (D : va_G) (cI cR cG : ClassId) (h qk qf qs qn qr n r q tx : Nat) (ro en K fi se nu t G : Nat → Nat) (hq : q < 30) (hfi : fi q = q) (hse : se q = q) (hkd : K q = 0) (hnu : nu q ≤ 30) (hn0 : K q = 0 → nu q < 10) (ht : ∀ j, t j ≤ 1023) (hG0 : ∀ j, G j ≤ 30) : k_M l y_As_workOut (.code y_As_workOut b_As_workOut 7 none :: kW) rm_As_workOut0 D k_cl (k_ty cI cR cG) [.ref h, .int (zI ↑q), .ref tx] ([(h, .inr (0, [.ref qk, .ref qf, .ref qs, .ref qn, .ref qr, .int (zI ↑n), .int (zI ↑r)])), (qk, .inl (cI, 30, .inl (kA K))), (qf, .inl (cI, 30, .inl (kA fi))), (qs, .inl (cI, 30, .inl (kA se))), (qn, .inl (cI, 30, .inl (kA nu))), (qr, .inl (cR, 30, .inr (.inr (.inr (.inr (fun i => some (ro i))))))), (tx, .inl (cI, 30, .inl (kA t))), (ro q, .inr (2, [.ref (en q)])), (en q, .inl (cI, 30, .inl (kA G)))]) (k_Qv D k_cl [(h, .inr (0, [.ref qk, .ref qf, .ref qs, .ref qn, .ref qr, .int (zI ↑n), .int (zI ↑r)])), (qk, .inl (cI, 30, .inl (kA K))), (qf, .inl (cI, 30, .inl (kA fi))), (qs, .inl (cI, 30, .inl (kA se))), (qn, .inl (cI, 30, .inl (kA nu))), (qr, .inl (cR, 30, .inr (.inr (.inr (.inr (fun i => some (ro i))))))), (tx, .inl (cI, 30, .inl (kA t))), (ro q, .inr (2, [.ref (en q)])), (en q, .inl (cI, 30, .inl (kA (rowVal t (K q) (nu q) G G))))]) := by
  refine k_start (cc := b_As_workOut) (maxL := 7) (ret := none) (by decide) rfl (Nat.le_of_ble_eq_true rfl) ?_
  intro p ev s m ar below meth c A ls Qf hQf hx hb hr hml hts hown hlocks hin hK hG hA hP hD hS hl
  replace hown : s.vm.findClass R_As = some m.cls := hown
  replace hl : lv_has ls 7 [(0, .ref h), (1, .int (zI ↑q)), (2, .ref tx)] := hl
  have hkw : ∀ w ∈ kW, w.before ar s = true := fun w h => hts w (List.mem_cons_of_mem _ h)
  replace hP : va_P D k_cl ([(h, .inr (0, [.ref qk, .ref qf, .ref qs, .ref qn, .ref qr, .int (zI ↑n), .int (zI ↑r)])), (qk, .inl (cI, 30, .inl (kA K))), (qf, .inl (cI, 30, .inl (kA fi))), (qs, .inl (cI, 30, .inl (kA se))), (qn, .inl (cI, 30, .inl (kA nu))), (qr, .inl (cR, 30, .inr (.inr (.inr (.inr (fun i => some (ro i))))))), (tx, .inl (cI, 30, .inl (kA t))), (ro q, .inr (2, [.ref (en q)])), (en q, .inl (cI, 30, .inl (kA G)))]) s.heap := hP
  replace hD : va_D A ([(h, .inr (0, [.ref qk, .ref qf, .ref qs, .ref qn, .ref qr, .int (zI ↑n), .int (zI ↑r)])), (qk, .inl (cI, 30, .inl (kA K))), (qf, .inl (cI, 30, .inl (kA fi))), (qs, .inl (cI, 30, .inl (kA se))), (qn, .inl (cI, 30, .inl (kA nu))), (qr, .inl (cR, 30, .inr (.inr (.inr (.inr (fun i => some (ro i))))))), (tx, .inl (cI, 30, .inl (kA t))), (ro q, .inr (2, [.ref (en q)])), (en q, .inl (cI, 30, .inl (kA G)))]) := hD
  refine lv_aload_n hx hb d_As_workOut_0 rfl (lv_at hl 0 rfl) ?_
  refine va_get (D := D) (ci := 0) (v := .ref qr) (C := R_As) (T := T_As) (N := 7) hx hb hkw kin_As hown hK hP 0 rfl rfl 4 (by decide) (hkw _ kw_fieldLink_As_26) (fun _ h9 => h9) rfl d_As_workOut_1 ?_
  refine lv_iload_n hx hb d_As_workOut_4 rfl (lv_at hl 1 rfl) ?_
  refine k_aald hx hb hK hP 5 1 rfl rfl (i := q) (by omega) (by omega) (by omega) d_As_workOut_5 ?_
  refine lv_astore_n (lv' := [(3, .ref (ro q)), (0, .ref h), (1, .int (zI ↑q)), (2, .ref tx)]) hx hb d_As_workOut_6 rfl hl (by decide) rfl ?_
  clear hl; intro ls hl
  refine lv_aload_n hx hb d_As_workOut_7 rfl (lv_at hl 1 rfl) ?_
  refine va_get (D := D) (ci := 0) (v := .ref qr) (C := R_As) (T := T_As) (N := 7) hx hb hkw kin_As hown hK hP 0 rfl rfl 4 (by decide) (hkw _ kw_fieldLink_As_26) (fun _ h9 => h9) rfl d_As_workOut_8 ?_
  refine lv_aload_n hx hb d_As_workOut_11 rfl (lv_at hl 1 rfl) ?_
  refine va_get (D := D) (ci := 0) (v := .ref qf) (C := R_As) (T := T_As) (N := 7) hx hb hkw kin_As hown hK hP 0 rfl rfl 1 (by decide) (hkw _ kw_fieldLink_As_15) (fun _ h9 => h9) rfl d_As_workOut_12 ?_
  refine lv_iload_n hx hb d_As_workOut_15 rfl (lv_at hl 2 rfl) ?_
  refine k_ald hx hb hK hP 2 0 rfl rfl (i := q) (by omega) (by omega) (by omega) d_As_workOut_16 ?_
  refine k_aald hx hb hK hP 5 1 rfl rfl (i := q) (by omega) (by omega) (by omega) d_As_workOut_17 ?_
  refine lv_astore (lv' := [(4, .ref (ro q)), (3, .ref (ro q)), (0, .ref h), (1, .int (zI ↑q)), (2, .ref tx)]) hx hb d_As_workOut_18 hl (by decide) rfl ?_
  clear hl; intro ls hl
  refine lv_aload_n hx hb d_As_workOut_20 rfl (lv_at hl 2 rfl) ?_
  refine va_get (D := D) (ci := 0) (v := .ref qr) (C := R_As) (T := T_As) (N := 7) hx hb hkw kin_As hown hK hP 0 rfl rfl 4 (by decide) (hkw _ kw_fieldLink_As_26) (fun _ h9 => h9) rfl d_As_workOut_21 ?_
  refine lv_aload_n hx hb d_As_workOut_24 rfl (lv_at hl 2 rfl) ?_
  refine va_get (D := D) (ci := 0) (v := .ref qs) (C := R_As) (T := T_As) (N := 7) hx hb hkw kin_As hown hK hP 0 rfl rfl 2 (by decide) (hkw _ kw_fieldLink_As_18) (fun _ h9 => h9) rfl d_As_workOut_25 ?_
  refine lv_iload_n hx hb d_As_workOut_28 rfl (lv_at hl 3 rfl) ?_
  refine k_ald hx hb hK hP 3 0 rfl rfl (i := q) (by omega) (by omega) (by omega) d_As_workOut_29 ?_
  refine k_aald hx hb hK hP 5 1 rfl rfl (i := q) (by omega) (by omega) (by omega) d_As_workOut_30 ?_
  refine lv_astore (lv' := [(5, .ref (ro q)), (4, .ref (ro q)), (3, .ref (ro q)), (0, .ref h), (1, .int (zI ↑q)), (2, .ref tx)]) hx hb d_As_workOut_31 hl (by decide) rfl ?_
  clear hl; intro ls hl
  refine lv_aload_n hx hb d_As_workOut_33 rfl (lv_at hl 3 rfl) ?_
  refine va_get (D := D) (ci := 0) (v := .ref qn) (C := R_As) (T := T_As) (N := 7) hx hb hkw kin_As hown hK hP 0 rfl rfl 3 (by decide) (hkw _ kw_fieldLink_As_21) (fun _ h9 => h9) rfl d_As_workOut_34 ?_
  refine lv_iload_n hx hb d_As_workOut_37 rfl (lv_at hl 4 rfl) ?_
  refine k_ald hx hb hK hP 4 0 rfl rfl (i := q) (by omega) (by omega) (by omega) d_As_workOut_38 ?_
  refine lv_istore (lv' := [(6, .int (zI (↑(nu q)))), (5, .ref (ro q)), (4, .ref (ro q)), (3, .ref (ro q)), (0, .ref h), (1, .int (zI ↑q)), (2, .ref tx)]) hx hb d_As_workOut_39 hl (by decide) rfl ?_
  clear hl; intro ls hl
  refine lv_aload_n hx hb d_As_workOut_41 rfl (lv_at hl 3 rfl) ?_
  refine k_beV (va_runV (As := []) (rest := []) ⟨hx, hb, hml, hown, hkw⟩ (c_Row_empty l D cI cR cG (ro q) (en q) G _) (cwV 0 hkw (k_gV kw_methodLink_As_42 kw_instanceMethod_Ro_empty kw_selects_Ro_empty kw_initialized_Ro kw_code_Ro_empty) rfl rfl rfl (by decide +kernel) ⟨(Nat.le_of_ble_eq_true rfl), (Nat.le_of_ble_eq_true rfl)⟩) (k_preV (q0 := 0) hK hG hP hD [7, 8] rfl rfl rfl rfl) rfl rfl hl.1 rfl (lv_room (Nat.le_of_ble_eq_true rfl)) d_As_workOut_42 ⟨Nat.zero_le _, Nat.zero_le _⟩) hP hD hS hA [7, 8] rfl (Eq.trans (b := [ro q, en q]) rfl rfl) ?_
  clear hP hD hS; intro H locs hP hD hS
  replace hP : va_P D k_cl ([(h, .inr (0, [.ref qk, .ref qf, .ref qs, .ref qn, .ref qr, .int (zI ↑n), .int (zI ↑r)])), (qk, .inl (cI, 30, .inl (kA K))), (qf, .inl (cI, 30, .inl (kA fi))), (qs, .inl (cI, 30, .inl (kA se))), (qn, .inl (cI, 30, .inl (kA nu))), (qr, .inl (cR, 30, .inr (.inr (.inr (.inr (fun i => some (ro i))))))), (tx, .inl (cI, 30, .inl (kA t))), (ro q, .inr (2, [.ref (en q)])), (en q, .inl (cI, 30, .inl (kA e30)))]) H := hP
  replace hD : va_D A ([(h, .inr (0, [.ref qk, .ref qf, .ref qs, .ref qn, .ref qr, .int (zI ↑n), .int (zI ↑r)])), (qk, .inl (cI, 30, .inl (kA K))), (qf, .inl (cI, 30, .inl (kA fi))), (qs, .inl (cI, 30, .inl (kA se))), (qn, .inl (cI, 30, .inl (kA nu))), (qr, .inl (cR, 30, .inr (.inr (.inr (.inr (fun i => some (ro i))))))), (tx, .inl (cI, 30, .inl (kA t))), (ro q, .inr (2, [.ref (en q)])), (en q, .inl (cI, 30, .inl (kA e30)))]) := hD
  refine lv_aload_n hx hb d_As_workOut_45 rfl (lv_at hl 4 rfl) ?_
  refine va_get (D := D) (ci := 0) (v := .ref qk) (C := R_As) (T := T_As) (N := 7) hx hb hkw kin_As hown hK hP 0 rfl rfl 0 (by decide) (hkw _ kw_fieldLink_As_9) (fun _ h9 => h9) rfl d_As_workOut_46 ?_
  refine lv_iload_n hx hb d_As_workOut_49 rfl (lv_at hl 5 rfl) ?_
  refine k_ald hx hb hK hP 1 0 rfl rfl (i := q) (by omega) (by omega) (by omega) d_As_workOut_50 ?_
  have hc := hkd
  have hn9 := hn0 hc
  refine k_table (v := 0) (tgt := 108) hx hb d_As_workOut_51 (by omega) (by decide) (by decide) rfl (by decide) ?_
  refine lv_aload_n hx hb d_As_workOut_108 rfl (lv_at hl 3 rfl) ?_
  refine lv_iconst (v := zI 1) hx hb d_As_workOut_109 (by decide) ?_
  refine lv_iload hx hb d_As_workOut_110 (lv_at hl 0 rfl) ?_
  refine k_ishl1 (n := (nu q)) hx hb (by omega) d_As_workOut_112 ?_
  refine lv_aload_n hx hb d_As_workOut_113 rfl (lv_at hl 6 rfl) ?_
  refine k_beV (va_runV (As := [.int (zI (↑(2 ^ (nu q)))), .ref tx]) (rest := []) ⟨hx, hb, hml, hown, hkw⟩ (c_Row_addPlacesWith l D cI cR cG (ro q) (en q) tx (2 ^ (nu q)) e30 t (k_p10 hn9) e30_le ht _) (cwV 2 hkw (k_gV kw_methodLink_As_45 kw_instanceMethod_Ro_addPlacesWith kw_selects_Ro_addPlacesWith kw_initialized_Ro kw_code_Ro_addPlacesWith) rfl rfl rfl (by decide +kernel) ⟨(Nat.le_of_ble_eq_true rfl), (Nat.le_of_ble_eq_true rfl)⟩) (k_preV (q0 := 0) hK hG hP hD [7, 8, 6] rfl rfl rfl rfl) rfl rfl hl.1 rfl (lv_room (Nat.le_of_ble_eq_true rfl)) d_As_workOut_114 ⟨Nat.zero_le _, Nat.zero_le _⟩) hP hD hS hA [7, 8, 6] rfl (Eq.trans (b := [ro q, en q, tx]) rfl rfl) ?_
  clear hP hD hS; intro H locs hP hD hS
  replace hP : va_P D k_cl ([(h, .inr (0, [.ref qk, .ref qf, .ref qs, .ref qn, .ref qr, .int (zI ↑n), .int (zI ↑r)])), (qk, .inl (cI, 30, .inl (kA K))), (qf, .inl (cI, 30, .inl (kA fi))), (qs, .inl (cI, 30, .inl (kA se))), (qn, .inl (cI, 30, .inl (kA nu))), (qr, .inl (cR, 30, .inr (.inr (.inr (.inr (fun i => some (ro i))))))), (tx, .inl (cI, 30, .inl (kA t))), (ro q, .inr (2, [.ref (en q)])), (en q, .inl (cI, 30, .inl (kA (rWith t (2 ^ (nu q)) 30 0 e30))))]) H := hP
  replace hD : va_D A ([(h, .inr (0, [.ref qk, .ref qf, .ref qs, .ref qn, .ref qr, .int (zI ↑n), .int (zI ↑r)])), (qk, .inl (cI, 30, .inl (kA K))), (qf, .inl (cI, 30, .inl (kA fi))), (qs, .inl (cI, 30, .inl (kA se))), (qn, .inl (cI, 30, .inl (kA nu))), (qr, .inl (cR, 30, .inr (.inr (.inr (.inr (fun i => some (ro i))))))), (tx, .inl (cI, 30, .inl (kA t))), (ro q, .inr (2, [.ref (en q)])), (en q, .inl (cI, 30, .inl (kA (rWith t (2 ^ (nu q)) 30 0 e30))))]) := hD
  refine lv_goto (tgt := 255) hx hb d_As_workOut_117 (by decide) ?_
  refine lv_aload_n hx hb d_As_workOut_255 rfl (lv_at hl 3 rfl) ?_
  refine k_beV (va_runV (As := []) (rest := []) ⟨hx, hb, hml, hown, hkw⟩ (c_Row_keepLeast l D cI cR cG (ro q) (en q) (rWith t (2 ^ (nu q)) 30 0 e30) (r_bd_rWith (by omega) e30_le) _) (cwV 0 hkw (k_gV kw_methodLink_As_77 kw_instanceMethod_Ro_keepLeast kw_selects_Ro_keepLeast kw_initialized_Ro kw_code_Ro_keepLeast) rfl rfl rfl (by decide +kernel) ⟨(Nat.le_of_ble_eq_true rfl), (Nat.le_of_ble_eq_true rfl)⟩) (k_preV (q0 := 0) hK hG hP hD [7, 8] rfl rfl rfl rfl) rfl rfl hl.1 rfl (lv_room (Nat.le_of_ble_eq_true rfl)) d_As_workOut_256 ⟨Nat.zero_le _, Nat.zero_le _⟩) hP hD hS hA [7, 8] rfl (Eq.trans (b := [ro q, en q]) rfl rfl) ?_
  clear hP hD hS; intro H locs hP hD hS
  replace hP : va_P D k_cl ([(h, .inr (0, [.ref qk, .ref qf, .ref qs, .ref qn, .ref qr, .int (zI ↑n), .int (zI ↑r)])), (qk, .inl (cI, 30, .inl (kA K))), (qf, .inl (cI, 30, .inl (kA fi))), (qs, .inl (cI, 30, .inl (kA se))), (qn, .inl (cI, 30, .inl (kA nu))), (qr, .inl (cR, 30, .inr (.inr (.inr (.inr (fun i => some (ro i))))))), (tx, .inl (cI, 30, .inl (kA t))), (ro q, .inr (2, [.ref (en q)])), (en q, .inl (cI, 30, .inl (kA (rKL 30 (rWith t (2 ^ (nu q)) 30 0 e30) 30))))]) H := hP
  replace hD : va_D A ([(h, .inr (0, [.ref qk, .ref qf, .ref qs, .ref qn, .ref qr, .int (zI ↑n), .int (zI ↑r)])), (qk, .inl (cI, 30, .inl (kA K))), (qf, .inl (cI, 30, .inl (kA fi))), (qs, .inl (cI, 30, .inl (kA se))), (qn, .inl (cI, 30, .inl (kA nu))), (qr, .inl (cR, 30, .inr (.inr (.inr (.inr (fun i => some (ro i))))))), (tx, .inl (cI, 30, .inl (kA t))), (ro q, .inr (2, [.ref (en q)])), (en q, .inl (cI, 30, .inl (kA (rKL 30 (rWith t (2 ^ (nu q)) 30 0 e30) 30))))]) := hD
  rw [← hQf]
  have hP : va_P D k_cl [(h, .inr (0, [.ref qk, .ref qf, .ref qs, .ref qn, .ref qr, .int (zI ↑n), .int (zI ↑r)])), (qk, .inl (cI, 30, .inl (kA K))), (qf, .inl (cI, 30, .inl (kA fi))), (qs, .inl (cI, 30, .inl (kA se))), (qn, .inl (cI, 30, .inl (kA nu))), (qr, .inl (cR, 30, .inr (.inr (.inr (.inr (fun i => some (ro i))))))), (tx, .inl (cI, 30, .inl (kA t))), (ro q, .inr (2, [.ref (en q)])), (en q, .inl (cI, 30, .inl (kA (rowVal t (K q) (nu q) G G))))] H := by
    rw [show rowVal t (K q) (nu q) G G = rKL 30 (rWith t (2 ^ (nu q)) 30 0 e30) 30 from by rw [hc]; rfl]
    exact hP
  exact k_vret hx hb hr hlocks hP hS d_As_workOut_259

abbrev rm_As_workOut1 : Room := { frames := 4, cells := 0, slots := 0, locals := 93 }
set_option maxHeartbeats 4000000 in
set_option maxRecDepth 100000 in
theorem c_As_workOut1 (l : Launch) (D : va_G) (cI cR cG : ClassId) (h qk qf qs qn qr n r q tx x : Nat) (ro en K fi se nu t G a : Nat → Nat) (hq : q < 30) (hfi : fi q = x) (hse : se q = x) (hx3 : x < 30) (hkd : K q ≤ 10) (hnu : nu q ≤ 30) (hn0 : K q = 0 → nu q < 10) (ht : ∀ j, t j ≤ 1023) (hG0 : ∀ j, G j ≤ 30) (ha30 : ∀ j, a j ≤ 30) : k_M l y_As_workOut (.code y_As_workOut b_As_workOut 7 none :: kW) rm_As_workOut1 D k_cl (k_ty cI cR cG) [.ref h, .int (zI ↑q), .ref tx] ([(h, .inr (0, [.ref qk, .ref qf, .ref qs, .ref qn, .ref qr, .int (zI ↑n), .int (zI ↑r)])), (qk, .inl (cI, 30, .inl (kA K))), (qf, .inl (cI, 30, .inl (kA fi))), (qs, .inl (cI, 30, .inl (kA se))), (qn, .inl (cI, 30, .inl (kA nu))), (qr, .inl (cR, 30, .inr (.inr (.inr (.inr (fun i => some (ro i))))))), (tx, .inl (cI, 30, .inl (kA t))), (ro q, .inr (2, [.ref (en q)])), (en q, .inl (cI, 30, .inl (kA G))), (ro x, .inr (2, [.ref (en x)])), (en x, .inl (cI, 30, .inl (kA a)))]) (k_Qv D k_cl [(h, .inr (0, [.ref qk, .ref qf, .ref qs, .ref qn, .ref qr, .int (zI ↑n), .int (zI ↑r)])), (qk, .inl (cI, 30, .inl (kA K))), (qf, .inl (cI, 30, .inl (kA fi))), (qs, .inl (cI, 30, .inl (kA se))), (qn, .inl (cI, 30, .inl (kA nu))), (qr, .inl (cR, 30, .inr (.inr (.inr (.inr (fun i => some (ro i))))))), (tx, .inl (cI, 30, .inl (kA t))), (ro q, .inr (2, [.ref (en q)])), (en q, .inl (cI, 30, .inl (kA (rowVal t (K q) (nu q) a a)))), (ro x, .inr (2, [.ref (en x)])), (en x, .inl (cI, 30, .inl (kA a)))]) := by
  refine k_start (cc := b_As_workOut) (maxL := 7) (ret := none) (by decide) rfl (Nat.le_of_ble_eq_true rfl) ?_
  intro p ev s m ar below meth c A ls Qf hQf hx hb hr hml hts hown hlocks hin hK hG hA hP hD hS hl
  replace hown : s.vm.findClass R_As = some m.cls := hown
  replace hl : lv_has ls 7 [(0, .ref h), (1, .int (zI ↑q)), (2, .ref tx)] := hl
  have hkw : ∀ w ∈ kW, w.before ar s = true := fun w h => hts w (List.mem_cons_of_mem _ h)
  replace hP : va_P D k_cl ([(h, .inr (0, [.ref qk, .ref qf, .ref qs, .ref qn, .ref qr, .int (zI ↑n), .int (zI ↑r)])), (qk, .inl (cI, 30, .inl (kA K))), (qf, .inl (cI, 30, .inl (kA fi))), (qs, .inl (cI, 30, .inl (kA se))), (qn, .inl (cI, 30, .inl (kA nu))), (qr, .inl (cR, 30, .inr (.inr (.inr (.inr (fun i => some (ro i))))))), (tx, .inl (cI, 30, .inl (kA t))), (ro q, .inr (2, [.ref (en q)])), (en q, .inl (cI, 30, .inl (kA G))), (ro x, .inr (2, [.ref (en x)])), (en x, .inl (cI, 30, .inl (kA a)))]) s.heap := hP
  replace hD : va_D A ([(h, .inr (0, [.ref qk, .ref qf, .ref qs, .ref qn, .ref qr, .int (zI ↑n), .int (zI ↑r)])), (qk, .inl (cI, 30, .inl (kA K))), (qf, .inl (cI, 30, .inl (kA fi))), (qs, .inl (cI, 30, .inl (kA se))), (qn, .inl (cI, 30, .inl (kA nu))), (qr, .inl (cR, 30, .inr (.inr (.inr (.inr (fun i => some (ro i))))))), (tx, .inl (cI, 30, .inl (kA t))), (ro q, .inr (2, [.ref (en q)])), (en q, .inl (cI, 30, .inl (kA G))), (ro x, .inr (2, [.ref (en x)])), (en x, .inl (cI, 30, .inl (kA a)))]) := hD
  refine lv_aload_n hx hb d_As_workOut_0 rfl (lv_at hl 0 rfl) ?_
  refine va_get (D := D) (ci := 0) (v := .ref qr) (C := R_As) (T := T_As) (N := 7) hx hb hkw kin_As hown hK hP 0 rfl rfl 4 (by decide) (hkw _ kw_fieldLink_As_26) (fun _ h9 => h9) rfl d_As_workOut_1 ?_
  refine lv_iload_n hx hb d_As_workOut_4 rfl (lv_at hl 1 rfl) ?_
  refine k_aald hx hb hK hP 5 1 rfl rfl (i := q) (by omega) (by omega) (by omega) d_As_workOut_5 ?_
  refine lv_astore_n (lv' := [(3, .ref (ro q)), (0, .ref h), (1, .int (zI ↑q)), (2, .ref tx)]) hx hb d_As_workOut_6 rfl hl (by decide) rfl ?_
  clear hl; intro ls hl
  refine lv_aload_n hx hb d_As_workOut_7 rfl (lv_at hl 1 rfl) ?_
  refine va_get (D := D) (ci := 0) (v := .ref qr) (C := R_As) (T := T_As) (N := 7) hx hb hkw kin_As hown hK hP 0 rfl rfl 4 (by decide) (hkw _ kw_fieldLink_As_26) (fun _ h9 => h9) rfl d_As_workOut_8 ?_
  refine lv_aload_n hx hb d_As_workOut_11 rfl (lv_at hl 1 rfl) ?_
  refine va_get (D := D) (ci := 0) (v := .ref qf) (C := R_As) (T := T_As) (N := 7) hx hb hkw kin_As hown hK hP 0 rfl rfl 1 (by decide) (hkw _ kw_fieldLink_As_15) (fun _ h9 => h9) rfl d_As_workOut_12 ?_
  refine lv_iload_n hx hb d_As_workOut_15 rfl (lv_at hl 2 rfl) ?_
  refine k_ald hx hb hK hP 2 0 rfl rfl (i := q) (by omega) (by omega) (by omega) d_As_workOut_16 ?_
  refine k_aald hx hb hK hP 5 1 rfl rfl (i := x) (by omega) (by omega) (by omega) d_As_workOut_17 ?_
  refine lv_astore (lv' := [(4, .ref (ro x)), (3, .ref (ro q)), (0, .ref h), (1, .int (zI ↑q)), (2, .ref tx)]) hx hb d_As_workOut_18 hl (by decide) rfl ?_
  clear hl; intro ls hl
  refine lv_aload_n hx hb d_As_workOut_20 rfl (lv_at hl 2 rfl) ?_
  refine va_get (D := D) (ci := 0) (v := .ref qr) (C := R_As) (T := T_As) (N := 7) hx hb hkw kin_As hown hK hP 0 rfl rfl 4 (by decide) (hkw _ kw_fieldLink_As_26) (fun _ h9 => h9) rfl d_As_workOut_21 ?_
  refine lv_aload_n hx hb d_As_workOut_24 rfl (lv_at hl 2 rfl) ?_
  refine va_get (D := D) (ci := 0) (v := .ref qs) (C := R_As) (T := T_As) (N := 7) hx hb hkw kin_As hown hK hP 0 rfl rfl 2 (by decide) (hkw _ kw_fieldLink_As_18) (fun _ h9 => h9) rfl d_As_workOut_25 ?_
  refine lv_iload_n hx hb d_As_workOut_28 rfl (lv_at hl 3 rfl) ?_
  refine k_ald hx hb hK hP 3 0 rfl rfl (i := q) (by omega) (by omega) (by omega) d_As_workOut_29 ?_
  refine k_aald hx hb hK hP 5 1 rfl rfl (i := x) (by omega) (by omega) (by omega) d_As_workOut_30 ?_
  refine lv_astore (lv' := [(5, .ref (ro x)), (4, .ref (ro x)), (3, .ref (ro q)), (0, .ref h), (1, .int (zI ↑q)), (2, .ref tx)]) hx hb d_As_workOut_31 hl (by decide) rfl ?_
  clear hl; intro ls hl
  refine lv_aload_n hx hb d_As_workOut_33 rfl (lv_at hl 3 rfl) ?_
  refine va_get (D := D) (ci := 0) (v := .ref qn) (C := R_As) (T := T_As) (N := 7) hx hb hkw kin_As hown hK hP 0 rfl rfl 3 (by decide) (hkw _ kw_fieldLink_As_21) (fun _ h9 => h9) rfl d_As_workOut_34 ?_
  refine lv_iload_n hx hb d_As_workOut_37 rfl (lv_at hl 4 rfl) ?_
  refine k_ald hx hb hK hP 4 0 rfl rfl (i := q) (by omega) (by omega) (by omega) d_As_workOut_38 ?_
  refine lv_istore (lv' := [(6, .int (zI (↑(nu q)))), (5, .ref (ro x)), (4, .ref (ro x)), (3, .ref (ro q)), (0, .ref h), (1, .int (zI ↑q)), (2, .ref tx)]) hx hb d_As_workOut_39 hl (by decide) rfl ?_
  clear hl; intro ls hl
  refine lv_aload_n hx hb d_As_workOut_41 rfl (lv_at hl 3 rfl) ?_
  refine k_beV (va_runV (As := []) (rest := []) ⟨hx, hb, hml, hown, hkw⟩ (c_Row_empty l D cI cR cG (ro q) (en q) G _) (cwV 0 hkw (k_gV kw_methodLink_As_42 kw_instanceMethod_Ro_empty kw_selects_Ro_empty kw_initialized_Ro kw_code_Ro_empty) rfl rfl rfl (by decide +kernel) ⟨(Nat.le_of_ble_eq_true rfl), (Nat.le_of_ble_eq_true rfl)⟩) (k_preV (q0 := 0) hK hG hP hD [7, 8] rfl rfl rfl rfl) rfl rfl hl.1 rfl (lv_room (Nat.le_of_ble_eq_true rfl)) d_As_workOut_42 ⟨Nat.zero_le _, Nat.zero_le _⟩) hP hD hS hA [7, 8] rfl (Eq.trans (b := [ro q, en q]) rfl rfl) ?_
  clear hP hD hS; intro H locs hP hD hS
  replace hP : va_P D k_cl ([(h, .inr (0, [.ref qk, .ref qf, .ref qs, .ref qn, .ref qr, .int (zI ↑n), .int (zI ↑r)])), (qk, .inl (cI, 30, .inl (kA K))), (qf, .inl (cI, 30, .inl (kA fi))), (qs, .inl (cI, 30, .inl (kA se))), (qn, .inl (cI, 30, .inl (kA nu))), (qr, .inl (cR, 30, .inr (.inr (.inr (.inr (fun i => some (ro i))))))), (tx, .inl (cI, 30, .inl (kA t))), (ro q, .inr (2, [.ref (en q)])), (en q, .inl (cI, 30, .inl (kA e30))), (ro x, .inr (2, [.ref (en x)])), (en x, .inl (cI, 30, .inl (kA a)))]) H := hP
  replace hD : va_D A ([(h, .inr (0, [.ref qk, .ref qf, .ref qs, .ref qn, .ref qr, .int (zI ↑n), .int (zI ↑r)])), (qk, .inl (cI, 30, .inl (kA K))), (qf, .inl (cI, 30, .inl (kA fi))), (qs, .inl (cI, 30, .inl (kA se))), (qn, .inl (cI, 30, .inl (kA nu))), (qr, .inl (cR, 30, .inr (.inr (.inr (.inr (fun i => some (ro i))))))), (tx, .inl (cI, 30, .inl (kA t))), (ro q, .inr (2, [.ref (en q)])), (en q, .inl (cI, 30, .inl (kA e30))), (ro x, .inr (2, [.ref (en x)])), (en x, .inl (cI, 30, .inl (kA a)))]) := hD
  refine lv_aload_n hx hb d_As_workOut_45 rfl (lv_at hl 4 rfl) ?_
  refine va_get (D := D) (ci := 0) (v := .ref qk) (C := R_As) (T := T_As) (N := 7) hx hb hkw kin_As hown hK hP 0 rfl rfl 0 (by decide) (hkw _ kw_fieldLink_As_9) (fun _ h9 => h9) rfl d_As_workOut_46 ?_
  refine lv_iload_n hx hb d_As_workOut_49 rfl (lv_at hl 5 rfl) ?_
  refine k_ald hx hb hK hP 1 0 rfl rfl (i := q) (by omega) (by omega) (by omega) d_As_workOut_50 ?_
  obtain hc | hc | hc | hc | hc | hc | hc | hc | hc | hc | hc : K q = 0 ∨ K q = 1 ∨ K q = 2 ∨ K q = 3 ∨ K q = 4 ∨ K q = 5 ∨ K q = 6 ∨ K q = 7 ∨ K q = 8 ∨ K q = 9 ∨ K q = 10 := by omega
  · have hn9 := hn0 hc
    refine k_table (v := 0) (tgt := 108) hx hb d_As_workOut_51 (by omega) (by decide) (by decide) rfl (by decide) ?_
    refine lv_aload_n hx hb d_As_workOut_108 rfl (lv_at hl 3 rfl) ?_
    refine lv_iconst (v := zI 1) hx hb d_As_workOut_109 (by decide) ?_
    refine lv_iload hx hb d_As_workOut_110 (lv_at hl 0 rfl) ?_
    refine k_ishl1 (n := (nu q)) hx hb (by omega) d_As_workOut_112 ?_
    refine lv_aload_n hx hb d_As_workOut_113 rfl (lv_at hl 6 rfl) ?_
    refine k_beV (va_runV (As := [.int (zI (↑(2 ^ (nu q)))), .ref tx]) (rest := []) ⟨hx, hb, hml, hown, hkw⟩ (c_Row_addPlacesWith l D cI cR cG (ro q) (en q) tx (2 ^ (nu q)) e30 t (k_p10 hn9) e30_le ht _) (cwV 2 hkw (k_gV kw_methodLink_As_45 kw_instanceMethod_Ro_addPlacesWith kw_selects_Ro_addPlacesWith kw_initialized_Ro kw_code_Ro_addPlacesWith) rfl rfl rfl (by decide +kernel) ⟨(Nat.le_of_ble_eq_true rfl), (Nat.le_of_ble_eq_true rfl)⟩) (k_preV (q0 := 0) hK hG hP hD [7, 8, 6] rfl rfl rfl rfl) rfl rfl hl.1 rfl (lv_room (Nat.le_of_ble_eq_true rfl)) d_As_workOut_114 ⟨Nat.zero_le _, Nat.zero_le _⟩) hP hD hS hA [7, 8, 6] rfl (Eq.trans (b := [ro q, en q, tx]) rfl rfl) ?_
    clear hP hD hS; intro H locs hP hD hS
    replace hP : va_P D k_cl ([(h, .inr (0, [.ref qk, .ref qf, .ref qs, .ref qn, .ref qr, .int (zI ↑n), .int (zI ↑r)])), (qk, .inl (cI, 30, .inl (kA K))), (qf, .inl (cI, 30, .inl (kA fi))), (qs, .inl (cI, 30, .inl (kA se))), (qn, .inl (cI, 30, .inl (kA nu))), (qr, .inl (cR, 30, .inr (.inr (.inr (.inr (fun i => some (ro i))))))), (tx, .inl (cI, 30, .inl (kA t))), (ro q, .inr (2, [.ref (en q)])), (en q, .inl (cI, 30, .inl (kA (rWith t (2 ^ (nu q)) 30 0 e30)))), (ro x, .inr (2, [.ref (en x)])), (en x, .inl (cI, 30, .inl (kA a)))]) H := hP
    replace hD : va_D A ([(h, .inr (0, [.ref qk, .ref qf, .ref qs, .ref qn, .ref qr, .int (zI ↑n), .int (zI ↑r)])), (qk, .inl (cI, 30, .inl (kA K))), (qf, .inl (cI, 30, .inl (kA fi))), (qs, .inl (cI, 30, .inl (kA se))), (qn, .inl (cI, 30, .inl (kA nu))), (qr, .inl (cR, 30, .inr (.inr (.inr (.inr (fun i => some (ro i))))))), (tx, .inl (cI, 30, .inl (kA t))), (ro q, .inr (2, [.ref (en q)])), (en q, .inl (cI, 30, .inl (kA (rWith t (2 ^ (nu q)) 30 0 e30)))), (ro x, .inr (2, [.ref (en x)])), (en x, .inl (cI, 30, .inl (kA a)))]) := hD
    refine lv_goto (tgt := 255) hx hb d_As_workOut_117 (by decide) ?_
    refine lv_aload_n hx hb d_As_workOut_255 rfl (lv_at hl 3 rfl) ?_
    refine k_beV (va_runV (As := []) (rest := []) ⟨hx, hb, hml, hown, hkw⟩ (c_Row_keepLeast l D cI cR cG (ro q) (en q) (rWith t (2 ^ (nu q)) 30 0 e30) (r_bd_rWith (by omega) e30_le) _) (cwV 0 hkw (k_gV kw_methodLink_As_77 kw_instanceMethod_Ro_keepLeast kw_selects_Ro_keepLeast kw_initialized_Ro kw_code_Ro_keepLeast) rfl rfl rfl (by decide +kernel) ⟨(Nat.le_of_ble_eq_true rfl), (Nat.le_of_ble_eq_true rfl)⟩) (k_preV (q0 := 0) hK hG hP hD [7, 8] rfl rfl rfl rfl) rfl rfl hl.1 rfl (lv_room (Nat.le_of_ble_eq_true rfl)) d_As_workOut_256 ⟨Nat.zero_le _, Nat.zero_le _⟩) hP hD hS hA [7, 8] rfl (Eq.trans (b := [ro q, en q]) rfl rfl) ?_
    clear hP hD hS; intro H locs hP hD hS
    replace hP : va_P D k_cl ([(h, .inr (0, [.ref qk, .ref qf, .ref qs, .ref qn, .ref qr, .int (zI ↑n), .int (zI ↑r)])), (qk, .inl (cI, 30, .inl (kA K))), (qf, .inl (cI, 30, .inl (kA fi))), (qs, .inl (cI, 30, .inl (kA se))), (qn, .inl (cI, 30, .inl (kA nu))), (qr, .inl (cR, 30, .inr (.inr (.inr (.inr (fun i => some (ro i))))))), (tx, .inl (cI, 30, .inl (kA t))), (ro q, .inr (2, [.ref (en q)])), (en q, .inl (cI, 30, .inl (kA (rKL 30 (rWith t (2 ^ (nu q)) 30 0 e30) 30)))), (ro x, .inr (2, [.ref (en x)])), (en x, .inl (cI, 30, .inl (kA a)))]) H := hP
    replace hD : va_D A ([(h, .inr (0, [.ref qk, .ref qf, .ref qs, .ref qn, .ref qr, .int (zI ↑n), .int (zI ↑r)])), (qk, .inl (cI, 30, .inl (kA K))), (qf, .inl (cI, 30, .inl (kA fi))), (qs, .inl (cI, 30, .inl (kA se))), (qn, .inl (cI, 30, .inl (kA nu))), (qr, .inl (cR, 30, .inr (.inr (.inr (.inr (fun i => some (ro i))))))), (tx, .inl (cI, 30, .inl (kA t))), (ro q, .inr (2, [.ref (en q)])), (en q, .inl (cI, 30, .inl (kA (rKL 30 (rWith t (2 ^ (nu q)) 30 0 e30) 30)))), (ro x, .inr (2, [.ref (en x)])), (en x, .inl (cI, 30, .inl (kA a)))]) := hD
    rw [← hQf]
    have hP : va_P D k_cl [(h, .inr (0, [.ref qk, .ref qf, .ref qs, .ref qn, .ref qr, .int (zI ↑n), .int (zI ↑r)])), (qk, .inl (cI, 30, .inl (kA K))), (qf, .inl (cI, 30, .inl (kA fi))), (qs, .inl (cI, 30, .inl (kA se))), (qn, .inl (cI, 30, .inl (kA nu))), (qr, .inl (cR, 30, .inr (.inr (.inr (.inr (fun i => some (ro i))))))), (tx, .inl (cI, 30, .inl (kA t))), (ro q, .inr (2, [.ref (en q)])), (en q, .inl (cI, 30, .inl (kA (rowVal t (K q) (nu q) a a)))), (ro x, .inr (2, [.ref (en x)])), (en x, .inl (cI, 30, .inl (kA a)))] H := by
      rw [show rowVal t (K q) (nu q) a a = rKL 30 (rWith t (2 ^ (nu q)) 30 0 e30) 30 from by rw [hc]; rfl]
      exact hP
    exact k_vret hx hb hr hlocks hP hS d_As_workOut_259
  · refine k_table (v := 1) (tgt := 120) hx hb d_As_workOut_51 (by omega) (by decide) (by decide) rfl (by decide) ?_
    refine lv_aload_n hx hb d_As_workOut_120 rfl (lv_at hl 3 rfl) ?_
    refine lv_aload hx hb d_As_workOut_121 (lv_at hl 2 rfl) ?_
    refine k_beV (va_runV (As := [.ref (ro x)]) (rest := []) ⟨hx, hb, hml, hown, hkw⟩ (c_Row_addAll l D cI cR cG (ro q) (en q) (ro x) (en x) e30 a e30_le ha30 _) (cwV 1 hkw (k_gV kw_methodLink_As_48 kw_instanceMethod_Ro_addAll kw_selects_Ro_addAll kw_initialized_Ro kw_code_Ro_addAll) rfl rfl rfl (by decide +kernel) ⟨(Nat.le_of_ble_eq_true rfl), (Nat.le_of_ble_eq_true rfl)⟩) (k_preV (q0 := 0) hK hG hP hD [7, 8, 9, 10] rfl rfl rfl rfl) rfl rfl hl.1 rfl (lv_room (Nat.le_of_ble_eq_true rfl)) d_As_workOut_123 ⟨Nat.zero_le _, Nat.zero_le _⟩) hP hD hS hA [7, 8, 9, 10] rfl (Eq.trans (b := [ro q, en q, ro x, en x]) rfl rfl) ?_
    clear hP hD hS; intro H locs hP hD hS
    replace hP : va_P D k_cl ([(h, .inr (0, [.ref qk, .ref qf, .ref qs, .ref qn, .ref qr, .int (zI ↑n), .int (zI ↑r)])), (qk, .inl (cI, 30, .inl (kA K))), (qf, .inl (cI, 30, .inl (kA fi))), (qs, .inl (cI, 30, .inl (kA se))), (qn, .inl (cI, 30, .inl (kA nu))), (qr, .inl (cR, 30, .inr (.inr (.inr (.inr (fun i => some (ro i))))))), (tx, .inl (cI, 30, .inl (kA t))), (ro q, .inr (2, [.ref (en q)])), (en q, .inl (cI, 30, .inl (kA (rGrown a 0 30 0 e30)))), (ro x, .inr (2, [.ref (en x)])), (en x, .inl (cI, 30, .inl (kA a)))]) H := hP
    replace hD : va_D A ([(h, .inr (0, [.ref qk, .ref qf, .ref qs, .ref qn, .ref qr, .int (zI ↑n), .int (zI ↑r)])), (qk, .inl (cI, 30, .inl (kA K))), (qf, .inl (cI, 30, .inl (kA fi))), (qs, .inl (cI, 30, .inl (kA se))), (qn, .inl (cI, 30, .inl (kA nu))), (qr, .inl (cR, 30, .inr (.inr (.inr (.inr (fun i => some (ro i))))))), (tx, .inl (cI, 30, .inl (kA t))), (ro q, .inr (2, [.ref (en q)])), (en q, .inl (cI, 30, .inl (kA (rGrown a 0 30 0 e30)))), (ro x, .inr (2, [.ref (en x)])), (en x, .inl (cI, 30, .inl (kA a)))]) := hD
    refine lv_aload_n hx hb d_As_workOut_126 rfl (lv_at hl 3 rfl) ?_
    refine lv_aload hx hb d_As_workOut_127 (lv_at hl 1 rfl) ?_
    refine k_beV (va_runV (As := [.ref (ro x)]) (rest := []) ⟨hx, hb, hml, hown, hkw⟩ (c_Row_addAll l D cI cR cG (ro q) (en q) (ro x) (en x) (rGrown a 0 30 0 e30) a (r_bd_rGrown e30_le ha30) ha30 _) (cwV 1 hkw (k_gV kw_methodLink_As_48 kw_instanceMethod_Ro_addAll kw_selects_Ro_addAll kw_initialized_Ro kw_code_Ro_addAll) rfl rfl rfl (by decide +kernel) ⟨(Nat.le_of_ble_eq_true rfl), (Nat.le_of_ble_eq_true rfl)⟩) (k_preV (q0 := 0) hK hG hP hD [7, 8, 9, 10] rfl rfl rfl rfl) rfl rfl hl.1 rfl (lv_room (Nat.le_of_ble_eq_true rfl)) d_As_workOut_129 ⟨Nat.zero_le _, Nat.zero_le _⟩) hP hD hS hA [7, 8, 9, 10] rfl (Eq.trans (b := [ro q, en q, ro x, en x]) rfl rfl) ?_
    clear hP hD hS; intro H locs hP hD hS
    replace hP : va_P D k_cl ([(h, .inr (0, [.ref qk, .ref qf, .ref qs, .ref qn, .ref qr, .int (zI ↑n), .int (zI ↑r)])), (qk, .inl (cI, 30, .inl (kA K))), (qf, .inl (cI, 30, .inl (kA fi))), (qs, .inl (cI, 30, .inl (kA se))), (qn, .inl (cI, 30, .inl (kA nu))), (qr, .inl (cR, 30, .inr (.inr (.inr (.inr (fun i => some (ro i))))))), (tx, .inl (cI, 30, .inl (kA t))), (ro q, .inr (2, [.ref (en q)])), (en q, .inl (cI, 30, .inl (kA (rGrown a 0 30 0 (rGrown a 0 30 0 e30))))), (ro x, .inr (2, [.ref (en x)])), (en x, .inl (cI, 30, .inl (kA a)))]) H := hP
    replace hD : va_D A ([(h, .inr (0, [.ref qk, .ref qf, .ref qs, .ref qn, .ref qr, .int (zI ↑n), .int (zI ↑r)])), (qk, .inl (cI, 30, .inl (kA K))), (qf, .inl (cI, 30, .inl (kA fi))), (qs, .inl (cI, 30, .inl (kA se))), (qn, .inl (cI, 30, .inl (kA nu))), (qr, .inl (cR, 30, .inr (.inr (.inr (.inr (fun i => some (ro i))))))), (tx, .inl (cI, 30, .inl (kA t))), (ro q, .inr (2, [.ref (en q)])), (en q, .inl (cI, 30, .inl (kA (rGrown a 0 30 0 (rGrown a 0 30 0 e30))))), (ro x, .inr (2, [.ref (en x)])), (en x, .inl (cI, 30, .inl (kA a)))]) := hD
    refine lv_goto (tgt := 255) hx hb d_As_workOut_132 (by decide) ?_
    refine lv_aload_n hx hb d_As_workOut_255 rfl (lv_at hl 3 rfl) ?_
    refine k_beV (va_runV (As := []) (rest := []) ⟨hx, hb, hml, hown, hkw⟩ (c_Row_keepLeast l D cI cR cG (ro q) (en q) (rGrown a 0 30 0 (rGrown a 0 30 0 e30)) (r_bd_rGrown (r_bd_rGrown e30_le ha30) ha30) _) (cwV 0 hkw (k_gV kw_methodLink_As_77 kw_instanceMethod_Ro_keepLeast kw_selects_Ro_keepLeast kw_initialized_Ro kw_code_Ro_keepLeast) rfl rfl rfl (by decide +kernel) ⟨(Nat.le_of_ble_eq_true rfl), (Nat.le_of_ble_eq_true rfl)⟩) (k_preV (q0 := 0) hK hG hP hD [7, 8] rfl rfl rfl rfl) rfl rfl hl.1 rfl (lv_room (Nat.le_of_ble_eq_true rfl)) d_As_workOut_256 ⟨Nat.zero_le _, Nat.zero_le _⟩) hP hD hS hA [7, 8] rfl (Eq.trans (b := [ro q, en q]) rfl rfl) ?_
    clear hP hD hS; intro H locs hP hD hS
    replace hP : va_P D k_cl ([(h, .inr (0, [.ref qk, .ref qf, .ref qs, .ref qn, .ref qr, .int (zI ↑n), .int (zI ↑r)])), (qk, .inl (cI, 30, .inl (kA K))), (qf, .inl (cI, 30, .inl (kA fi))), (qs, .inl (cI, 30, .inl (kA se))), (qn, .inl (cI, 30, .inl (kA nu))), (qr, .inl (cR, 30, .inr (.inr (.inr (.inr (fun i => some (ro i))))))), (tx, .inl (cI, 30, .inl (kA t))), (ro q, .inr (2, [.ref (en q)])), (en q, .inl (cI, 30, .inl (kA (rKL 30 (rGrown a 0 30 0 (rGrown a 0 30 0 e30)) 30)))), (ro x, .inr (2, [.ref (en x)])), (en x, .inl (cI, 30, .inl (kA a)))]) H := hP
    replace hD : va_D A ([(h, .inr (0, [.ref qk, .ref qf, .ref qs, .ref qn, .ref qr, .int (zI ↑n), .int (zI ↑r)])), (qk, .inl (cI, 30, .inl (kA K))), (qf, .inl (cI, 30, .inl (kA fi))), (qs, .inl (cI, 30, .inl (kA se))), (qn, .inl (cI, 30, .inl (kA nu))), (qr, .inl (cR, 30, .inr (.inr (.inr (.inr (fun i => some (ro i))))))), (tx, .inl (cI, 30, .inl (kA t))), (ro q, .inr (2, [.ref (en q)])), (en q, .inl (cI, 30, .inl (kA (rKL 30 (rGrown a 0 30 0 (rGrown a 0 30 0 e30)) 30)))), (ro x, .inr (2, [.ref (en x)])), (en x, .inl (cI, 30, .inl (kA a)))]) := hD
    rw [← hQf]
    have hP : va_P D k_cl [(h, .inr (0, [.ref qk, .ref qf, .ref qs, .ref qn, .ref qr, .int (zI ↑n), .int (zI ↑r)])), (qk, .inl (cI, 30, .inl (kA K))), (qf, .inl (cI, 30, .inl (kA fi))), (qs, .inl (cI, 30, .inl (kA se))), (qn, .inl (cI, 30, .inl (kA nu))), (qr, .inl (cR, 30, .inr (.inr (.inr (.inr (fun i => some (ro i))))))), (tx, .inl (cI, 30, .inl (kA t))), (ro q, .inr (2, [.ref (en q)])), (en q, .inl (cI, 30, .inl (kA (rowVal t (K q) (nu q) a a)))), (ro x, .inr (2, [.ref (en x)])), (en x, .inl (cI, 30, .inl (kA a)))] H := by
      rw [show rowVal t (K q) (nu q) a a = rKL 30 (rGrown a 0 30 0 (rGrown a 0 30 0 e30)) 30 from by rw [hc]; rfl]
      exact hP
    exact k_vret hx hb hr hlocks hP hS d_As_workOut_259
  · refine k_table (v := 2) (tgt := 135) hx hb d_As_workOut_51 (by omega) (by decide) (by decide) rfl (by decide) ?_
    refine lv_aload_n hx hb d_As_workOut_135 rfl (lv_at hl 3 rfl) ?_
    refine lv_aload hx hb d_As_workOut_136 (lv_at hl 2 rfl) ?_
    refine lv_aload hx hb d_As_workOut_138 (lv_at hl 1 rfl) ?_
    refine lv_iload hx hb d_As_workOut_140 (lv_at hl 0 rfl) ?_
    refine k_beV (va_runV (As := [.ref (ro x), .ref (ro x), .int (zI (↑(nu q)))]) (rest := []) ⟨hx, hb, hml, hown, hkw⟩ (c_Row_addBehind_same l D cI cR cG (ro q) (en q) (ro x) (en x) (nu q) e30 a (by omega) e30_le ha30 _) (cwV 3 hkw (k_gV kw_methodLink_As_52 kw_instanceMethod_Ro_addBehind kw_selects_Ro_addBehind kw_initialized_Ro kw_code_Ro_addBehind) rfl rfl rfl (by decide +kernel) ⟨(Nat.le_of_ble_eq_true rfl), (Nat.le_of_ble_eq_true rfl)⟩) (k_preV (q0 := 0) hK hG hP hD [7, 8, 9, 10] rfl rfl rfl rfl) rfl rfl hl.1 rfl (lv_room (Nat.le_of_ble_eq_true rfl)) d_As_workOut_142 ⟨Nat.zero_le _, Nat.zero_le _⟩) hP hD hS hA [7, 8, 9, 10] rfl (Eq.trans (b := [ro q, en q, ro x, en x]) rfl rfl) ?_
    clear hP hD hS; intro H locs hP hD hS
    replace hP : va_P D k_cl ([(h, .inr (0, [.ref qk, .ref qf, .ref qs, .ref qn, .ref qr, .int (zI ↑n), .int (zI ↑r)])), (qk, .inl (cI, 30, .inl (kA K))), (qf, .inl (cI, 30, .inl (kA fi))), (qs, .inl (cI, 30, .inl (kA se))), (qn, .inl (cI, 30, .inl (kA nu))), (qr, .inl (cR, 30, .inr (.inr (.inr (.inr (fun i => some (ro i))))))), (tx, .inl (cI, 30, .inl (kA t))), (ro q, .inr (2, [.ref (en q)])), (en q, .inl (cI, 30, .inl (kA (rBehind a a (nu q) 30 0 e30)))), (ro x, .inr (2, [.ref (en x)])), (en x, .inl (cI, 30, .inl (kA a)))]) H := hP
    replace hD : va_D A ([(h, .inr (0, [.ref qk, .ref qf, .ref qs, .ref qn, .ref qr, .int (zI ↑n), .int (zI ↑r)])), (qk, .inl (cI, 30, .inl (kA K))), (qf, .inl (cI, 30, .inl (kA fi))), (qs, .inl (cI, 30, .inl (kA se))), (qn, .inl (cI, 30, .inl (kA nu))), (qr, .inl (cR, 30, .inr (.inr (.inr (.inr (fun i => some (ro i))))))), (tx, .inl (cI, 30, .inl (kA t))), (ro q, .inr (2, [.ref (en q)])), (en q, .inl (cI, 30, .inl (kA (rBehind a a (nu q) 30 0 e30)))), (ro x, .inr (2, [.ref (en x)])), (en x, .inl (cI, 30, .inl (kA a)))]) := hD
    refine lv_goto (tgt := 255) hx hb d_As_workOut_145 (by decide) ?_
    refine lv_aload_n hx hb d_As_workOut_255 rfl (lv_at hl 3 rfl) ?_
    refine k_beV (va_runV (As := []) (rest := []) ⟨hx, hb, hml, hown, hkw⟩ (c_Row_keepLeast l D cI cR cG (ro q) (en q) (rBehind a a (nu q) 30 0 e30) (r_bd_rBehind e30_le ha30) _) (cwV 0 hkw (k_gV kw_methodLink_As_77 kw_instanceMethod_Ro_keepLeast kw_selects_Ro_keepLeast kw_initialized_Ro kw_code_Ro_keepLeast) rfl rfl rfl (by decide +kernel) ⟨(Nat.le_of_ble_eq_true rfl), (Nat.le_of_ble_eq_true rfl)⟩) (k_preV (q0 := 0) hK hG hP hD [7, 8] rfl rfl rfl rfl) rfl rfl hl.1 rfl (lv_room (Nat.le_of_ble_eq_true rfl)) d_As_workOut_256 ⟨Nat.zero_le _, Nat.zero_le _⟩) hP hD hS hA [7, 8] rfl (Eq.trans (b := [ro q, en q]) rfl rfl) ?_
    clear hP hD hS; intro H locs hP hD hS
    replace hP : va_P D k_cl ([(h, .inr (0, [.ref qk, .ref qf, .ref qs, .ref qn, .ref qr, .int (zI ↑n), .int (zI ↑r)])), (qk, .inl (cI, 30, .inl (kA K))), (qf, .inl (cI, 30, .inl (kA fi))), (qs, .inl (cI, 30, .inl (kA se))), (qn, .inl (cI, 30, .inl (kA nu))), (qr, .inl (cR, 30, .inr (.inr (.inr (.inr (fun i => some (ro i))))))), (tx, .inl (cI, 30, .inl (kA t))), (ro q, .inr (2, [.ref (en q)])), (en q, .inl (cI, 30, .inl (kA (rKL 30 (rBehind a a (nu q) 30 0 e30) 30)))), (ro x, .inr (2, [.ref (en x)])), (en x, .inl (cI, 30, .inl (kA a)))]) H := hP
    replace hD : va_D A ([(h, .inr (0, [.ref qk, .ref qf, .ref qs, .ref qn, .ref qr, .int (zI ↑n), .int (zI ↑r)])), (qk, .inl (cI, 30, .inl (kA K))), (qf, .inl (cI, 30, .inl (kA fi))), (qs, .inl (cI, 30, .inl (kA se))), (qn, .inl (cI, 30, .inl (kA nu))), (qr, .inl (cR, 30, .inr (.inr (.inr (.inr (fun i => some (ro i))))))), (tx, .inl (cI, 30, .inl (kA t))), (ro q, .inr (2, [.ref (en q)])), (en q, .inl (cI, 30, .inl (kA (rKL 30 (rBehind a a (nu q) 30 0 e30) 30)))), (ro x, .inr (2, [.ref (en x)])), (en x, .inl (cI, 30, .inl (kA a)))]) := hD
    rw [← hQf]
    have hP : va_P D k_cl [(h, .inr (0, [.ref qk, .ref qf, .ref qs, .ref qn, .ref qr, .int (zI ↑n), .int (zI ↑r)])), (qk, .inl (cI, 30, .inl (kA K))), (qf, .inl (cI, 30, .inl (kA fi))), (qs, .inl (cI, 30, .inl (kA se))), (qn, .inl (cI, 30, .inl (kA nu))), (qr, .inl (cR, 30, .inr (.inr (.inr (.inr (fun i => some (ro i))))))), (tx, .inl (cI, 30, .inl (kA t))), (ro q, .inr (2, [.ref (en q)])), (en q, .inl (cI, 30, .inl (kA (rowVal t (K q) (nu q) a a)))), (ro x, .inr (2, [.ref (en x)])), (en x, .inl (cI, 30, .inl (kA a)))] H := by
      rw [show rowVal t (K q) (nu q) a a = rKL 30 (rBehind a a (nu q) 30 0 e30) 30 from by rw [hc]; rfl]
      exact hP
    exact k_vret hx hb hr hlocks hP hS d_As_workOut_259
  · refine k_table (v := 3) (tgt := 148) hx hb d_As_workOut_51 (by omega) (by decide) (by decide) rfl (by decide) ?_
    refine lv_aload_n hx hb d_As_workOut_148 rfl (lv_at hl 3 rfl) ?_
    refine lv_aload hx hb d_As_workOut_149 (lv_at hl 2 rfl) ?_
    refine lv_aload hx hb d_As_workOut_151 (lv_at hl 1 rfl) ?_
    refine lv_iload hx hb d_As_workOut_153 (lv_at hl 0 rfl) ?_
    refine k_beV (va_runV (As := [.ref (ro x), .ref (ro x), .int (zI (↑(nu q)))]) (rest := []) ⟨hx, hb, hml, hown, hkw⟩ (c_Row_addBehind_same l D cI cR cG (ro q) (en q) (ro x) (en x) (nu q) e30 a (by omega) e30_le ha30 _) (cwV 3 hkw (k_gV kw_methodLink_As_52 kw_instanceMethod_Ro_addBehind kw_selects_Ro_addBehind kw_initialized_Ro kw_code_Ro_addBehind) rfl rfl rfl (by decide +kernel) ⟨(Nat.le_of_ble_eq_true rfl), (Nat.le_of_ble_eq_true rfl)⟩) (k_preV (q0 := 0) hK hG hP hD [7, 8, 9, 10] rfl rfl rfl rfl) rfl rfl hl.1 rfl (lv_room (Nat.le_of_ble_eq_true rfl)) d_As_workOut_155 ⟨Nat.zero_le _, Nat.zero_le _⟩) hP hD hS hA [7, 8, 9, 10] rfl (Eq.trans (b := [ro q, en q, ro x, en x]) rfl rfl) ?_
    clear hP hD hS; intro H locs hP hD hS
    replace hP : va_P D k_cl ([(h, .inr (0, [.ref qk, .ref qf, .ref qs, .ref qn, .ref qr, .int (zI ↑n), .int (zI ↑r)])), (qk, .inl (cI, 30, .inl (kA K))), (qf, .inl (cI, 30, .inl (kA fi))), (qs, .inl (cI, 30, .inl (kA se))), (qn, .inl (cI, 30, .inl (kA nu))), (qr, .inl (cR, 30, .inr (.inr (.inr (.inr (fun i => some (ro i))))))), (tx, .inl (cI, 30, .inl (kA t))), (ro q, .inr (2, [.ref (en q)])), (en q, .inl (cI, 30, .inl (kA (rBehind a a (nu q) 30 0 e30)))), (ro x, .inr (2, [.ref (en x)])), (en x, .inl (cI, 30, .inl (kA a)))]) H := hP
    replace hD : va_D A ([(h, .inr (0, [.ref qk, .ref qf, .ref qs, .ref qn, .ref qr, .int (zI ↑n), .int (zI ↑r)])), (qk, .inl (cI, 30, .inl (kA K))), (qf, .inl (cI, 30, .inl (kA fi))), (qs, .inl (cI, 30, .inl (kA se))), (qn, .inl (cI, 30, .inl (kA nu))), (qr, .inl (cR, 30, .inr (.inr (.inr (.inr (fun i => some (ro i))))))), (tx, .inl (cI, 30, .inl (kA t))), (ro q, .inr (2, [.ref (en q)])), (en q, .inl (cI, 30, .inl (kA (rBehind a a (nu q) 30 0 e30)))), (ro x, .inr (2, [.ref (en x)])), (en x, .inl (cI, 30, .inl (kA a)))]) := hD
    refine lv_aload_n hx hb d_As_workOut_158 rfl (lv_at hl 3 rfl) ?_
    refine lv_aload hx hb d_As_workOut_159 (lv_at hl 1 rfl) ?_
    refine lv_aload hx hb d_As_workOut_161 (lv_at hl 2 rfl) ?_
    refine lv_iload hx hb d_As_workOut_163 (lv_at hl 0 rfl) ?_
    refine k_beV (va_runV (As := [.ref (ro x), .ref (ro x), .int (zI (↑(nu q)))]) (rest := []) ⟨hx, hb, hml, hown, hkw⟩ (c_Row_addBehind_same l D cI cR cG (ro q) (en q) (ro x) (en x) (nu q) (rBehind a a (nu q) 30 0 e30) a (by omega) (r_bd_rBehind e30_le ha30) ha30 _) (cwV 3 hkw (k_gV kw_methodLink_As_52 kw_instanceMethod_Ro_addBehind kw_selects_Ro_addBehind kw_initialized_Ro kw_code_Ro_addBehind) rfl rfl rfl (by decide +kernel) ⟨(Nat.le_of_ble_eq_true rfl), (Nat.le_of_ble_eq_true rfl)⟩) (k_preV (q0 := 0) hK hG hP hD [7, 8, 9, 10] rfl rfl rfl rfl) rfl rfl hl.1 rfl (lv_room (Nat.le_of_ble_eq_true rfl)) d_As_workOut_165 ⟨Nat.zero_le _, Nat.zero_le _⟩) hP hD hS hA [7, 8, 9, 10] rfl (Eq.trans (b := [ro q, en q, ro x, en x]) rfl rfl) ?_
    clear hP hD hS; intro H locs hP hD hS
    replace hP : va_P D k_cl ([(h, .inr (0, [.ref qk, .ref qf, .ref qs, .ref qn, .ref qr, .int (zI ↑n), .int (zI ↑r)])), (qk, .inl (cI, 30, .inl (kA K))), (qf, .inl (cI, 30, .inl (kA fi))), (qs, .inl (cI, 30, .inl (kA se))), (qn, .inl (cI, 30, .inl (kA nu))), (qr, .inl (cR, 30, .inr (.inr (.inr (.inr (fun i => some (ro i))))))), (tx, .inl (cI, 30, .inl (kA t))), (ro q, .inr (2, [.ref (en q)])), (en q, .inl (cI, 30, .inl (kA (rBehind a a (nu q) 30 0 (rBehind a a (nu q) 30 0 e30))))), (ro x, .inr (2, [.ref (en x)])), (en x, .inl (cI, 30, .inl (kA a)))]) H := hP
    replace hD : va_D A ([(h, .inr (0, [.ref qk, .ref qf, .ref qs, .ref qn, .ref qr, .int (zI ↑n), .int (zI ↑r)])), (qk, .inl (cI, 30, .inl (kA K))), (qf, .inl (cI, 30, .inl (kA fi))), (qs, .inl (cI, 30, .inl (kA se))), (qn, .inl (cI, 30, .inl (kA nu))), (qr, .inl (cR, 30, .inr (.inr (.inr (.inr (fun i => some (ro i))))))), (tx, .inl (cI, 30, .inl (kA t))), (ro q, .inr (2, [.ref (en q)])), (en q, .inl (cI, 30, .inl (kA (rBehind a a (nu q) 30 0 (rBehind a a (nu q) 30 0 e30))))), (ro x, .inr (2, [.ref (en x)])), (en x, .inl (cI, 30, .inl (kA a)))]) := hD
    refine lv_goto (tgt := 255) hx hb d_As_workOut_168 (by decide) ?_
    refine lv_aload_n hx hb d_As_workOut_255 rfl (lv_at hl 3 rfl) ?_
    refine k_beV (va_runV (As := []) (rest := []) ⟨hx, hb, hml, hown, hkw⟩ (c_Row_keepLeast l D cI cR cG (ro q) (en q) (rBehind a a (nu q) 30 0 (rBehind a a (nu q) 30 0 e30)) (r_bd_rBehind (r_bd_rBehind e30_le ha30) ha30) _) (cwV 0 hkw (k_gV kw_methodLink_As_77 kw_instanceMethod_Ro_keepLeast kw_selects_Ro_keepLeast kw_initialized_Ro kw_code_Ro_keepLeast) rfl rfl rfl (by decide +kernel) ⟨(Nat.le_of_ble_eq_true rfl), (Nat.le_of_ble_eq_true rfl)⟩) (k_preV (q0 := 0) hK hG hP hD [7, 8] rfl rfl rfl rfl) rfl rfl hl.1 rfl (lv_room (Nat.le_of_ble_eq_true rfl)) d_As_workOut_256 ⟨Nat.zero_le _, Nat.zero_le _⟩) hP hD hS hA [7, 8] rfl (Eq.trans (b := [ro q, en q]) rfl rfl) ?_
    clear hP hD hS; intro H locs hP hD hS
    replace hP : va_P D k_cl ([(h, .inr (0, [.ref qk, .ref qf, .ref qs, .ref qn, .ref qr, .int (zI ↑n), .int (zI ↑r)])), (qk, .inl (cI, 30, .inl (kA K))), (qf, .inl (cI, 30, .inl (kA fi))), (qs, .inl (cI, 30, .inl (kA se))), (qn, .inl (cI, 30, .inl (kA nu))), (qr, .inl (cR, 30, .inr (.inr (.inr (.inr (fun i => some (ro i))))))), (tx, .inl (cI, 30, .inl (kA t))), (ro q, .inr (2, [.ref (en q)])), (en q, .inl (cI, 30, .inl (kA (rKL 30 (rBehind a a (nu q) 30 0 (rBehind a a (nu q) 30 0 e30)) 30)))), (ro x, .inr (2, [.ref (en x)])), (en x, .inl (cI, 30, .inl (kA a)))]) H := hP
    replace hD : va_D A ([(h, .inr (0, [.ref qk, .ref qf, .ref qs, .ref qn, .ref qr, .int (zI ↑n), .int (zI ↑r)])), (qk, .inl (cI, 30, .inl (kA K))), (qf, .inl (cI, 30, .inl (kA fi))), (qs, .inl (cI, 30, .inl (kA se))), (qn, .inl (cI, 30, .inl (kA nu))), (qr, .inl (cR, 30, .inr (.inr (.inr (.inr (fun i => some (ro i))))))), (tx, .inl (cI, 30, .inl (kA t))), (ro q, .inr (2, [.ref (en q)])), (en q, .inl (cI, 30, .inl (kA (rKL 30 (rBehind a a (nu q) 30 0 (rBehind a a (nu q) 30 0 e30)) 30)))), (ro x, .inr (2, [.ref (en x)])), (en x, .inl (cI, 30, .inl (kA a)))]) := hD
    rw [← hQf]
    have hP : va_P D k_cl [(h, .inr (0, [.ref qk, .ref qf, .ref qs, .ref qn, .ref qr, .int (zI ↑n), .int (zI ↑r)])), (qk, .inl (cI, 30, .inl (kA K))), (qf, .inl (cI, 30, .inl (kA fi))), (qs, .inl (cI, 30, .inl (kA se))), (qn, .inl (cI, 30, .inl (kA nu))), (qr, .inl (cR, 30, .inr (.inr (.inr (.inr (fun i => some (ro i))))))), (tx, .inl (cI, 30, .inl (kA t))), (ro q, .inr (2, [.ref (en q)])), (en q, .inl (cI, 30, .inl (kA (rowVal t (K q) (nu q) a a)))), (ro x, .inr (2, [.ref (en x)])), (en x, .inl (cI, 30, .inl (kA a)))] H := by
      rw [show rowVal t (K q) (nu q) a a = rKL 30 (rBehind a a (nu q) 30 0 (rBehind a a (nu q) 30 0 e30)) 30 from by rw [hc]; rfl]
      exact hP
    exact k_vret hx hb hr hlocks hP hS d_As_workOut_259
  · refine k_table (v := 4) (tgt := 171) hx hb d_As_workOut_51 (by omega) (by decide) (by decide) rfl (by decide) ?_
    refine lv_aload_n hx hb d_As_workOut_171 rfl (lv_at hl 3 rfl) ?_
    refine lv_aload hx hb d_As_workOut_172 (lv_at hl 2 rfl) ?_
    refine lv_aload hx hb d_As_workOut_174 (lv_at hl 1 rfl) ?_
    refine lv_iload hx hb d_As_workOut_176 (lv_at hl 0 rfl) ?_
    refine k_beV (va_runV (As := [.ref (ro x), .ref (ro x), .int (zI (↑(nu q)))]) (rest := []) ⟨hx, hb, hml, hown, hkw⟩ (c_Row_addBoth_same l D cI cR cG (ro q) (en q) (ro x) (en x) (nu q) e30 a (by omega) e30_le ha30 _) (cwV 3 hkw (k_gV kw_methodLink_As_56 kw_instanceMethod_Ro_addBoth kw_selects_Ro_addBoth kw_initialized_Ro kw_code_Ro_addBoth) rfl rfl rfl (by decide +kernel) ⟨(Nat.le_of_ble_eq_true rfl), (Nat.le_of_ble_eq_true rfl)⟩) (k_preV (q0 := 0) hK hG hP hD [7, 8, 9, 10] rfl rfl rfl rfl) rfl rfl hl.1 rfl (lv_room (Nat.le_of_ble_eq_true rfl)) d_As_workOut_178 ⟨Nat.zero_le _, Nat.zero_le _⟩) hP hD hS hA [7, 8, 9, 10] rfl (Eq.trans (b := [ro q, en q, ro x, en x]) rfl rfl) ?_
    clear hP hD hS; intro H locs hP hD hS
    replace hP : va_P D k_cl ([(h, .inr (0, [.ref qk, .ref qf, .ref qs, .ref qn, .ref qr, .int (zI ↑n), .int (zI ↑r)])), (qk, .inl (cI, 30, .inl (kA K))), (qf, .inl (cI, 30, .inl (kA fi))), (qs, .inl (cI, 30, .inl (kA se))), (qn, .inl (cI, 30, .inl (kA nu))), (qr, .inl (cR, 30, .inr (.inr (.inr (.inr (fun i => some (ro i))))))), (tx, .inl (cI, 30, .inl (kA t))), (ro q, .inr (2, [.ref (en q)])), (en q, .inl (cI, 30, .inl (kA (rBoth a a (nu q) 30 0 e30)))), (ro x, .inr (2, [.ref (en x)])), (en x, .inl (cI, 30, .inl (kA a)))]) H := hP
    replace hD : va_D A ([(h, .inr (0, [.ref qk, .ref qf, .ref qs, .ref qn, .ref qr, .int (zI ↑n), .int (zI ↑r)])), (qk, .inl (cI, 30, .inl (kA K))), (qf, .inl (cI, 30, .inl (kA fi))), (qs, .inl (cI, 30, .inl (kA se))), (qn, .inl (cI, 30, .inl (kA nu))), (qr, .inl (cR, 30, .inr (.inr (.inr (.inr (fun i => some (ro i))))))), (tx, .inl (cI, 30, .inl (kA t))), (ro q, .inr (2, [.ref (en q)])), (en q, .inl (cI, 30, .inl (kA (rBoth a a (nu q) 30 0 e30)))), (ro x, .inr (2, [.ref (en x)])), (en x, .inl (cI, 30, .inl (kA a)))]) := hD
    refine lv_goto (tgt := 255) hx hb d_As_workOut_181 (by decide) ?_
    refine lv_aload_n hx hb d_As_workOut_255 rfl (lv_at hl 3 rfl) ?_
    refine k_beV (va_runV (As := []) (rest := []) ⟨hx, hb, hml, hown, hkw⟩ (c_Row_keepLeast l D cI cR cG (ro q) (en q) (rBoth a a (nu q) 30 0 e30) (r_bd_rBoth e30_le ha30 ha30) _) (cwV 0 hkw (k_gV kw_methodLink_As_77 kw_instanceMethod_Ro_keepLeast kw_selects_Ro_keepLeast kw_initialized_Ro kw_code_Ro_keepLeast) rfl rfl rfl (by decide +kernel) ⟨(Nat.le_of_ble_eq_true rfl), (Nat.le_of_ble_eq_true rfl)⟩) (k_preV (q0 := 0) hK hG hP hD [7, 8] rfl rfl rfl rfl) rfl rfl hl.1 rfl (lv_room (Nat.le_of_ble_eq_true rfl)) d_As_workOut_256 ⟨Nat.zero_le _, Nat.zero_le _⟩) hP hD hS hA [7, 8] rfl (Eq.trans (b := [ro q, en q]) rfl rfl) ?_
    clear hP hD hS; intro H locs hP hD hS
    replace hP : va_P D k_cl ([(h, .inr (0, [.ref qk, .ref qf, .ref qs, .ref qn, .ref qr, .int (zI ↑n), .int (zI ↑r)])), (qk, .inl (cI, 30, .inl (kA K))), (qf, .inl (cI, 30, .inl (kA fi))), (qs, .inl (cI, 30, .inl (kA se))), (qn, .inl (cI, 30, .inl (kA nu))), (qr, .inl (cR, 30, .inr (.inr (.inr (.inr (fun i => some (ro i))))))), (tx, .inl (cI, 30, .inl (kA t))), (ro q, .inr (2, [.ref (en q)])), (en q, .inl (cI, 30, .inl (kA (rKL 30 (rBoth a a (nu q) 30 0 e30) 30)))), (ro x, .inr (2, [.ref (en x)])), (en x, .inl (cI, 30, .inl (kA a)))]) H := hP
    replace hD : va_D A ([(h, .inr (0, [.ref qk, .ref qf, .ref qs, .ref qn, .ref qr, .int (zI ↑n), .int (zI ↑r)])), (qk, .inl (cI, 30, .inl (kA K))), (qf, .inl (cI, 30, .inl (kA fi))), (qs, .inl (cI, 30, .inl (kA se))), (qn, .inl (cI, 30, .inl (kA nu))), (qr, .inl (cR, 30, .inr (.inr (.inr (.inr (fun i => some (ro i))))))), (tx, .inl (cI, 30, .inl (kA t))), (ro q, .inr (2, [.ref (en q)])), (en q, .inl (cI, 30, .inl (kA (rKL 30 (rBoth a a (nu q) 30 0 e30) 30)))), (ro x, .inr (2, [.ref (en x)])), (en x, .inl (cI, 30, .inl (kA a)))]) := hD
    rw [← hQf]
    have hP : va_P D k_cl [(h, .inr (0, [.ref qk, .ref qf, .ref qs, .ref qn, .ref qr, .int (zI ↑n), .int (zI ↑r)])), (qk, .inl (cI, 30, .inl (kA K))), (qf, .inl (cI, 30, .inl (kA fi))), (qs, .inl (cI, 30, .inl (kA se))), (qn, .inl (cI, 30, .inl (kA nu))), (qr, .inl (cR, 30, .inr (.inr (.inr (.inr (fun i => some (ro i))))))), (tx, .inl (cI, 30, .inl (kA t))), (ro q, .inr (2, [.ref (en q)])), (en q, .inl (cI, 30, .inl (kA (rowVal t (K q) (nu q) a a)))), (ro x, .inr (2, [.ref (en x)])), (en x, .inl (cI, 30, .inl (kA a)))] H := by
      rw [show rowVal t (K q) (nu q) a a = rKL 30 (rBoth a a (nu q) 30 0 e30) 30 from by rw [hc]; rfl]
      exact hP
    exact k_vret hx hb hr hlocks hP hS d_As_workOut_259
  · refine k_table (v := 5) (tgt := 184) hx hb d_As_workOut_51 (by omega) (by decide) (by decide) rfl (by decide) ?_
    refine lv_aload_n hx hb d_As_workOut_184 rfl (lv_at hl 3 rfl) ?_
    refine lv_aload hx hb d_As_workOut_185 (lv_at hl 2 rfl) ?_
    refine lv_aload hx hb d_As_workOut_187 (lv_at hl 1 rfl) ?_
    refine k_beV (va_runV (As := [.ref (ro x), .ref (ro x)]) (rest := []) ⟨hx, hb, hml, hown, hkw⟩ (c_Row_addHolding_same l D cI cR cG (ro q) (en q) (ro x) (en x) e30 a e30_le ha30 _) (cwV 2 hkw (k_gV kw_methodLink_As_59 kw_instanceMethod_Ro_addHolding kw_selects_Ro_addHolding kw_initialized_Ro kw_code_Ro_addHolding) rfl rfl rfl (by decide +kernel) ⟨(Nat.le_of_ble_eq_true rfl), (Nat.le_of_ble_eq_true rfl)⟩) (k_preV (q0 := 0) hK hG hP hD [7, 8, 9, 10] rfl rfl rfl rfl) rfl rfl hl.1 rfl (lv_room (Nat.le_of_ble_eq_true rfl)) d_As_workOut_189 ⟨Nat.zero_le _, Nat.zero_le _⟩) hP hD hS hA [7, 8, 9, 10] rfl (Eq.trans (b := [ro q, en q, ro x, en x]) rfl rfl) ?_
    clear hP hD hS; intro H locs hP hD hS
    replace hP : va_P D k_cl ([(h, .inr (0, [.ref qk, .ref qf, .ref qs, .ref qn, .ref qr, .int (zI ↑n), .int (zI ↑r)])), (qk, .inl (cI, 30, .inl (kA K))), (qf, .inl (cI, 30, .inl (kA fi))), (qs, .inl (cI, 30, .inl (kA se))), (qn, .inl (cI, 30, .inl (kA nu))), (qr, .inl (cR, 30, .inr (.inr (.inr (.inr (fun i => some (ro i))))))), (tx, .inl (cI, 30, .inl (kA t))), (ro q, .inr (2, [.ref (en q)])), (en q, .inl (cI, 30, .inl (kA (rHolding a a 30 0 e30)))), (ro x, .inr (2, [.ref (en x)])), (en x, .inl (cI, 30, .inl (kA a)))]) H := hP
    replace hD : va_D A ([(h, .inr (0, [.ref qk, .ref qf, .ref qs, .ref qn, .ref qr, .int (zI ↑n), .int (zI ↑r)])), (qk, .inl (cI, 30, .inl (kA K))), (qf, .inl (cI, 30, .inl (kA fi))), (qs, .inl (cI, 30, .inl (kA se))), (qn, .inl (cI, 30, .inl (kA nu))), (qr, .inl (cR, 30, .inr (.inr (.inr (.inr (fun i => some (ro i))))))), (tx, .inl (cI, 30, .inl (kA t))), (ro q, .inr (2, [.ref (en q)])), (en q, .inl (cI, 30, .inl (kA (rHolding a a 30 0 e30)))), (ro x, .inr (2, [.ref (en x)])), (en x, .inl (cI, 30, .inl (kA a)))]) := hD
    refine lv_goto (tgt := 255) hx hb d_As_workOut_192 (by decide) ?_
    refine lv_aload_n hx hb d_As_workOut_255 rfl (lv_at hl 3 rfl) ?_
    refine k_beV (va_runV (As := []) (rest := []) ⟨hx, hb, hml, hown, hkw⟩ (c_Row_keepLeast l D cI cR cG (ro q) (en q) (rHolding a a 30 0 e30) (r_bd_rHolding e30_le ha30) _) (cwV 0 hkw (k_gV kw_methodLink_As_77 kw_instanceMethod_Ro_keepLeast kw_selects_Ro_keepLeast kw_initialized_Ro kw_code_Ro_keepLeast) rfl rfl rfl (by decide +kernel) ⟨(Nat.le_of_ble_eq_true rfl), (Nat.le_of_ble_eq_true rfl)⟩) (k_preV (q0 := 0) hK hG hP hD [7, 8] rfl rfl rfl rfl) rfl rfl hl.1 rfl (lv_room (Nat.le_of_ble_eq_true rfl)) d_As_workOut_256 ⟨Nat.zero_le _, Nat.zero_le _⟩) hP hD hS hA [7, 8] rfl (Eq.trans (b := [ro q, en q]) rfl rfl) ?_
    clear hP hD hS; intro H locs hP hD hS
    replace hP : va_P D k_cl ([(h, .inr (0, [.ref qk, .ref qf, .ref qs, .ref qn, .ref qr, .int (zI ↑n), .int (zI ↑r)])), (qk, .inl (cI, 30, .inl (kA K))), (qf, .inl (cI, 30, .inl (kA fi))), (qs, .inl (cI, 30, .inl (kA se))), (qn, .inl (cI, 30, .inl (kA nu))), (qr, .inl (cR, 30, .inr (.inr (.inr (.inr (fun i => some (ro i))))))), (tx, .inl (cI, 30, .inl (kA t))), (ro q, .inr (2, [.ref (en q)])), (en q, .inl (cI, 30, .inl (kA (rKL 30 (rHolding a a 30 0 e30) 30)))), (ro x, .inr (2, [.ref (en x)])), (en x, .inl (cI, 30, .inl (kA a)))]) H := hP
    replace hD : va_D A ([(h, .inr (0, [.ref qk, .ref qf, .ref qs, .ref qn, .ref qr, .int (zI ↑n), .int (zI ↑r)])), (qk, .inl (cI, 30, .inl (kA K))), (qf, .inl (cI, 30, .inl (kA fi))), (qs, .inl (cI, 30, .inl (kA se))), (qn, .inl (cI, 30, .inl (kA nu))), (qr, .inl (cR, 30, .inr (.inr (.inr (.inr (fun i => some (ro i))))))), (tx, .inl (cI, 30, .inl (kA t))), (ro q, .inr (2, [.ref (en q)])), (en q, .inl (cI, 30, .inl (kA (rKL 30 (rHolding a a 30 0 e30) 30)))), (ro x, .inr (2, [.ref (en x)])), (en x, .inl (cI, 30, .inl (kA a)))]) := hD
    rw [← hQf]
    have hP : va_P D k_cl [(h, .inr (0, [.ref qk, .ref qf, .ref qs, .ref qn, .ref qr, .int (zI ↑n), .int (zI ↑r)])), (qk, .inl (cI, 30, .inl (kA K))), (qf, .inl (cI, 30, .inl (kA fi))), (qs, .inl (cI, 30, .inl (kA se))), (qn, .inl (cI, 30, .inl (kA nu))), (qr, .inl (cR, 30, .inr (.inr (.inr (.inr (fun i => some (ro i))))))), (tx, .inl (cI, 30, .inl (kA t))), (ro q, .inr (2, [.ref (en q)])), (en q, .inl (cI, 30, .inl (kA (rowVal t (K q) (nu q) a a)))), (ro x, .inr (2, [.ref (en x)])), (en x, .inl (cI, 30, .inl (kA a)))] H := by
      rw [show rowVal t (K q) (nu q) a a = rKL 30 (rHolding a a 30 0 e30) 30 from by rw [hc]; rfl]
      exact hP
    exact k_vret hx hb hr hlocks hP hS d_As_workOut_259
  · refine k_table (v := 6) (tgt := 195) hx hb d_As_workOut_51 (by omega) (by decide) (by decide) rfl (by decide) ?_
    refine lv_aload_n hx hb d_As_workOut_195 rfl (lv_at hl 3 rfl) ?_
    refine lv_aload hx hb d_As_workOut_196 (lv_at hl 2 rfl) ?_
    refine lv_aload hx hb d_As_workOut_198 (lv_at hl 1 rfl) ?_
    refine k_beV (va_runV (As := [.ref (ro x), .ref (ro x)]) (rest := []) ⟨hx, hb, hml, hown, hkw⟩ (c_Row_addIn_same l D cI cR cG (ro q) (en q) (ro x) (en x) e30 a e30_le ha30 _) (cwV 2 hkw (k_gV kw_methodLink_As_63 kw_instanceMethod_Ro_addIn kw_selects_Ro_addIn kw_initialized_Ro kw_code_Ro_addIn) rfl rfl rfl (by decide +kernel) ⟨(Nat.le_of_ble_eq_true rfl), (Nat.le_of_ble_eq_true rfl)⟩) (k_preV (q0 := 0) hK hG hP hD [7, 8, 9, 10] rfl rfl rfl rfl) rfl rfl hl.1 rfl (lv_room (Nat.le_of_ble_eq_true rfl)) d_As_workOut_200 ⟨Nat.zero_le _, Nat.zero_le _⟩) hP hD hS hA [7, 8, 9, 10] rfl (Eq.trans (b := [ro q, en q, ro x, en x]) rfl rfl) ?_
    clear hP hD hS; intro H locs hP hD hS
    replace hP : va_P D k_cl ([(h, .inr (0, [.ref qk, .ref qf, .ref qs, .ref qn, .ref qr, .int (zI ↑n), .int (zI ↑r)])), (qk, .inl (cI, 30, .inl (kA K))), (qf, .inl (cI, 30, .inl (kA fi))), (qs, .inl (cI, 30, .inl (kA se))), (qn, .inl (cI, 30, .inl (kA nu))), (qr, .inl (cR, 30, .inr (.inr (.inr (.inr (fun i => some (ro i))))))), (tx, .inl (cI, 30, .inl (kA t))), (ro q, .inr (2, [.ref (en q)])), (en q, .inl (cI, 30, .inl (kA (rIn a a 30 0 e30)))), (ro x, .inr (2, [.ref (en x)])), (en x, .inl (cI, 30, .inl (kA a)))]) H := hP
    replace hD : va_D A ([(h, .inr (0, [.ref qk, .ref qf, .ref qs, .ref qn, .ref qr, .int (zI ↑n), .int (zI ↑r)])), (qk, .inl (cI, 30, .inl (kA K))), (qf, .inl (cI, 30, .inl (kA fi))), (qs, .inl (cI, 30, .inl (kA se))), (qn, .inl (cI, 30, .inl (kA nu))), (qr, .inl (cR, 30, .inr (.inr (.inr (.inr (fun i => some (ro i))))))), (tx, .inl (cI, 30, .inl (kA t))), (ro q, .inr (2, [.ref (en q)])), (en q, .inl (cI, 30, .inl (kA (rIn a a 30 0 e30)))), (ro x, .inr (2, [.ref (en x)])), (en x, .inl (cI, 30, .inl (kA a)))]) := hD
    refine lv_goto (tgt := 255) hx hb d_As_workOut_203 (by decide) ?_
    refine lv_aload_n hx hb d_As_workOut_255 rfl (lv_at hl 3 rfl) ?_
    refine k_beV (va_runV (As := []) (rest := []) ⟨hx, hb, hml, hown, hkw⟩ (c_Row_keepLeast l D cI cR cG (ro q) (en q) (rIn a a 30 0 e30) (r_bd_rIn e30_le ha30) _) (cwV 0 hkw (k_gV kw_methodLink_As_77 kw_instanceMethod_Ro_keepLeast kw_selects_Ro_keepLeast kw_initialized_Ro kw_code_Ro_keepLeast) rfl rfl rfl (by decide +kernel) ⟨(Nat.le_of_ble_eq_true rfl), (Nat.le_of_ble_eq_true rfl)⟩) (k_preV (q0 := 0) hK hG hP hD [7, 8] rfl rfl rfl rfl) rfl rfl hl.1 rfl (lv_room (Nat.le_of_ble_eq_true rfl)) d_As_workOut_256 ⟨Nat.zero_le _, Nat.zero_le _⟩) hP hD hS hA [7, 8] rfl (Eq.trans (b := [ro q, en q]) rfl rfl) ?_
    clear hP hD hS; intro H locs hP hD hS
    replace hP : va_P D k_cl ([(h, .inr (0, [.ref qk, .ref qf, .ref qs, .ref qn, .ref qr, .int (zI ↑n), .int (zI ↑r)])), (qk, .inl (cI, 30, .inl (kA K))), (qf, .inl (cI, 30, .inl (kA fi))), (qs, .inl (cI, 30, .inl (kA se))), (qn, .inl (cI, 30, .inl (kA nu))), (qr, .inl (cR, 30, .inr (.inr (.inr (.inr (fun i => some (ro i))))))), (tx, .inl (cI, 30, .inl (kA t))), (ro q, .inr (2, [.ref (en q)])), (en q, .inl (cI, 30, .inl (kA (rKL 30 (rIn a a 30 0 e30) 30)))), (ro x, .inr (2, [.ref (en x)])), (en x, .inl (cI, 30, .inl (kA a)))]) H := hP
    replace hD : va_D A ([(h, .inr (0, [.ref qk, .ref qf, .ref qs, .ref qn, .ref qr, .int (zI ↑n), .int (zI ↑r)])), (qk, .inl (cI, 30, .inl (kA K))), (qf, .inl (cI, 30, .inl (kA fi))), (qs, .inl (cI, 30, .inl (kA se))), (qn, .inl (cI, 30, .inl (kA nu))), (qr, .inl (cR, 30, .inr (.inr (.inr (.inr (fun i => some (ro i))))))), (tx, .inl (cI, 30, .inl (kA t))), (ro q, .inr (2, [.ref (en q)])), (en q, .inl (cI, 30, .inl (kA (rKL 30 (rIn a a 30 0 e30) 30)))), (ro x, .inr (2, [.ref (en x)])), (en x, .inl (cI, 30, .inl (kA a)))]) := hD
    rw [← hQf]
    have hP : va_P D k_cl [(h, .inr (0, [.ref qk, .ref qf, .ref qs, .ref qn, .ref qr, .int (zI ↑n), .int (zI ↑r)])), (qk, .inl (cI, 30, .inl (kA K))), (qf, .inl (cI, 30, .inl (kA fi))), (qs, .inl (cI, 30, .inl (kA se))), (qn, .inl (cI, 30, .inl (kA nu))), (qr, .inl (cR, 30, .inr (.inr (.inr (.inr (fun i => some (ro i))))))), (tx, .inl (cI, 30, .inl (kA t))), (ro q, .inr (2, [.ref (en q)])), (en q, .inl (cI, 30, .inl (kA (rowVal t (K q) (nu q) a a)))), (ro x, .inr (2, [.ref (en x)])), (en x, .inl (cI, 30, .inl (kA a)))] H := by
      rw [show rowVal t (K q) (nu q) a a = rKL 30 (rIn a a 30 0 e30) 30 from by rw [hc]; rfl]
      exact hP
    exact k_vret hx hb hr hlocks hP hS d_As_workOut_259
  · refine k_table (v := 7) (tgt := 206) hx hb d_As_workOut_51 (by omega) (by decide) (by decide) rfl (by decide) ?_
    refine lv_aload_n hx hb d_As_workOut_206 rfl (lv_at hl 3 rfl) ?_
    refine lv_aload hx hb d_As_workOut_207 (lv_at hl 2 rfl) ?_
    refine lv_aload hx hb d_As_workOut_209 (lv_at hl 1 rfl) ?_
    refine lv_iconst (v := zI (-1)) hx hb d_As_workOut_211 (by decide) ?_
    refine lv_iconst (v := zI 1) hx hb d_As_workOut_212 (by decide) ?_
    refine k_stk (st2 := [.int (k_b (true = true)), .int (zI (-1)), .ref (ro x), .ref (ro x), .ref (ro q)]) (by rw [k_tt]) ?_
    refine k_beV (va_runV (As := [.ref (ro x), .ref (ro x), .int (zI (-1)), .int (k_b (true = true))]) (rest := []) ⟨hx, hb, hml, hown, hkw⟩ (c_Row_addByNearness_same l D cI cR cG (ro q) (en q) (ro x) (en x) (-1) true e30 a (by omega) e30_le ha30 _) (cwV 4 hkw (k_gV kw_methodLink_As_66 kw_instanceMethod_Ro_addByNearness kw_selects_Ro_addByNearness kw_initialized_Ro kw_code_Ro_addByNearness) rfl rfl rfl (by decide +kernel) ⟨(Nat.le_of_ble_eq_true rfl), (Nat.le_of_ble_eq_true rfl)⟩) (k_preV (q0 := 0) hK hG hP hD [7, 8, 9, 10] rfl rfl rfl rfl) rfl rfl hl.1 rfl (lv_room (Nat.le_of_ble_eq_true rfl)) d_As_workOut_213 ⟨Nat.zero_le _, Nat.zero_le _⟩) hP hD hS hA [7, 8, 9, 10] rfl (Eq.trans (b := [ro q, en q, ro x, en x]) rfl rfl) ?_
    clear hP hD hS; intro H locs hP hD hS
    replace hP : va_P D k_cl ([(h, .inr (0, [.ref qk, .ref qf, .ref qs, .ref qn, .ref qr, .int (zI ↑n), .int (zI ↑r)])), (qk, .inl (cI, 30, .inl (kA K))), (qf, .inl (cI, 30, .inl (kA fi))), (qs, .inl (cI, 30, .inl (kA se))), (qn, .inl (cI, 30, .inl (kA nu))), (qr, .inl (cR, 30, .inr (.inr (.inr (.inr (fun i => some (ro i))))))), (tx, .inl (cI, 30, .inl (kA t))), (ro q, .inr (2, [.ref (en q)])), (en q, .inl (cI, 30, .inl (kA (rNear a a (-1) true 30 0 e30)))), (ro x, .inr (2, [.ref (en x)])), (en x, .inl (cI, 30, .inl (kA a)))]) H := hP
    replace hD : va_D A ([(h, .inr (0, [.ref qk, .ref qf, .ref qs, .ref qn, .ref qr, .int (zI ↑n), .int (zI ↑r)])), (qk, .inl (cI, 30, .inl (kA K))), (qf, .inl (cI, 30, .inl (kA fi))), (qs, .inl (cI, 30, .inl (kA se))), (qn, .inl (cI, 30, .inl (kA nu))), (qr, .inl (cR, 30, .inr (.inr (.inr (.inr (fun i => some (ro i))))))), (tx, .inl (cI, 30, .inl (kA t))), (ro q, .inr (2, [.ref (en q)])), (en q, .inl (cI, 30, .inl (kA (rNear a a (-1) true 30 0 e30)))), (ro x, .inr (2, [.ref (en x)])), (en x, .inl (cI, 30, .inl (kA a)))]) := hD
    refine lv_goto (tgt := 255) hx hb d_As_workOut_216 (by decide) ?_
    refine lv_aload_n hx hb d_As_workOut_255 rfl (lv_at hl 3 rfl) ?_
    refine k_beV (va_runV (As := []) (rest := []) ⟨hx, hb, hml, hown, hkw⟩ (c_Row_keepLeast l D cI cR cG (ro q) (en q) (rNear a a (-1) true 30 0 e30) (r_bd_rNear e30_le ha30) _) (cwV 0 hkw (k_gV kw_methodLink_As_77 kw_instanceMethod_Ro_keepLeast kw_selects_Ro_keepLeast kw_initialized_Ro kw_code_Ro_keepLeast) rfl rfl rfl (by decide +kernel) ⟨(Nat.le_of_ble_eq_true rfl), (Nat.le_of_ble_eq_true rfl)⟩) (k_preV (q0 := 0) hK hG hP hD [7, 8] rfl rfl rfl rfl) rfl rfl hl.1 rfl (lv_room (Nat.le_of_ble_eq_true rfl)) d_As_workOut_256 ⟨Nat.zero_le _, Nat.zero_le _⟩) hP hD hS hA [7, 8] rfl (Eq.trans (b := [ro q, en q]) rfl rfl) ?_
    clear hP hD hS; intro H locs hP hD hS
    replace hP : va_P D k_cl ([(h, .inr (0, [.ref qk, .ref qf, .ref qs, .ref qn, .ref qr, .int (zI ↑n), .int (zI ↑r)])), (qk, .inl (cI, 30, .inl (kA K))), (qf, .inl (cI, 30, .inl (kA fi))), (qs, .inl (cI, 30, .inl (kA se))), (qn, .inl (cI, 30, .inl (kA nu))), (qr, .inl (cR, 30, .inr (.inr (.inr (.inr (fun i => some (ro i))))))), (tx, .inl (cI, 30, .inl (kA t))), (ro q, .inr (2, [.ref (en q)])), (en q, .inl (cI, 30, .inl (kA (rKL 30 (rNear a a (-1) true 30 0 e30) 30)))), (ro x, .inr (2, [.ref (en x)])), (en x, .inl (cI, 30, .inl (kA a)))]) H := hP
    replace hD : va_D A ([(h, .inr (0, [.ref qk, .ref qf, .ref qs, .ref qn, .ref qr, .int (zI ↑n), .int (zI ↑r)])), (qk, .inl (cI, 30, .inl (kA K))), (qf, .inl (cI, 30, .inl (kA fi))), (qs, .inl (cI, 30, .inl (kA se))), (qn, .inl (cI, 30, .inl (kA nu))), (qr, .inl (cR, 30, .inr (.inr (.inr (.inr (fun i => some (ro i))))))), (tx, .inl (cI, 30, .inl (kA t))), (ro q, .inr (2, [.ref (en q)])), (en q, .inl (cI, 30, .inl (kA (rKL 30 (rNear a a (-1) true 30 0 e30) 30)))), (ro x, .inr (2, [.ref (en x)])), (en x, .inl (cI, 30, .inl (kA a)))]) := hD
    rw [← hQf]
    have hP : va_P D k_cl [(h, .inr (0, [.ref qk, .ref qf, .ref qs, .ref qn, .ref qr, .int (zI ↑n), .int (zI ↑r)])), (qk, .inl (cI, 30, .inl (kA K))), (qf, .inl (cI, 30, .inl (kA fi))), (qs, .inl (cI, 30, .inl (kA se))), (qn, .inl (cI, 30, .inl (kA nu))), (qr, .inl (cR, 30, .inr (.inr (.inr (.inr (fun i => some (ro i))))))), (tx, .inl (cI, 30, .inl (kA t))), (ro q, .inr (2, [.ref (en q)])), (en q, .inl (cI, 30, .inl (kA (rowVal t (K q) (nu q) a a)))), (ro x, .inr (2, [.ref (en x)])), (en x, .inl (cI, 30, .inl (kA a)))] H := by
      rw [show rowVal t (K q) (nu q) a a = rKL 30 (rNear a a (-1) true 30 0 e30) 30 from by rw [hc]; rfl]
      exact hP
    exact k_vret hx hb hr hlocks hP hS d_As_workOut_259
  · refine k_table (v := 8) (tgt := 219) hx hb d_As_workOut_51 (by omega) (by decide) (by decide) rfl (by decide) ?_
    refine lv_aload_n hx hb d_As_workOut_219 rfl (lv_at hl 3 rfl) ?_
    refine lv_aload hx hb d_As_workOut_220 (lv_at hl 2 rfl) ?_
    refine lv_aload hx hb d_As_workOut_222 (lv_at hl 1 rfl) ?_
    refine lv_iload hx hb d_As_workOut_224 (lv_at hl 0 rfl) ?_
    refine lv_iconst (v := zI 0) hx hb d_As_workOut_226 (by decide) ?_
    refine k_stk (st2 := [.int (k_b (false = true)), .int (zI (↑(nu q))), .ref (ro x), .ref (ro x), .ref (ro q)]) (by rw [k_ff]) ?_
    refine k_beV (va_runV (As := [.ref (ro x), .ref (ro x), .int (zI (↑(nu q))), .int (k_b (false = true))]) (rest := []) ⟨hx, hb, hml, hown, hkw⟩ (c_Row_addByNearness_same l D cI cR cG (ro q) (en q) (ro x) (en x) (↑(nu q)) false e30 a (by omega) e30_le ha30 _) (cwV 4 hkw (k_gV kw_methodLink_As_66 kw_instanceMethod_Ro_addByNearness kw_selects_Ro_addByNearness kw_initialized_Ro kw_code_Ro_addByNearness) rfl rfl rfl (by decide +kernel) ⟨(Nat.le_of_ble_eq_true rfl), (Nat.le_of_ble_eq_true rfl)⟩) (k_preV (q0 := 0) hK hG hP hD [7, 8, 9, 10] rfl rfl rfl rfl) rfl rfl hl.1 rfl (lv_room (Nat.le_of_ble_eq_true rfl)) d_As_workOut_227 ⟨Nat.zero_le _, Nat.zero_le _⟩) hP hD hS hA [7, 8, 9, 10] rfl (Eq.trans (b := [ro q, en q, ro x, en x]) rfl rfl) ?_
    clear hP hD hS; intro H locs hP hD hS
    replace hP : va_P D k_cl ([(h, .inr (0, [.ref qk, .ref qf, .ref qs, .ref qn, .ref qr, .int (zI ↑n), .int (zI ↑r)])), (qk, .inl (cI, 30, .inl (kA K))), (qf, .inl (cI, 30, .inl (kA fi))), (qs, .inl (cI, 30, .inl (kA se))), (qn, .inl (cI, 30, .inl (kA nu))), (qr, .inl (cR, 30, .inr (.inr (.inr (.inr (fun i => some (ro i))))))), (tx, .inl (cI, 30, .inl (kA t))), (ro q, .inr (2, [.ref (en q)])), (en q, .inl (cI, 30, .inl (kA (rNear a a (↑(nu q)) false 30 0 e30)))), (ro x, .inr (2, [.ref (en x)])), (en x, .inl (cI, 30, .inl (kA a)))]) H := hP
    replace hD : va_D A ([(h, .inr (0, [.ref qk, .ref qf, .ref qs, .ref qn, .ref qr, .int (zI ↑n), .int (zI ↑r)])), (qk, .inl (cI, 30, .inl (kA K))), (qf, .inl (cI, 30, .inl (kA fi))), (qs, .inl (cI, 30, .inl (kA se))), (qn, .inl (cI, 30, .inl (kA nu))), (qr, .inl (cR, 30, .inr (.inr (.inr (.inr (fun i => some (ro i))))))), (tx, .inl (cI, 30, .inl (kA t))), (ro q, .inr (2, [.ref (en q)])), (en q, .inl (cI, 30, .inl (kA (rNear a a (↑(nu q)) false 30 0 e30)))), (ro x, .inr (2, [.ref (en x)])), (en x, .inl (cI, 30, .inl (kA a)))]) := hD
    refine lv_goto (tgt := 255) hx hb d_As_workOut_230 (by decide) ?_
    refine lv_aload_n hx hb d_As_workOut_255 rfl (lv_at hl 3 rfl) ?_
    refine k_beV (va_runV (As := []) (rest := []) ⟨hx, hb, hml, hown, hkw⟩ (c_Row_keepLeast l D cI cR cG (ro q) (en q) (rNear a a (↑(nu q)) false 30 0 e30) (r_bd_rNear e30_le ha30) _) (cwV 0 hkw (k_gV kw_methodLink_As_77 kw_instanceMethod_Ro_keepLeast kw_selects_Ro_keepLeast kw_initialized_Ro kw_code_Ro_keepLeast) rfl rfl rfl (by decide +kernel) ⟨(Nat.le_of_ble_eq_true rfl), (Nat.le_of_ble_eq_true rfl)⟩) (k_preV (q0 := 0) hK hG hP hD [7, 8] rfl rfl rfl rfl) rfl rfl hl.1 rfl (lv_room (Nat.le_of_ble_eq_true rfl)) d_As_workOut_256 ⟨Nat.zero_le _, Nat.zero_le _⟩) hP hD hS hA [7, 8] rfl (Eq.trans (b := [ro q, en q]) rfl rfl) ?_
    clear hP hD hS; intro H locs hP hD hS
    replace hP : va_P D k_cl ([(h, .inr (0, [.ref qk, .ref qf, .ref qs, .ref qn, .ref qr, .int (zI ↑n), .int (zI ↑r)])), (qk, .inl (cI, 30, .inl (kA K))), (qf, .inl (cI, 30, .inl (kA fi))), (qs, .inl (cI, 30, .inl (kA se))), (qn, .inl (cI, 30, .inl (kA nu))), (qr, .inl (cR, 30, .inr (.inr (.inr (.inr (fun i => some (ro i))))))), (tx, .inl (cI, 30, .inl (kA t))), (ro q, .inr (2, [.ref (en q)])), (en q, .inl (cI, 30, .inl (kA (rKL 30 (rNear a a (↑(nu q)) false 30 0 e30) 30)))), (ro x, .inr (2, [.ref (en x)])), (en x, .inl (cI, 30, .inl (kA a)))]) H := hP
    replace hD : va_D A ([(h, .inr (0, [.ref qk, .ref qf, .ref qs, .ref qn, .ref qr, .int (zI ↑n), .int (zI ↑r)])), (qk, .inl (cI, 30, .inl (kA K))), (qf, .inl (cI, 30, .inl (kA fi))), (qs, .inl (cI, 30, .inl (kA se))), (qn, .inl (cI, 30, .inl (kA nu))), (qr, .inl (cR, 30, .inr (.inr (.inr (.inr (fun i => some (ro i))))))), (tx, .inl (cI, 30, .inl (kA t))), (ro q, .inr (2, [.ref (en q)])), (en q, .inl (cI, 30, .inl (kA (rKL 30 (rNear a a (↑(nu q)) false 30 0 e30) 30)))), (ro x, .inr (2, [.ref (en x)])), (en x, .inl (cI, 30, .inl (kA a)))]) := hD
    rw [← hQf]
    have hP : va_P D k_cl [(h, .inr (0, [.ref qk, .ref qf, .ref qs, .ref qn, .ref qr, .int (zI ↑n), .int (zI ↑r)])), (qk, .inl (cI, 30, .inl (kA K))), (qf, .inl (cI, 30, .inl (kA fi))), (qs, .inl (cI, 30, .inl (kA se))), (qn, .inl (cI, 30, .inl (kA nu))), (qr, .inl (cR, 30, .inr (.inr (.inr (.inr (fun i => some (ro i))))))), (tx, .inl (cI, 30, .inl (kA t))), (ro q, .inr (2, [.ref (en q)])), (en q, .inl (cI, 30, .inl (kA (rowVal t (K q) (nu q) a a)))), (ro x, .inr (2, [.ref (en x)])), (en x, .inl (cI, 30, .inl (kA a)))] H := by
      rw [show rowVal t (K q) (nu q) a a = rKL 30 (rNear a a (↑(nu q)) false 30 0 e30) 30 from by rw [hc]; rfl]
      exact hP
    exact k_vret hx hb hr hlocks hP hS d_As_workOut_259
  · refine k_table (v := 9) (tgt := 233) hx hb d_As_workOut_51 (by omega) (by decide) (by decide) rfl (by decide) ?_
    refine lv_aload_n hx hb d_As_workOut_233 rfl (lv_at hl 3 rfl) ?_
    refine lv_aload hx hb d_As_workOut_234 (lv_at hl 2 rfl) ?_
    refine lv_iload hx hb d_As_workOut_236 (lv_at hl 0 rfl) ?_
    refine k_beV (va_runV (As := [.ref (ro x), .int (zI (↑(nu q)))]) (rest := []) ⟨hx, hb, hml, hown, hkw⟩ (c_Row_addEndingBefore l D cI cR cG (ro q) (en q) (ro x) (en x) (nu q) e30 a (by omega) e30_le ha30 _) (cwV 2 hkw (k_gV kw_methodLink_As_70 kw_instanceMethod_Ro_addEndingBefore kw_selects_Ro_addEndingBefore kw_initialized_Ro kw_code_Ro_addEndingBefore) rfl rfl rfl (by decide +kernel) ⟨(Nat.le_of_ble_eq_true rfl), (Nat.le_of_ble_eq_true rfl)⟩) (k_preV (q0 := 0) hK hG hP hD [7, 8, 9, 10] rfl rfl rfl rfl) rfl rfl hl.1 rfl (lv_room (Nat.le_of_ble_eq_true rfl)) d_As_workOut_238 ⟨Nat.zero_le _, Nat.zero_le _⟩) hP hD hS hA [7, 8, 9, 10] rfl (Eq.trans (b := [ro q, en q, ro x, en x]) rfl rfl) ?_
    clear hP hD hS; intro H locs hP hD hS
    replace hP : va_P D k_cl ([(h, .inr (0, [.ref qk, .ref qf, .ref qs, .ref qn, .ref qr, .int (zI ↑n), .int (zI ↑r)])), (qk, .inl (cI, 30, .inl (kA K))), (qf, .inl (cI, 30, .inl (kA fi))), (qs, .inl (cI, 30, .inl (kA se))), (qn, .inl (cI, 30, .inl (kA nu))), (qr, .inl (cR, 30, .inr (.inr (.inr (.inr (fun i => some (ro i))))))), (tx, .inl (cI, 30, .inl (kA t))), (ro q, .inr (2, [.ref (en q)])), (en q, .inl (cI, 30, .inl (kA (rBefore a (nu q) 30 0 e30)))), (ro x, .inr (2, [.ref (en x)])), (en x, .inl (cI, 30, .inl (kA a)))]) H := hP
    replace hD : va_D A ([(h, .inr (0, [.ref qk, .ref qf, .ref qs, .ref qn, .ref qr, .int (zI ↑n), .int (zI ↑r)])), (qk, .inl (cI, 30, .inl (kA K))), (qf, .inl (cI, 30, .inl (kA fi))), (qs, .inl (cI, 30, .inl (kA se))), (qn, .inl (cI, 30, .inl (kA nu))), (qr, .inl (cR, 30, .inr (.inr (.inr (.inr (fun i => some (ro i))))))), (tx, .inl (cI, 30, .inl (kA t))), (ro q, .inr (2, [.ref (en q)])), (en q, .inl (cI, 30, .inl (kA (rBefore a (nu q) 30 0 e30)))), (ro x, .inr (2, [.ref (en x)])), (en x, .inl (cI, 30, .inl (kA a)))]) := hD
    refine lv_goto (tgt := 255) hx hb d_As_workOut_241 (by decide) ?_
    refine lv_aload_n hx hb d_As_workOut_255 rfl (lv_at hl 3 rfl) ?_
    refine k_beV (va_runV (As := []) (rest := []) ⟨hx, hb, hml, hown, hkw⟩ (c_Row_keepLeast l D cI cR cG (ro q) (en q) (rBefore a (nu q) 30 0 e30) (r_bd_rBefore e30_le ha30) _) (cwV 0 hkw (k_gV kw_methodLink_As_77 kw_instanceMethod_Ro_keepLeast kw_selects_Ro_keepLeast kw_initialized_Ro kw_code_Ro_keepLeast) rfl rfl rfl (by decide +kernel) ⟨(Nat.le_of_ble_eq_true rfl), (Nat.le_of_ble_eq_true rfl)⟩) (k_preV (q0 := 0) hK hG hP hD [7, 8] rfl rfl rfl rfl) rfl rfl hl.1 rfl (lv_room (Nat.le_of_ble_eq_true rfl)) d_As_workOut_256 ⟨Nat.zero_le _, Nat.zero_le _⟩) hP hD hS hA [7, 8] rfl (Eq.trans (b := [ro q, en q]) rfl rfl) ?_
    clear hP hD hS; intro H locs hP hD hS
    replace hP : va_P D k_cl ([(h, .inr (0, [.ref qk, .ref qf, .ref qs, .ref qn, .ref qr, .int (zI ↑n), .int (zI ↑r)])), (qk, .inl (cI, 30, .inl (kA K))), (qf, .inl (cI, 30, .inl (kA fi))), (qs, .inl (cI, 30, .inl (kA se))), (qn, .inl (cI, 30, .inl (kA nu))), (qr, .inl (cR, 30, .inr (.inr (.inr (.inr (fun i => some (ro i))))))), (tx, .inl (cI, 30, .inl (kA t))), (ro q, .inr (2, [.ref (en q)])), (en q, .inl (cI, 30, .inl (kA (rKL 30 (rBefore a (nu q) 30 0 e30) 30)))), (ro x, .inr (2, [.ref (en x)])), (en x, .inl (cI, 30, .inl (kA a)))]) H := hP
    replace hD : va_D A ([(h, .inr (0, [.ref qk, .ref qf, .ref qs, .ref qn, .ref qr, .int (zI ↑n), .int (zI ↑r)])), (qk, .inl (cI, 30, .inl (kA K))), (qf, .inl (cI, 30, .inl (kA fi))), (qs, .inl (cI, 30, .inl (kA se))), (qn, .inl (cI, 30, .inl (kA nu))), (qr, .inl (cR, 30, .inr (.inr (.inr (.inr (fun i => some (ro i))))))), (tx, .inl (cI, 30, .inl (kA t))), (ro q, .inr (2, [.ref (en q)])), (en q, .inl (cI, 30, .inl (kA (rKL 30 (rBefore a (nu q) 30 0 e30) 30)))), (ro x, .inr (2, [.ref (en x)])), (en x, .inl (cI, 30, .inl (kA a)))]) := hD
    rw [← hQf]
    have hP : va_P D k_cl [(h, .inr (0, [.ref qk, .ref qf, .ref qs, .ref qn, .ref qr, .int (zI ↑n), .int (zI ↑r)])), (qk, .inl (cI, 30, .inl (kA K))), (qf, .inl (cI, 30, .inl (kA fi))), (qs, .inl (cI, 30, .inl (kA se))), (qn, .inl (cI, 30, .inl (kA nu))), (qr, .inl (cR, 30, .inr (.inr (.inr (.inr (fun i => some (ro i))))))), (tx, .inl (cI, 30, .inl (kA t))), (ro q, .inr (2, [.ref (en q)])), (en q, .inl (cI, 30, .inl (kA (rowVal t (K q) (nu q) a a)))), (ro x, .inr (2, [.ref (en x)])), (en x, .inl (cI, 30, .inl (kA a)))] H := by
      rw [show rowVal t (K q) (nu q) a a = rKL 30 (rBefore a (nu q) 30 0 e30) 30 from by rw [hc]; rfl]
      exact hP
    exact k_vret hx hb hr hlocks hP hS d_As_workOut_259
  · refine k_table (v := 10) (tgt := 244) hx hb d_As_workOut_51 (by omega) (by decide) (by decide) rfl (by decide) ?_
    refine lv_aload_n hx hb d_As_workOut_244 rfl (lv_at hl 3 rfl) ?_
    refine lv_aload hx hb d_As_workOut_245 (lv_at hl 2 rfl) ?_
    refine lv_iload hx hb d_As_workOut_247 (lv_at hl 0 rfl) ?_
    refine k_beV (va_runV (As := [.ref (ro x), .int (zI (↑(nu q)))]) (rest := []) ⟨hx, hb, hml, hown, hkw⟩ (c_Row_addGrown l D cI cR cG (ro q) (en q) (ro x) (en x) (nu q) e30 a (by omega) e30_le ha30 _) (cwV 2 hkw (k_gV kw_methodLink_As_74 kw_instanceMethod_Ro_addGrown kw_selects_Ro_addGrown kw_initialized_Ro kw_code_Ro_addGrown) rfl rfl rfl (by decide +kernel) ⟨(Nat.le_of_ble_eq_true rfl), (Nat.le_of_ble_eq_true rfl)⟩) (k_preV (q0 := 0) hK hG hP hD [7, 8, 9, 10] rfl rfl rfl rfl) rfl rfl hl.1 rfl (lv_room (Nat.le_of_ble_eq_true rfl)) d_As_workOut_249 ⟨Nat.zero_le _, Nat.zero_le _⟩) hP hD hS hA [7, 8, 9, 10] rfl (Eq.trans (b := [ro q, en q, ro x, en x]) rfl rfl) ?_
    clear hP hD hS; intro H locs hP hD hS
    replace hP : va_P D k_cl ([(h, .inr (0, [.ref qk, .ref qf, .ref qs, .ref qn, .ref qr, .int (zI ↑n), .int (zI ↑r)])), (qk, .inl (cI, 30, .inl (kA K))), (qf, .inl (cI, 30, .inl (kA fi))), (qs, .inl (cI, 30, .inl (kA se))), (qn, .inl (cI, 30, .inl (kA nu))), (qr, .inl (cR, 30, .inr (.inr (.inr (.inr (fun i => some (ro i))))))), (tx, .inl (cI, 30, .inl (kA t))), (ro q, .inr (2, [.ref (en q)])), (en q, .inl (cI, 30, .inl (kA (rGrown a (nu q) 30 0 e30)))), (ro x, .inr (2, [.ref (en x)])), (en x, .inl (cI, 30, .inl (kA a)))]) H := hP
    replace hD : va_D A ([(h, .inr (0, [.ref qk, .ref qf, .ref qs, .ref qn, .ref qr, .int (zI ↑n), .int (zI ↑r)])), (qk, .inl (cI, 30, .inl (kA K))), (qf, .inl (cI, 30, .inl (kA fi))), (qs, .inl (cI, 30, .inl (kA se))), (qn, .inl (cI, 30, .inl (kA nu))), (qr, .inl (cR, 30, .inr (.inr (.inr (.inr (fun i => some (ro i))))))), (tx, .inl (cI, 30, .inl (kA t))), (ro q, .inr (2, [.ref (en q)])), (en q, .inl (cI, 30, .inl (kA (rGrown a (nu q) 30 0 e30)))), (ro x, .inr (2, [.ref (en x)])), (en x, .inl (cI, 30, .inl (kA a)))]) := hD
    refine lv_goto (tgt := 255) hx hb d_As_workOut_252 (by decide) ?_
    refine lv_aload_n hx hb d_As_workOut_255 rfl (lv_at hl 3 rfl) ?_
    refine k_beV (va_runV (As := []) (rest := []) ⟨hx, hb, hml, hown, hkw⟩ (c_Row_keepLeast l D cI cR cG (ro q) (en q) (rGrown a (nu q) 30 0 e30) (r_bd_rGrown e30_le ha30) _) (cwV 0 hkw (k_gV kw_methodLink_As_77 kw_instanceMethod_Ro_keepLeast kw_selects_Ro_keepLeast kw_initialized_Ro kw_code_Ro_keepLeast) rfl rfl rfl (by decide +kernel) ⟨(Nat.le_of_ble_eq_true rfl), (Nat.le_of_ble_eq_true rfl)⟩) (k_preV (q0 := 0) hK hG hP hD [7, 8] rfl rfl rfl rfl) rfl rfl hl.1 rfl (lv_room (Nat.le_of_ble_eq_true rfl)) d_As_workOut_256 ⟨Nat.zero_le _, Nat.zero_le _⟩) hP hD hS hA [7, 8] rfl (Eq.trans (b := [ro q, en q]) rfl rfl) ?_
    clear hP hD hS; intro H locs hP hD hS
    replace hP : va_P D k_cl ([(h, .inr (0, [.ref qk, .ref qf, .ref qs, .ref qn, .ref qr, .int (zI ↑n), .int (zI ↑r)])), (qk, .inl (cI, 30, .inl (kA K))), (qf, .inl (cI, 30, .inl (kA fi))), (qs, .inl (cI, 30, .inl (kA se))), (qn, .inl (cI, 30, .inl (kA nu))), (qr, .inl (cR, 30, .inr (.inr (.inr (.inr (fun i => some (ro i))))))), (tx, .inl (cI, 30, .inl (kA t))), (ro q, .inr (2, [.ref (en q)])), (en q, .inl (cI, 30, .inl (kA (rKL 30 (rGrown a (nu q) 30 0 e30) 30)))), (ro x, .inr (2, [.ref (en x)])), (en x, .inl (cI, 30, .inl (kA a)))]) H := hP
    replace hD : va_D A ([(h, .inr (0, [.ref qk, .ref qf, .ref qs, .ref qn, .ref qr, .int (zI ↑n), .int (zI ↑r)])), (qk, .inl (cI, 30, .inl (kA K))), (qf, .inl (cI, 30, .inl (kA fi))), (qs, .inl (cI, 30, .inl (kA se))), (qn, .inl (cI, 30, .inl (kA nu))), (qr, .inl (cR, 30, .inr (.inr (.inr (.inr (fun i => some (ro i))))))), (tx, .inl (cI, 30, .inl (kA t))), (ro q, .inr (2, [.ref (en q)])), (en q, .inl (cI, 30, .inl (kA (rKL 30 (rGrown a (nu q) 30 0 e30) 30)))), (ro x, .inr (2, [.ref (en x)])), (en x, .inl (cI, 30, .inl (kA a)))]) := hD
    rw [← hQf]
    have hP : va_P D k_cl [(h, .inr (0, [.ref qk, .ref qf, .ref qs, .ref qn, .ref qr, .int (zI ↑n), .int (zI ↑r)])), (qk, .inl (cI, 30, .inl (kA K))), (qf, .inl (cI, 30, .inl (kA fi))), (qs, .inl (cI, 30, .inl (kA se))), (qn, .inl (cI, 30, .inl (kA nu))), (qr, .inl (cR, 30, .inr (.inr (.inr (.inr (fun i => some (ro i))))))), (tx, .inl (cI, 30, .inl (kA t))), (ro q, .inr (2, [.ref (en q)])), (en q, .inl (cI, 30, .inl (kA (rowVal t (K q) (nu q) a a)))), (ro x, .inr (2, [.ref (en x)])), (en x, .inl (cI, 30, .inl (kA a)))] H := by
      rw [show rowVal t (K q) (nu q) a a = rKL 30 (rGrown a (nu q) 30 0 e30) 30 from by rw [hc]; rfl]
      exact hP
    exact k_vret hx hb hr hlocks hP hS d_As_workOut_259

abbrev rm_As_workOut2 : Room := { frames := 4, cells := 0, slots := 0, locals := 93 }
set_option maxHeartbeats 4000000 in
set_option maxRecDepth 100000 in
theorem c_As_workOut2 (l : Launch) (D : va_G) (cI cR cG : ClassId) (h qk qf qs qn qr n r q tx x y : Nat) (ro en K fi se nu t G a b : Nat → Nat) (hq : q < 30) (hfi : fi q = x) (hse : se q = y) (hx3 : x < 30) (hy3 : y < 30) (hkd : K q ≤ 10) (hnu : nu q ≤ 30) (hn0 : K q = 0 → nu q < 10) (ht : ∀ j, t j ≤ 1023) (hG0 : ∀ j, G j ≤ 30) (ha30 : ∀ j, a j ≤ 30) (hb30 : ∀ j, b j ≤ 30) : k_M l y_As_workOut (.code y_As_workOut b_As_workOut 7 none :: kW) rm_As_workOut2 D k_cl (k_ty cI cR cG) [.ref h, .int (zI ↑q), .ref tx] ([(h, .inr (0, [.ref qk, .ref qf, .ref qs, .ref qn, .ref qr, .int (zI ↑n), .int (zI ↑r)])), (qk, .inl (cI, 30, .inl (kA K))), (qf, .inl (cI, 30, .inl (kA fi))), (qs, .inl (cI, 30, .inl (kA se))), (qn, .inl (cI, 30, .inl (kA nu))), (qr, .inl (cR, 30, .inr (.inr (.inr (.inr (fun i => some (ro i))))))), (tx, .inl (cI, 30, .inl (kA t))), (ro q, .inr (2, [.ref (en q)])), (en q, .inl (cI, 30, .inl (kA G))), (ro x, .inr (2, [.ref (en x)])), (en x, .inl (cI, 30, .inl (kA a))), (ro y, .inr (2, [.ref (en y)])), (en y, .inl (cI, 30, .inl (kA b)))]) (k_Qv D k_cl [(h, .inr (0, [.ref qk, .ref qf, .ref qs, .ref qn, .ref qr, .int (zI ↑n), .int (zI ↑r)])), (qk, .inl (cI, 30, .inl (kA K))), (qf, .inl (cI, 30, .inl (kA fi))), (qs, .inl (cI, 30, .inl (kA se))), (qn, .inl (cI, 30, .inl (kA nu))), (qr, .inl (cR, 30, .inr (.inr (.inr (.inr (fun i => some (ro i))))))), (tx, .inl (cI, 30, .inl (kA t))), (ro q, .inr (2, [.ref (en q)])), (en q, .inl (cI, 30, .inl (kA (rowVal t (K q) (nu q) a b)))), (ro x, .inr (2, [.ref (en x)])), (en x, .inl (cI, 30, .inl (kA a))), (ro y, .inr (2, [.ref (en y)])), (en y, .inl (cI, 30, .inl (kA b)))]) := by
  refine k_start (cc := b_As_workOut) (maxL := 7) (ret := none) (by decide) rfl (Nat.le_of_ble_eq_true rfl) ?_
  intro p ev s m ar below meth c A ls Qf hQf hx hb hr hml hts hown hlocks hin hK hG hA hP hD hS hl
  replace hown : s.vm.findClass R_As = some m.cls := hown
  replace hl : lv_has ls 7 [(0, .ref h), (1, .int (zI ↑q)), (2, .ref tx)] := hl
  have hkw : ∀ w ∈ kW, w.before ar s = true := fun w h => hts w (List.mem_cons_of_mem _ h)
  replace hP : va_P D k_cl ([(h, .inr (0, [.ref qk, .ref qf, .ref qs, .ref qn, .ref qr, .int (zI ↑n), .int (zI ↑r)])), (qk, .inl (cI, 30, .inl (kA K))), (qf, .inl (cI, 30, .inl (kA fi))), (qs, .inl (cI, 30, .inl (kA se))), (qn, .inl (cI, 30, .inl (kA nu))), (qr, .inl (cR, 30, .inr (.inr (.inr (.inr (fun i => some (ro i))))))), (tx, .inl (cI, 30, .inl (kA t))), (ro q, .inr (2, [.ref (en q)])), (en q, .inl (cI, 30, .inl (kA G))), (ro x, .inr (2, [.ref (en x)])), (en x, .inl (cI, 30, .inl (kA a))), (ro y, .inr (2, [.ref (en y)])), (en y, .inl (cI, 30, .inl (kA b)))]) s.heap := hP
  replace hD : va_D A ([(h, .inr (0, [.ref qk, .ref qf, .ref qs, .ref qn, .ref qr, .int (zI ↑n), .int (zI ↑r)])), (qk, .inl (cI, 30, .inl (kA K))), (qf, .inl (cI, 30, .inl (kA fi))), (qs, .inl (cI, 30, .inl (kA se))), (qn, .inl (cI, 30, .inl (kA nu))), (qr, .inl (cR, 30, .inr (.inr (.inr (.inr (fun i => some (ro i))))))), (tx, .inl (cI, 30, .inl (kA t))), (ro q, .inr (2, [.ref (en q)])), (en q, .inl (cI, 30, .inl (kA G))), (ro x, .inr (2, [.ref (en x)])), (en x, .inl (cI, 30, .inl (kA a))), (ro y, .inr (2, [.ref (en y)])), (en y, .inl (cI, 30, .inl (kA b)))]) := hD
  refine lv_aload_n hx hb d_As_workOut_0 rfl (lv_at hl 0 rfl) ?_
  refine va_get (D := D) (ci := 0) (v := .ref qr) (C := R_As) (T := T_As) (N := 7) hx hb hkw kin_As hown hK hP 0 rfl rfl 4 (by decide) (hkw _ kw_fieldLink_As_26) (fun _ h9 => h9) rfl d_As_workOut_1 ?_
  refine lv_iload_n hx hb d_As_workOut_4 rfl (lv_at hl 1 rfl) ?_
  refine k_aald hx hb hK hP 5 1 rfl rfl (i := q) (by omega) (by omega) (by omega) d_As_workOut_5 ?_
  refine lv_astore_n (lv' := [(3, .ref (ro q)), (0, .ref h), (1, .int (zI ↑q)), (2, .ref tx)]) hx hb d_As_workOut_6 rfl hl (by decide) rfl ?_
  clear hl; intro ls hl
  refine lv_aload_n hx hb d_As_workOut_7 rfl (lv_at hl 1 rfl) ?_
  refine va_get (D := D) (ci := 0) (v := .ref qr) (C := R_As) (T := T_As) (N := 7) hx hb hkw kin_As hown hK hP 0 rfl rfl 4 (by decide) (hkw _ kw_fieldLink_As_26) (fun _ h9 => h9) rfl d_As_workOut_8 ?_
  refine lv_aload_n hx hb d_As_workOut_11 rfl (lv_at hl 1 rfl) ?_
  refine va_get (D := D) (ci := 0) (v := .ref qf) (C := R_As) (T := T_As) (N := 7) hx hb hkw kin_As hown hK hP 0 rfl rfl 1 (by decide) (hkw _ kw_fieldLink_As_15) (fun _ h9 => h9) rfl d_As_workOut_12 ?_
  refine lv_iload_n hx hb d_As_workOut_15 rfl (lv_at hl 2 rfl) ?_
  refine k_ald hx hb hK hP 2 0 rfl rfl (i := q) (by omega) (by omega) (by omega) d_As_workOut_16 ?_
  refine k_aald hx hb hK hP 5 1 rfl rfl (i := x) (by omega) (by omega) (by omega) d_As_workOut_17 ?_
  refine lv_astore (lv' := [(4, .ref (ro x)), (3, .ref (ro q)), (0, .ref h), (1, .int (zI ↑q)), (2, .ref tx)]) hx hb d_As_workOut_18 hl (by decide) rfl ?_
  clear hl; intro ls hl
  refine lv_aload_n hx hb d_As_workOut_20 rfl (lv_at hl 2 rfl) ?_
  refine va_get (D := D) (ci := 0) (v := .ref qr) (C := R_As) (T := T_As) (N := 7) hx hb hkw kin_As hown hK hP 0 rfl rfl 4 (by decide) (hkw _ kw_fieldLink_As_26) (fun _ h9 => h9) rfl d_As_workOut_21 ?_
  refine lv_aload_n hx hb d_As_workOut_24 rfl (lv_at hl 2 rfl) ?_
  refine va_get (D := D) (ci := 0) (v := .ref qs) (C := R_As) (T := T_As) (N := 7) hx hb hkw kin_As hown hK hP 0 rfl rfl 2 (by decide) (hkw _ kw_fieldLink_As_18) (fun _ h9 => h9) rfl d_As_workOut_25 ?_
  refine lv_iload_n hx hb d_As_workOut_28 rfl (lv_at hl 3 rfl) ?_
  refine k_ald hx hb hK hP 3 0 rfl rfl (i := q) (by omega) (by omega) (by omega) d_As_workOut_29 ?_
  refine k_aald hx hb hK hP 5 1 rfl rfl (i := y) (by omega) (by omega) (by omega) d_As_workOut_30 ?_
  refine lv_astore (lv' := [(5, .ref (ro y)), (4, .ref (ro x)), (3, .ref (ro q)), (0, .ref h), (1, .int (zI ↑q)), (2, .ref tx)]) hx hb d_As_workOut_31 hl (by decide) rfl ?_
  clear hl; intro ls hl
  refine lv_aload_n hx hb d_As_workOut_33 rfl (lv_at hl 3 rfl) ?_
  refine va_get (D := D) (ci := 0) (v := .ref qn) (C := R_As) (T := T_As) (N := 7) hx hb hkw kin_As hown hK hP 0 rfl rfl 3 (by decide) (hkw _ kw_fieldLink_As_21) (fun _ h9 => h9) rfl d_As_workOut_34 ?_
  refine lv_iload_n hx hb d_As_workOut_37 rfl (lv_at hl 4 rfl) ?_
  refine k_ald hx hb hK hP 4 0 rfl rfl (i := q) (by omega) (by omega) (by omega) d_As_workOut_38 ?_
  refine lv_istore (lv' := [(6, .int (zI (↑(nu q)))), (5, .ref (ro y)), (4, .ref (ro x)), (3, .ref (ro q)), (0, .ref h), (1, .int (zI ↑q)), (2, .ref tx)]) hx hb d_As_workOut_39 hl (by decide) rfl ?_
  clear hl; intro ls hl
  refine lv_aload_n hx hb d_As_workOut_41 rfl (lv_at hl 3 rfl) ?_
  refine k_beV (va_runV (As := []) (rest := []) ⟨hx, hb, hml, hown, hkw⟩ (c_Row_empty l D cI cR cG (ro q) (en q) G _) (cwV 0 hkw (k_gV kw_methodLink_As_42 kw_instanceMethod_Ro_empty kw_selects_Ro_empty kw_initialized_Ro kw_code_Ro_empty) rfl rfl rfl (by decide +kernel) ⟨(Nat.le_of_ble_eq_true rfl), (Nat.le_of_ble_eq_true rfl)⟩) (k_preV (q0 := 0) hK hG hP hD [7, 8] rfl rfl rfl rfl) rfl rfl hl.1 rfl (lv_room (Nat.le_of_ble_eq_true rfl)) d_As_workOut_42 ⟨Nat.zero_le _, Nat.zero_le _⟩) hP hD hS hA [7, 8] rfl (Eq.trans (b := [ro q, en q]) rfl rfl) ?_
  clear hP hD hS; intro H locs hP hD hS
  replace hP : va_P D k_cl ([(h, .inr (0, [.ref qk, .ref qf, .ref qs, .ref qn, .ref qr, .int (zI ↑n), .int (zI ↑r)])), (qk, .inl (cI, 30, .inl (kA K))), (qf, .inl (cI, 30, .inl (kA fi))), (qs, .inl (cI, 30, .inl (kA se))), (qn, .inl (cI, 30, .inl (kA nu))), (qr, .inl (cR, 30, .inr (.inr (.inr (.inr (fun i => some (ro i))))))), (tx, .inl (cI, 30, .inl (kA t))), (ro q, .inr (2, [.ref (en q)])), (en q, .inl (cI, 30, .inl (kA e30))), (ro x, .inr (2, [.ref (en x)])), (en x, .inl (cI, 30, .inl (kA a))), (ro y, .inr (2, [.ref (en y)])), (en y, .inl (cI, 30, .inl (kA b)))]) H := hP
  replace hD : va_D A ([(h, .inr (0, [.ref qk, .ref qf, .ref qs, .ref qn, .ref qr, .int (zI ↑n), .int (zI ↑r)])), (qk, .inl (cI, 30, .inl (kA K))), (qf, .inl (cI, 30, .inl (kA fi))), (qs, .inl (cI, 30, .inl (kA se))), (qn, .inl (cI, 30, .inl (kA nu))), (qr, .inl (cR, 30, .inr (.inr (.inr (.inr (fun i => some (ro i))))))), (tx, .inl (cI, 30, .inl (kA t))), (ro q, .inr (2, [.ref (en q)])), (en q, .inl (cI, 30, .inl (kA e30))), (ro x, .inr (2, [.ref (en x)])), (en x, .inl (cI, 30, .inl (kA a))), (ro y, .inr (2, [.ref (en y)])), (en y, .inl (cI, 30, .inl (kA b)))]) := hD
  refine lv_aload_n hx hb d_As_workOut_45 rfl (lv_at hl 4 rfl) ?_
  refine va_get (D := D) (ci := 0) (v := .ref qk) (C := R_As) (T := T_As) (N := 7) hx hb hkw kin_As hown hK hP 0 rfl rfl 0 (by decide) (hkw _ kw_fieldLink_As_9) (fun _ h9 => h9) rfl d_As_workOut_46 ?_
  refine lv_iload_n hx hb d_As_workOut_49 rfl (lv_at hl 5 rfl) ?_
  refine k_ald hx hb hK hP 1 0 rfl rfl (i := q) (by omega) (by omega) (by omega) d_As_workOut_50 ?_
  obtain hc | hc | hc | hc | hc | hc | hc | hc | hc | hc | hc : K q = 0 ∨ K q = 1 ∨ K q = 2 ∨ K q = 3 ∨ K q = 4 ∨ K q = 5 ∨ K q = 6 ∨ K q = 7 ∨ K q = 8 ∨ K q = 9 ∨ K q = 10 := by omega
  · have hn9 := hn0 hc
    refine k_table (v := 0) (tgt := 108) hx hb d_As_workOut_51 (by omega) (by decide) (by decide) rfl (by decide) ?_
    refine lv_aload_n hx hb d_As_workOut_108 rfl (lv_at hl 3 rfl) ?_
    refine lv_iconst (v := zI 1) hx hb d_As_workOut_109 (by decide) ?_
    refine lv_iload hx hb d_As_workOut_110 (lv_at hl 0 rfl) ?_
    refine k_ishl1 (n := (nu q)) hx hb (by omega) d_As_workOut_112 ?_
    refine lv_aload_n hx hb d_As_workOut_113 rfl (lv_at hl 6 rfl) ?_
    refine k_beV (va_runV (As := [.int (zI (↑(2 ^ (nu q)))), .ref tx]) (rest := []) ⟨hx, hb, hml, hown, hkw⟩ (c_Row_addPlacesWith l D cI cR cG (ro q) (en q) tx (2 ^ (nu q)) e30 t (k_p10 hn9) e30_le ht _) (cwV 2 hkw (k_gV kw_methodLink_As_45 kw_instanceMethod_Ro_addPlacesWith kw_selects_Ro_addPlacesWith kw_initialized_Ro kw_code_Ro_addPlacesWith) rfl rfl rfl (by decide +kernel) ⟨(Nat.le_of_ble_eq_true rfl), (Nat.le_of_ble_eq_true rfl)⟩) (k_preV (q0 := 0) hK hG hP hD [7, 8, 6] rfl rfl rfl rfl) rfl rfl hl.1 rfl (lv_room (Nat.le_of_ble_eq_true rfl)) d_As_workOut_114 ⟨Nat.zero_le _, Nat.zero_le _⟩) hP hD hS hA [7, 8, 6] rfl (Eq.trans (b := [ro q, en q, tx]) rfl rfl) ?_
    clear hP hD hS; intro H locs hP hD hS
    replace hP : va_P D k_cl ([(h, .inr (0, [.ref qk, .ref qf, .ref qs, .ref qn, .ref qr, .int (zI ↑n), .int (zI ↑r)])), (qk, .inl (cI, 30, .inl (kA K))), (qf, .inl (cI, 30, .inl (kA fi))), (qs, .inl (cI, 30, .inl (kA se))), (qn, .inl (cI, 30, .inl (kA nu))), (qr, .inl (cR, 30, .inr (.inr (.inr (.inr (fun i => some (ro i))))))), (tx, .inl (cI, 30, .inl (kA t))), (ro q, .inr (2, [.ref (en q)])), (en q, .inl (cI, 30, .inl (kA (rWith t (2 ^ (nu q)) 30 0 e30)))), (ro x, .inr (2, [.ref (en x)])), (en x, .inl (cI, 30, .inl (kA a))), (ro y, .inr (2, [.ref (en y)])), (en y, .inl (cI, 30, .inl (kA b)))]) H := hP
    replace hD : va_D A ([(h, .inr (0, [.ref qk, .ref qf, .ref qs, .ref qn, .ref qr, .int (zI ↑n), .int (zI ↑r)])), (qk, .inl (cI, 30, .inl (kA K))), (qf, .inl (cI, 30, .inl (kA fi))), (qs, .inl (cI, 30, .inl (kA se))), (qn, .inl (cI, 30, .inl (kA nu))), (qr, .inl (cR, 30, .inr (.inr (.inr (.inr (fun i => some (ro i))))))), (tx, .inl (cI, 30, .inl (kA t))), (ro q, .inr (2, [.ref (en q)])), (en q, .inl (cI, 30, .inl (kA (rWith t (2 ^ (nu q)) 30 0 e30)))), (ro x, .inr (2, [.ref (en x)])), (en x, .inl (cI, 30, .inl (kA a))), (ro y, .inr (2, [.ref (en y)])), (en y, .inl (cI, 30, .inl (kA b)))]) := hD
    refine lv_goto (tgt := 255) hx hb d_As_workOut_117 (by decide) ?_
    refine lv_aload_n hx hb d_As_workOut_255 rfl (lv_at hl 3 rfl) ?_
    refine k_beV (va_runV (As := []) (rest := []) ⟨hx, hb, hml, hown, hkw⟩ (c_Row_keepLeast l D cI cR cG (ro q) (en q) (rWith t (2 ^ (nu q)) 30 0 e30) (r_bd_rWith (by omega) e30_le) _) (cwV 0 hkw (k_gV kw_methodLink_As_77 kw_instanceMethod_Ro_keepLeast kw_selects_Ro_keepLeast kw_initialized_Ro kw_code_Ro_keepLeast) rfl rfl rfl (by decide +kernel) ⟨(Nat.le_of_ble_eq_true rfl), (Nat.le_of_ble_eq_true rfl)⟩) (k_preV (q0 := 0) hK hG hP hD [7, 8] rfl rfl rfl rfl) rfl rfl hl.1 rfl (lv_room (Nat.le_of_ble_eq_true rfl)) d_As_workOut_256 ⟨Nat.zero_le _, Nat.zero_le _⟩) hP hD hS hA [7, 8] rfl (Eq.trans (b := [ro q, en q]) rfl rfl) ?_
    clear hP hD hS; intro H locs hP hD hS
    replace hP : va_P D k_cl ([(h, .inr (0, [.ref qk, .ref qf, .ref qs, .ref qn, .ref qr, .int (zI ↑n), .int (zI ↑r)])), (qk, .inl (cI, 30, .inl (kA K))), (qf, .inl (cI, 30, .inl (kA fi))), (qs, .inl (cI, 30, .inl (kA se))), (qn, .inl (cI, 30, .inl (kA nu))), (qr, .inl (cR, 30, .inr (.inr (.inr (.inr (fun i => some (ro i))))))), (tx, .inl (cI, 30, .inl (kA t))), (ro q, .inr (2, [.ref (en q)])), (en q, .inl (cI, 30, .inl (kA (rKL 30 (rWith t (2 ^ (nu q)) 30 0 e30) 30)))), (ro x, .inr (2, [.ref (en x)])), (en x, .inl (cI, 30, .inl (kA a))), (ro y, .inr (2, [.ref (en y)])), (en y, .inl (cI, 30, .inl (kA b)))]) H := hP
    replace hD : va_D A ([(h, .inr (0, [.ref qk, .ref qf, .ref qs, .ref qn, .ref qr, .int (zI ↑n), .int (zI ↑r)])), (qk, .inl (cI, 30, .inl (kA K))), (qf, .inl (cI, 30, .inl (kA fi))), (qs, .inl (cI, 30, .inl (kA se))), (qn, .inl (cI, 30, .inl (kA nu))), (qr, .inl (cR, 30, .inr (.inr (.inr (.inr (fun i => some (ro i))))))), (tx, .inl (cI, 30, .inl (kA t))), (ro q, .inr (2, [.ref (en q)])), (en q, .inl (cI, 30, .inl (kA (rKL 30 (rWith t (2 ^ (nu q)) 30 0 e30) 30)))), (ro x, .inr (2, [.ref (en x)])), (en x, .inl (cI, 30, .inl (kA a))), (ro y, .inr (2, [.ref (en y)])), (en y, .inl (cI, 30, .inl (kA b)))]) := hD
    rw [← hQf]
    have hP : va_P D k_cl [(h, .inr (0, [.ref qk, .ref qf, .ref qs, .ref qn, .ref qr, .int (zI ↑n), .int (zI ↑r)])), (qk, .inl (cI, 30, .inl (kA K))), (qf, .inl (cI, 30, .inl (kA fi))), (qs, .inl (cI, 30, .inl (kA se))), (qn, .inl (cI, 30, .inl (kA nu))), (qr, .inl (cR, 30, .inr (.inr (.inr (.inr (fun i => some (ro i))))))), (tx, .inl (cI, 30, .inl (kA t))), (ro q, .inr (2, [.ref (en q)])), (en q, .inl (cI, 30, .inl (kA (rowVal t (K q) (nu q) a b)))), (ro x, .inr (2, [.ref (en x)])), (en x, .inl (cI, 30, .inl (kA a))), (ro y, .inr (2, [.ref (en y)])), (en y, .inl (cI, 30, .inl (kA b)))] H := by
      rw [show rowVal t (K q) (nu q) a b = rKL 30 (rWith t (2 ^ (nu q)) 30 0 e30) 30 from by rw [hc]; rfl]
      exact hP
    exact k_vret hx hb hr hlocks hP hS d_As_workOut_259
  · refine k_table (v := 1) (tgt := 120) hx hb d_As_workOut_51 (by omega) (by decide) (by decide) rfl (by decide) ?_
    refine lv_aload_n hx hb d_As_workOut_120 rfl (lv_at hl 3 rfl) ?_
    refine lv_aload hx hb d_As_workOut_121 (lv_at hl 2 rfl) ?_
    refine k_beV (va_runV (As := [.ref (ro x)]) (rest := []) ⟨hx, hb, hml, hown, hkw⟩ (c_Row_addAll l D cI cR cG (ro q) (en q) (ro x) (en x) e30 a e30_le ha30 _) (cwV 1 hkw (k_gV kw_methodLink_As_48 kw_instanceMethod_Ro_addAll kw_selects_Ro_addAll kw_initialized_Ro kw_code_Ro_addAll) rfl rfl rfl (by decide +kernel) ⟨(Nat.le_of_ble_eq_true rfl), (Nat.le_of_ble_eq_true rfl)⟩) (k_preV (q0 := 0) hK hG hP hD [7, 8, 9, 10] rfl rfl rfl rfl) rfl rfl hl.1 rfl (lv_room (Nat.le_of_ble_eq_true rfl)) d_As_workOut_123 ⟨Nat.zero_le _, Nat.zero_le _⟩) hP hD hS hA [7, 8, 9, 10] rfl (Eq.trans (b := [ro q, en q, ro x, en x]) rfl rfl) ?_
    clear hP hD hS; intro H locs hP hD hS
    replace hP : va_P D k_cl ([(h, .inr (0, [.ref qk, .ref qf, .ref qs, .ref qn, .ref qr, .int (zI ↑n), .int (zI ↑r)])), (qk, .inl (cI, 30, .inl (kA K))), (qf, .inl (cI, 30, .inl (kA fi))), (qs, .inl (cI, 30, .inl (kA se))), (qn, .inl (cI, 30, .inl (kA nu))), (qr, .inl (cR, 30, .inr (.inr (.inr (.inr (fun i => some (ro i))))))), (tx, .inl (cI, 30, .inl (kA t))), (ro q, .inr (2, [.ref (en q)])), (en q, .inl (cI, 30, .inl (kA (rGrown a 0 30 0 e30)))), (ro x, .inr (2, [.ref (en x)])), (en x, .inl (cI, 30, .inl (kA a))), (ro y, .inr (2, [.ref (en y)])), (en y, .inl (cI, 30, .inl (kA b)))]) H := hP
    replace hD : va_D A ([(h, .inr (0, [.ref qk, .ref qf, .ref qs, .ref qn, .ref qr, .int (zI ↑n), .int (zI ↑r)])), (qk, .inl (cI, 30, .inl (kA K))), (qf, .inl (cI, 30, .inl (kA fi))), (qs, .inl (cI, 30, .inl (kA se))), (qn, .inl (cI, 30, .inl (kA nu))), (qr, .inl (cR, 30, .inr (.inr (.inr (.inr (fun i => some (ro i))))))), (tx, .inl (cI, 30, .inl (kA t))), (ro q, .inr (2, [.ref (en q)])), (en q, .inl (cI, 30, .inl (kA (rGrown a 0 30 0 e30)))), (ro x, .inr (2, [.ref (en x)])), (en x, .inl (cI, 30, .inl (kA a))), (ro y, .inr (2, [.ref (en y)])), (en y, .inl (cI, 30, .inl (kA b)))]) := hD
    refine lv_aload_n hx hb d_As_workOut_126 rfl (lv_at hl 3 rfl) ?_
    refine lv_aload hx hb d_As_workOut_127 (lv_at hl 1 rfl) ?_
    refine k_beV (va_runV (As := [.ref (ro y)]) (rest := []) ⟨hx, hb, hml, hown, hkw⟩ (c_Row_addAll l D cI cR cG (ro q) (en q) (ro y) (en y) (rGrown a 0 30 0 e30) b (r_bd_rGrown e30_le ha30) hb30 _) (cwV 1 hkw (k_gV kw_methodLink_As_48 kw_instanceMethod_Ro_addAll kw_selects_Ro_addAll kw_initialized_Ro kw_code_Ro_addAll) rfl rfl rfl (by decide +kernel) ⟨(Nat.le_of_ble_eq_true rfl), (Nat.le_of_ble_eq_true rfl)⟩) (k_preV (q0 := 0) hK hG hP hD [7, 8, 11, 12] rfl rfl rfl rfl) rfl rfl hl.1 rfl (lv_room (Nat.le_of_ble_eq_true rfl)) d_As_workOut_129 ⟨Nat.zero_le _, Nat.zero_le _⟩) hP hD hS hA [7, 8, 11, 12] rfl (Eq.trans (b := [ro q, en q, ro y, en y]) rfl rfl) ?_
    clear hP hD hS; intro H locs hP hD hS
    replace hP : va_P D k_cl ([(h, .inr (0, [.ref qk, .ref qf, .ref qs, .ref qn, .ref qr, .int (zI ↑n), .int (zI ↑r)])), (qk, .inl (cI, 30, .inl (kA K))), (qf, .inl (cI, 30, .inl (kA fi))), (qs, .inl (cI, 30, .inl (kA se))), (qn, .inl (cI, 30, .inl (kA nu))), (qr, .inl (cR, 30, .inr (.inr (.inr (.inr (fun i => some (ro i))))))), (tx, .inl (cI, 30, .inl (kA t))), (ro q, .inr (2, [.ref (en q)])), (en q, .inl (cI, 30, .inl (kA (rGrown b 0 30 0 (rGrown a 0 30 0 e30))))), (ro x, .inr (2, [.ref (en x)])), (en x, .inl (cI, 30, .inl (kA a))), (ro y, .inr (2, [.ref (en y)])), (en y, .inl (cI, 30, .inl (kA b)))]) H := hP
    replace hD : va_D A ([(h, .inr (0, [.ref qk, .ref qf, .ref qs, .ref qn, .ref qr, .int (zI ↑n), .int (zI ↑r)])), (qk, .inl (cI, 30, .inl (kA K))), (qf, .inl (cI, 30, .inl (kA fi))), (qs, .inl (cI, 30, .inl (kA se))), (qn, .inl (cI, 30, .inl (kA nu))), (qr, .inl (cR, 30, .inr (.inr (.inr (.inr (fun i => some (ro i))))))), (tx, .inl (cI, 30, .inl (kA t))), (ro q, .inr (2, [.ref (en q)])), (en q, .inl (cI, 30, .inl (kA (rGrown b 0 30 0 (rGrown a 0 30 0 e30))))), (ro x, .inr (2, [.ref (en x)])), (en x, .inl (cI, 30, .inl (kA a))), (ro y, .inr (2, [.ref (en y)])), (en y, .inl (cI, 30, .inl (kA b)))]) := hD
    refine lv_goto (tgt := 255) hx hb d_As_workOut_132 (by decide) ?_
    refine lv_aload_n hx hb d_As_workOut_255 rfl (lv_at hl 3 rfl) ?_
    refine k_beV (va_runV (As := []) (rest := []) ⟨hx, hb, hml, hown, hkw⟩ (c_Row_keepLeast l D cI cR cG (ro q) (en q) (rGrown b 0 30 0 (rGrown a 0 30 0 e30)) (r_bd_rGrown (r_bd_rGrown e30_le ha30) hb30) _) (cwV 0 hkw (k_gV kw_methodLink_As_77 kw_instanceMethod_Ro_keepLeast kw_selects_Ro_keepLeast kw_initialized_Ro kw_code_Ro_keepLeast) rfl rfl rfl (by decide +kernel) ⟨(Nat.le_of_ble_eq_true rfl), (Nat.le_of_ble_eq_true rfl)⟩) (k_preV (q0 := 0) hK hG hP hD [7, 8] rfl rfl rfl rfl) rfl rfl hl.1 rfl (lv_room (Nat.le_of_ble_eq_true rfl)) d_As_workOut_256 ⟨Nat.zero_le _, Nat.zero_le _⟩) hP hD hS hA [7, 8] rfl (Eq.trans (b := [ro q, en q]) rfl rfl) ?_
    clear hP hD hS; intro H locs hP hD hS
    replace hP : va_P D k_cl ([(h, .inr (0, [.ref qk, .ref qf, .ref qs, .ref qn, .ref qr, .int (zI ↑n), .int (zI ↑r)])), (qk, .inl (cI, 30, .inl (kA K))), (qf, .inl (cI, 30, .inl (kA fi))), (qs, .inl (cI, 30, .inl (kA se))), (qn, .inl (cI, 30, .inl (kA nu))), (qr, .inl (cR, 30, .inr (.inr (.inr (.inr (fun i => some (ro i))))))), (tx, .inl (cI, 30, .inl (kA t))), (ro q, .inr (2, [.ref (en q)])), (en q, .inl (cI, 30, .inl (kA (rKL 30 (rGrown b 0 30 0 (rGrown a 0 30 0 e30)) 30)))), (ro x, .inr (2, [.ref (en x)])), (en x, .inl (cI, 30, .inl (kA a))), (ro y, .inr (2, [.ref (en y)])), (en y, .inl (cI, 30, .inl (kA b)))]) H := hP
    replace hD : va_D A ([(h, .inr (0, [.ref qk, .ref qf, .ref qs, .ref qn, .ref qr, .int (zI ↑n), .int (zI ↑r)])), (qk, .inl (cI, 30, .inl (kA K))), (qf, .inl (cI, 30, .inl (kA fi))), (qs, .inl (cI, 30, .inl (kA se))), (qn, .inl (cI, 30, .inl (kA nu))), (qr, .inl (cR, 30, .inr (.inr (.inr (.inr (fun i => some (ro i))))))), (tx, .inl (cI, 30, .inl (kA t))), (ro q, .inr (2, [.ref (en q)])), (en q, .inl (cI, 30, .inl (kA (rKL 30 (rGrown b 0 30 0 (rGrown a 0 30 0 e30)) 30)))), (ro x, .inr (2, [.ref (en x)])), (en x, .inl (cI, 30, .inl (kA a))), (ro y, .inr (2, [.ref (en y)])), (en y, .inl (cI, 30, .inl (kA b)))]) := hD
    rw [← hQf]
    have hP : va_P D k_cl [(h, .inr (0, [.ref qk, .ref qf, .ref qs, .ref qn, .ref qr, .int (zI ↑n), .int (zI ↑r)])), (qk, .inl (cI, 30, .inl (kA K))), (qf, .inl (cI, 30, .inl (kA fi))), (qs, .inl (cI, 30, .inl (kA se))), (qn, .inl (cI, 30, .inl (kA nu))), (qr, .inl (cR, 30, .inr (.inr (.inr (.inr (fun i => some (ro i))))))), (tx, .inl (cI, 30, .inl (kA t))), (ro q, .inr (2, [.ref (en q)])), (en q, .inl (cI, 30, .inl (kA (rowVal t (K q) (nu q) a b)))), (ro x, .inr (2, [.ref (en x)])), (en x, .inl (cI, 30, .inl (kA a))), (ro y, .inr (2, [.ref (en y)])), (en y, .inl (cI, 30, .inl (kA b)))] H := by
      rw [show rowVal t (K q) (nu q) a b = rKL 30 (rGrown b 0 30 0 (rGrown a 0 30 0 e30)) 30 from by rw [hc]; rfl]
      exact hP
    exact k_vret hx hb hr hlocks hP hS d_As_workOut_259
  · refine k_table (v := 2) (tgt := 135) hx hb d_As_workOut_51 (by omega) (by decide) (by decide) rfl (by decide) ?_
    refine lv_aload_n hx hb d_As_workOut_135 rfl (lv_at hl 3 rfl) ?_
    refine lv_aload hx hb d_As_workOut_136 (lv_at hl 2 rfl) ?_
    refine lv_aload hx hb d_As_workOut_138 (lv_at hl 1 rfl) ?_
    refine lv_iload hx hb d_As_workOut_140 (lv_at hl 0 rfl) ?_
    refine k_beV (va_runV (As := [.ref (ro x), .ref (ro y), .int (zI (↑(nu q)))]) (rest := []) ⟨hx, hb, hml, hown, hkw⟩ (c_Row_addBehind l D cI cR cG (ro q) (en q) (ro x) (en x) (ro y) (en y) (nu q) e30 a b (by omega) e30_le ha30 hb30 _) (cwV 3 hkw (k_gV kw_methodLink_As_52 kw_instanceMethod_Ro_addBehind kw_selects_Ro_addBehind kw_initialized_Ro kw_code_Ro_addBehind) rfl rfl rfl (by decide +kernel) ⟨(Nat.le_of_ble_eq_true rfl), (Nat.le_of_ble_eq_true rfl)⟩) (k_preV (q0 := 0) hK hG hP hD [7, 8, 9, 10, 11, 12] rfl rfl rfl rfl) rfl rfl hl.1 rfl (lv_room (Nat.le_of_ble_eq_true rfl)) d_As_workOut_142 ⟨Nat.zero_le _, Nat.zero_le _⟩) hP hD hS hA [7, 8, 9, 10, 11, 12] rfl (Eq.trans (b := [ro q, en q, ro x, en x, ro y, en y]) rfl rfl) ?_
    clear hP hD hS; intro H locs hP hD hS
    replace hP : va_P D k_cl ([(h, .inr (0, [.ref qk, .ref qf, .ref qs, .ref qn, .ref qr, .int (zI ↑n), .int (zI ↑r)])), (qk, .inl (cI, 30, .inl (kA K))), (qf, .inl (cI, 30, .inl (kA fi))), (qs, .inl (cI, 30, .inl (kA se))), (qn, .inl (cI, 30, .inl (kA nu))), (qr, .inl (cR, 30, .inr (.inr (.inr (.inr (fun i => some (ro i))))))), (tx, .inl (cI, 30, .inl (kA t))), (ro q, .inr (2, [.ref (en q)])), (en q, .inl (cI, 30, .inl (kA (rBehind a b (nu q) 30 0 e30)))), (ro x, .inr (2, [.ref (en x)])), (en x, .inl (cI, 30, .inl (kA a))), (ro y, .inr (2, [.ref (en y)])), (en y, .inl (cI, 30, .inl (kA b)))]) H := hP
    replace hD : va_D A ([(h, .inr (0, [.ref qk, .ref qf, .ref qs, .ref qn, .ref qr, .int (zI ↑n), .int (zI ↑r)])), (qk, .inl (cI, 30, .inl (kA K))), (qf, .inl (cI, 30, .inl (kA fi))), (qs, .inl (cI, 30, .inl (kA se))), (qn, .inl (cI, 30, .inl (kA nu))), (qr, .inl (cR, 30, .inr (.inr (.inr (.inr (fun i => some (ro i))))))), (tx, .inl (cI, 30, .inl (kA t))), (ro q, .inr (2, [.ref (en q)])), (en q, .inl (cI, 30, .inl (kA (rBehind a b (nu q) 30 0 e30)))), (ro x, .inr (2, [.ref (en x)])), (en x, .inl (cI, 30, .inl (kA a))), (ro y, .inr (2, [.ref (en y)])), (en y, .inl (cI, 30, .inl (kA b)))]) := hD
    refine lv_goto (tgt := 255) hx hb d_As_workOut_145 (by decide) ?_
    refine lv_aload_n hx hb d_As_workOut_255 rfl (lv_at hl 3 rfl) ?_
    refine k_beV (va_runV (As := []) (rest := []) ⟨hx, hb, hml, hown, hkw⟩ (c_Row_keepLeast l D cI cR cG (ro q) (en q) (rBehind a b (nu q) 30 0 e30) (r_bd_rBehind e30_le hb30) _) (cwV 0 hkw (k_gV kw_methodLink_As_77 kw_instanceMethod_Ro_keepLeast kw_selects_Ro_keepLeast kw_initialized_Ro kw_code_Ro_keepLeast) rfl rfl rfl (by decide +kernel) ⟨(Nat.le_of_ble_eq_true rfl), (Nat.le_of_ble_eq_true rfl)⟩) (k_preV (q0 := 0) hK hG hP hD [7, 8] rfl rfl rfl rfl) rfl rfl hl.1 rfl (lv_room (Nat.le_of_ble_eq_true rfl)) d_As_workOut_256 ⟨Nat.zero_le _, Nat.zero_le _⟩) hP hD hS hA [7, 8] rfl (Eq.trans (b := [ro q, en q]) rfl rfl) ?_
    clear hP hD hS; intro H locs hP hD hS
    replace hP : va_P D k_cl ([(h, .inr (0, [.ref qk, .ref qf, .ref qs, .ref qn, .ref qr, .int (zI ↑n), .int (zI ↑r)])), (qk, .inl (cI, 30, .inl (kA K))), (qf, .inl (cI, 30, .inl (kA fi))), (qs, .inl (cI, 30, .inl (kA se))), (qn, .inl (cI, 30, .inl (kA nu))), (qr, .inl (cR, 30, .inr (.inr (.inr (.inr (fun i => some (ro i))))))), (tx, .inl (cI, 30, .inl (kA t))), (ro q, .inr (2, [.ref (en q)])), (en q, .inl (cI, 30, .inl (kA (rKL 30 (rBehind a b (nu q) 30 0 e30) 30)))), (ro x, .inr (2, [.ref (en x)])), (en x, .inl (cI, 30, .inl (kA a))), (ro y, .inr (2, [.ref (en y)])), (en y, .inl (cI, 30, .inl (kA b)))]) H := hP
    replace hD : va_D A ([(h, .inr (0, [.ref qk, .ref qf, .ref qs, .ref qn, .ref qr, .int (zI ↑n), .int (zI ↑r)])), (qk, .inl (cI, 30, .inl (kA K))), (qf, .inl (cI, 30, .inl (kA fi))), (qs, .inl (cI, 30, .inl (kA se))), (qn, .inl (cI, 30, .inl (kA nu))), (qr, .inl (cR, 30, .inr (.inr (.inr (.inr (fun i => some (ro i))))))), (tx, .inl (cI, 30, .inl (kA t))), (ro q, .inr (2, [.ref (en q)])), (en q, .inl (cI, 30, .inl (kA (rKL 30 (rBehind a b (nu q) 30 0 e30) 30)))), (ro x, .inr (2, [.ref (en x)])), (en x, .inl (cI, 30, .inl (kA a))), (ro y, .inr (2, [.ref (en y)])), (en y, .inl (cI, 30, .inl (kA b)))]) := hD
    rw [← hQf]
    have hP : va_P D k_cl [(h, .inr (0, [.ref qk, .ref qf, .ref qs, .ref qn, .ref qr, .int (zI ↑n), .int (zI ↑r)])), (qk, .inl (cI, 30, .inl (kA K))), (qf, .inl (cI, 30, .inl (kA fi))), (qs, .inl (cI, 30, .inl (kA se))), (qn, .inl (cI, 30, .inl (kA nu))), (qr, .inl (cR, 30, .inr (.inr (.inr (.inr (fun i => some (ro i))))))), (tx, .inl (cI, 30, .inl (kA t))), (ro q, .inr (2, [.ref (en q)])), (en q, .inl (cI, 30, .inl (kA (rowVal t (K q) (nu q) a b)))), (ro x, .inr (2, [.ref (en x)])), (en x, .inl (cI, 30, .inl (kA a))), (ro y, .inr (2, [.ref (en y)])), (en y, .inl (cI, 30, .inl (kA b)))] H := by
      rw [show rowVal t (K q) (nu q) a b = rKL 30 (rBehind a b (nu q) 30 0 e30) 30 from by rw [hc]; rfl]
      exact hP
    exact k_vret hx hb hr hlocks hP hS d_As_workOut_259
  · refine k_table (v := 3) (tgt := 148) hx hb d_As_workOut_51 (by omega) (by decide) (by decide) rfl (by decide) ?_
    refine lv_aload_n hx hb d_As_workOut_148 rfl (lv_at hl 3 rfl) ?_
    refine lv_aload hx hb d_As_workOut_149 (lv_at hl 2 rfl) ?_
    refine lv_aload hx hb d_As_workOut_151 (lv_at hl 1 rfl) ?_
    refine lv_iload hx hb d_As_workOut_153 (lv_at hl 0 rfl) ?_
    refine k_beV (va_runV (As := [.ref (ro x), .ref (ro y), .int (zI (↑(nu q)))]) (rest := []) ⟨hx, hb, hml, hown, hkw⟩ (c_Row_addBehind l D cI cR cG (ro q) (en q) (ro x) (en x) (ro y) (en y) (nu q) e30 a b (by omega) e30_le ha30 hb30 _) (cwV 3 hkw (k_gV kw_methodLink_As_52 kw_instanceMethod_Ro_addBehind kw_selects_Ro_addBehind kw_initialized_Ro kw_code_Ro_addBehind) rfl rfl rfl (by decide +kernel) ⟨(Nat.le_of_ble_eq_true rfl), (Nat.le_of_ble_eq_true rfl)⟩) (k_preV (q0 := 0) hK hG hP hD [7, 8, 9, 10, 11, 12] rfl rfl rfl rfl) rfl rfl hl.1 rfl (lv_room (Nat.le_of_ble_eq_true rfl)) d_As_workOut_155 ⟨Nat.zero_le _, Nat.zero_le _⟩) hP hD hS hA [7, 8, 9, 10, 11, 12] rfl (Eq.trans (b := [ro q, en q, ro x, en x, ro y, en y]) rfl rfl) ?_
    clear hP hD hS; intro H locs hP hD hS
    replace hP : va_P D k_cl ([(h, .inr (0, [.ref qk, .ref qf, .ref qs, .ref qn, .ref qr, .int (zI ↑n), .int (zI ↑r)])), (qk, .inl (cI, 30, .inl (kA K))), (qf, .inl (cI, 30, .inl (kA fi))), (qs, .inl (cI, 30, .inl (kA se))), (qn, .inl (cI, 30, .inl (kA nu))), (qr, .inl (cR, 30, .inr (.inr (.inr (.inr (fun i => some (ro i))))))), (tx, .inl (cI, 30, .inl (kA t))), (ro q, .inr (2, [.ref (en q)])), (en q, .inl (cI, 30, .inl (kA (rBehind a b (nu q) 30 0 e30)))), (ro x, .inr (2, [.ref (en x)])), (en x, .inl (cI, 30, .inl (kA a))), (ro y, .inr (2, [.ref (en y)])), (en y, .inl (cI, 30, .inl (kA b)))]) H := hP
    replace hD : va_D A ([(h, .inr (0, [.ref qk, .ref qf, .ref qs, .ref qn, .ref qr, .int (zI ↑n), .int (zI ↑r)])), (qk, .inl (cI, 30, .inl (kA K))), (qf, .inl (cI, 30, .inl (kA fi))), (qs, .inl (cI, 30, .inl (kA se))), (qn, .inl (cI, 30, .inl (kA nu))), (qr, .inl (cR, 30, .inr (.inr (.inr (.inr (fun i => some (ro i))))))), (tx, .inl (cI, 30, .inl (kA t))), (ro q, .inr (2, [.ref (en q)])), (en q, .inl (cI, 30, .inl (kA (rBehind a b (nu q) 30 0 e30)))), (ro x, .inr (2, [.ref (en x)])), (en x, .inl (cI, 30, .inl (kA a))), (ro y, .inr (2, [.ref (en y)])), (en y, .inl (cI, 30, .inl (kA b)))]) := hD
    refine lv_aload_n hx hb d_As_workOut_158 rfl (lv_at hl 3 rfl) ?_
    refine lv_aload hx hb d_As_workOut_159 (lv_at hl 1 rfl) ?_
    refine lv_aload hx hb d_As_workOut_161 (lv_at hl 2 rfl) ?_
    refine lv_iload hx hb d_As_workOut_163 (lv_at hl 0 rfl) ?_
    refine k_beV (va_runV (As := [.ref (ro y), .ref (ro x), .int (zI (↑(nu q)))]) (rest := []) ⟨hx, hb, hml, hown, hkw⟩ (c_Row_addBehind l D cI cR cG (ro q) (en q) (ro y) (en y) (ro x) (en x) (nu q) (rBehind a b (nu q) 30 0 e30) b a (by omega) (r_bd_rBehind e30_le hb30) hb30 ha30 _) (cwV 3 hkw (k_gV kw_methodLink_As_52 kw_instanceMethod_Ro_addBehind kw_selects_Ro_addBehind kw_initialized_Ro kw_code_Ro_addBehind) rfl rfl rfl (by decide +kernel) ⟨(Nat.le_of_ble_eq_true rfl), (Nat.le_of_ble_eq_true rfl)⟩) (k_preV (q0 := 0) hK hG hP hD [7, 8, 11, 12, 9, 10] rfl rfl rfl rfl) rfl rfl hl.1 rfl (lv_room (Nat.le_of_ble_eq_true rfl)) d_As_workOut_165 ⟨Nat.zero_le _, Nat.zero_le _⟩) hP hD hS hA [7, 8, 11, 12, 9, 10] rfl (Eq.trans (b := [ro q, en q, ro y, en y, ro x, en x]) rfl rfl) ?_
    clear hP hD hS; intro H locs hP hD hS
    replace hP : va_P D k_cl ([(h, .inr (0, [.ref qk, .ref qf, .ref qs, .ref qn, .ref qr, .int (zI ↑n), .int (zI ↑r)])), (qk, .inl (cI, 30, .inl (kA K))), (qf, .inl (cI, 30, .inl (kA fi))), (qs, .inl (cI, 30, .inl (kA se))), (qn, .inl (cI, 30, .inl (kA nu))), (qr, .inl (cR, 30, .inr (.inr (.inr (.inr (fun i => some (ro i))))))), (tx, .inl (cI, 30, .inl (kA t))), (ro q, .inr (2, [.ref (en q)])), (en q, .inl (cI, 30, .inl (kA (rBehind b a (nu q) 30 0 (rBehind a b (nu q) 30 0 e30))))), (ro x, .inr (2, [.ref (en x)])), (en x, .inl (cI, 30, .inl (kA a))), (ro y, .inr (2, [.ref (en y)])), (en y, .inl (cI, 30, .inl (kA b)))]) H := hP
    replace hD : va_D A ([(h, .inr (0, [.ref qk, .ref qf, .ref qs, .ref qn, .ref qr, .int (zI ↑n), .int (zI ↑r)])), (qk, .inl (cI, 30, .inl (kA K))), (qf, .inl (cI, 30, .inl (kA fi))), (qs, .inl (cI, 30, .inl (kA se))), (qn, .inl (cI, 30, .inl (kA nu))), (qr, .inl (cR, 30, .inr (.inr (.inr (.inr (fun i => some (ro i))))))), (tx, .inl (cI, 30, .inl (kA t))), (ro q, .inr (2, [.ref (en q)])), (en q, .inl (cI, 30, .inl (kA (rBehind b a (nu q) 30 0 (rBehind a b (nu q) 30 0 e30))))), (ro x, .inr (2, [.ref (en x)])), (en x, .inl (cI, 30, .inl (kA a))), (ro y, .inr (2, [.ref (en y)])), (en y, .inl (cI, 30, .inl (kA b)))]) := hD
    refine lv_goto (tgt := 255) hx hb d_As_workOut_168 (by decide) ?_
    refine lv_aload_n hx hb d_As_workOut_255 rfl (lv_at hl 3 rfl) ?_
    refine k_beV (va_runV (As := []) (rest := []) ⟨hx, hb, hml, hown, hkw⟩ (c_Row_keepLeast l D cI cR cG (ro q) (en q) (rBehind b a (nu q) 30 0 (rBehind a b (nu q) 30 0 e30)) (r_bd_rBehind (r_bd_rBehind e30_le hb30) ha30) _) (cwV 0 hkw (k_gV kw_methodLink_As_77 kw_instanceMethod_Ro_keepLeast kw_selects_Ro_keepLeast kw_initialized_Ro kw_code_Ro_keepLeast) rfl rfl rfl (by decide +kernel) ⟨(Nat.le_of_ble_eq_true rfl), (Nat.le_of_ble_eq_true rfl)⟩) (k_preV (q0 := 0) hK hG hP hD [7, 8] rfl rfl rfl rfl) rfl rfl hl.1 rfl (lv_room (Nat.le_of_ble_eq_true rfl)) d_As_workOut_256 ⟨Nat.zero_le _, Nat.zero_le _⟩) hP hD hS hA [7, 8] rfl (Eq.trans (b := [ro q, en q]) rfl rfl) ?_
    clear hP hD hS; intro H locs hP hD hS
    replace hP : va_P D k_cl ([(h, .inr (0, [.ref qk, .ref qf, .ref qs, .ref qn, .ref qr, .int (zI ↑n), .int (zI ↑r)])), (qk, .inl (cI, 30, .inl (kA K))), (qf, .inl (cI, 30, .inl (kA fi))), (qs, .inl (cI, 30, .inl (kA se))), (qn, .inl (cI, 30, .inl (kA nu))), (qr, .inl (cR, 30, .inr (.inr (.inr (.inr (fun i => some (ro i))))))), (tx, .inl (cI, 30, .inl (kA t))), (ro q, .inr (2, [.ref (en q)])), (en q, .inl (cI, 30, .inl (kA (rKL 30 (rBehind b a (nu q) 30 0 (rBehind a b (nu q) 30 0 e30)) 30)))), (ro x, .inr (2, [.ref (en x)])), (en x, .inl (cI, 30, .inl (kA a))), (ro y, .inr (2, [.ref (en y)])), (en y, .inl (cI, 30, .inl (kA b)))]) H := hP
    replace hD : va_D A ([(h, .inr (0, [.ref qk, .ref qf, .ref qs, .ref qn, .ref qr, .int (zI ↑n), .int (zI ↑r)])), (qk, .inl (cI, 30, .inl (kA K))), (qf, .inl (cI, 30, .inl (kA fi))), (qs, .inl (cI, 30, .inl (kA se))), (qn, .inl (cI, 30, .inl (kA nu))), (qr, .inl (cR, 30, .inr (.inr (.inr (.inr (fun i => some (ro i))))))), (tx, .inl (cI, 30, .inl (kA t))), (ro q, .inr (2, [.ref (en q)])), (en q, .inl (cI, 30, .inl (kA (rKL 30 (rBehind b a (nu q) 30 0 (rBehind a b (nu q) 30 0 e30)) 30)))), (ro x, .inr (2, [.ref (en x)])), (en x, .inl (cI, 30, .inl (kA a))), (ro y, .inr (2, [.ref (en y)])), (en y, .inl (cI, 30, .inl (kA b)))]) := hD
    rw [← hQf]
    have hP : va_P D k_cl [(h, .inr (0, [.ref qk, .ref qf, .ref qs, .ref qn, .ref qr, .int (zI ↑n), .int (zI ↑r)])), (qk, .inl (cI, 30, .inl (kA K))), (qf, .inl (cI, 30, .inl (kA fi))), (qs, .inl (cI, 30, .inl (kA se))), (qn, .inl (cI, 30, .inl (kA nu))), (qr, .inl (cR, 30, .inr (.inr (.inr (.inr (fun i => some (ro i))))))), (tx, .inl (cI, 30, .inl (kA t))), (ro q, .inr (2, [.ref (en q)])), (en q, .inl (cI, 30, .inl (kA (rowVal t (K q) (nu q) a b)))), (ro x, .inr (2, [.ref (en x)])), (en x, .inl (cI, 30, .inl (kA a))), (ro y, .inr (2, [.ref (en y)])), (en y, .inl (cI, 30, .inl (kA b)))] H := by
      rw [show rowVal t (K q) (nu q) a b = rKL 30 (rBehind b a (nu q) 30 0 (rBehind a b (nu q) 30 0 e30)) 30 from by rw [hc]; rfl]
      exact hP
    exact k_vret hx hb hr hlocks hP hS d_As_workOut_259
  · refine k_table (v := 4) (tgt := 171) hx hb d_As_workOut_51 (by omega) (by decide) (by decide) rfl (by decide) ?_
    refine lv_aload_n hx hb d_As_workOut_171 rfl (lv_at hl 3 rfl) ?_
    refine lv_aload hx hb d_As_workOut_172 (lv_at hl 2 rfl) ?_
    refine lv_aload hx hb d_As_workOut_174 (lv_at hl 1 rfl) ?_
    refine lv_iload hx hb d_As_workOut_176 (lv_at hl 0 rfl) ?_
    refine k_beV (va_runV (As := [.ref (ro x), .ref (ro y), .int (zI (↑(nu q)))]) (rest := []) ⟨hx, hb, hml, hown, hkw⟩ (c_Row_addBoth l D cI cR cG (ro q) (en q) (ro x) (en x) (ro y) (en y) (nu q) e30 a b (by omega) e30_le ha30 hb30 _) (cwV 3 hkw (k_gV kw_methodLink_As_56 kw_instanceMethod_Ro_addBoth kw_selects_Ro_addBoth kw_initialized_Ro kw_code_Ro_addBoth) rfl rfl rfl (by decide +kernel) ⟨(Nat.le_of_ble_eq_true rfl), (Nat.le_of_ble_eq_true rfl)⟩) (k_preV (q0 := 0) hK hG hP hD [7, 8, 9, 10, 11, 12] rfl rfl rfl rfl) rfl rfl hl.1 rfl (lv_room (Nat.le_of_ble_eq_true rfl)) d_As_workOut_178 ⟨Nat.zero_le _, Nat.zero_le _⟩) hP hD hS hA [7, 8, 9, 10, 11, 12] rfl (Eq.trans (b := [ro q, en q, ro x, en x, ro y, en y]) rfl rfl) ?_
    clear hP hD hS; intro H locs hP hD hS
    replace hP : va_P D k_cl ([(h, .inr (0, [.ref qk, .ref qf, .ref qs, .ref qn, .ref qr, .int (zI ↑n), .int (zI ↑r)])), (qk, .inl (cI, 30, .inl (kA K))), (qf, .inl (cI, 30, .inl (kA fi))), (qs, .inl (cI, 30, .inl (kA se))), (qn, .inl (cI, 30, .inl (kA nu))), (qr, .inl (cR, 30, .inr (.inr (.inr (.inr (fun i => some (ro i))))))), (tx, .inl (cI, 30, .inl (kA t))), (ro q, .inr (2, [.ref (en q)])), (en q, .inl (cI, 30, .inl (kA (rBoth a b (nu q) 30 0 e30)))), (ro x, .inr (2, [.ref (en x)])), (en x, .inl (cI, 30, .inl (kA a))), (ro y, .inr (2, [.ref (en y)])), (en y, .inl (cI, 30, .inl (kA b)))]) H := hP
    replace hD : va_D A ([(h, .inr (0, [.ref qk, .ref qf, .ref qs, .ref qn, .ref qr, .int (zI ↑n), .int (zI ↑r)])), (qk, .inl (cI, 30, .inl (kA K))), (qf, .inl (cI, 30, .inl (kA fi))), (qs, .inl (cI, 30, .inl (kA se))), (qn, .inl (cI, 30, .inl (kA nu))), (qr, .inl (cR, 30, .inr (.inr (.inr (.inr (fun i => some (ro i))))))), (tx, .inl (cI, 30, .inl (kA t))), (ro q, .inr (2, [.ref (en q)])), (en q, .inl (cI, 30, .inl (kA (rBoth a b (nu q) 30 0 e30)))), (ro x, .inr (2, [.ref (en x)])), (en x, .inl (cI, 30, .inl (kA a))), (ro y, .inr (2, [.ref (en y)])), (en y, .inl (cI, 30, .inl (kA b)))]) := hD
    refine lv_goto (tgt := 255) hx hb d_As_workOut_181 (by decide) ?_
    refine lv_aload_n hx hb d_As_workOut_255 rfl (lv_at hl 3 rfl) ?_
    refine k_beV (va_runV (As := []) (rest := []) ⟨hx, hb, hml, hown, hkw⟩ (c_Row_keepLeast l D cI cR cG (ro q) (en q) (rBoth a b (nu q) 30 0 e30) (r_bd_rBoth e30_le ha30 hb30) _) (cwV 0 hkw (k_gV kw_methodLink_As_77 kw_instanceMethod_Ro_keepLeast kw_selects_Ro_keepLeast kw_initialized_Ro kw_code_Ro_keepLeast) rfl rfl rfl (by decide +kernel) ⟨(Nat.le_of_ble_eq_true rfl), (Nat.le_of_ble_eq_true rfl)⟩) (k_preV (q0 := 0) hK hG hP hD [7, 8] rfl rfl rfl rfl) rfl rfl hl.1 rfl (lv_room (Nat.le_of_ble_eq_true rfl)) d_As_workOut_256 ⟨Nat.zero_le _, Nat.zero_le _⟩) hP hD hS hA [7, 8] rfl (Eq.trans (b := [ro q, en q]) rfl rfl) ?_
    clear hP hD hS; intro H locs hP hD hS
    replace hP : va_P D k_cl ([(h, .inr (0, [.ref qk, .ref qf, .ref qs, .ref qn, .ref qr, .int (zI ↑n), .int (zI ↑r)])), (qk, .inl (cI, 30, .inl (kA K))), (qf, .inl (cI, 30, .inl (kA fi))), (qs, .inl (cI, 30, .inl (kA se))), (qn, .inl (cI, 30, .inl (kA nu))), (qr, .inl (cR, 30, .inr (.inr (.inr (.inr (fun i => some (ro i))))))), (tx, .inl (cI, 30, .inl (kA t))), (ro q, .inr (2, [.ref (en q)])), (en q, .inl (cI, 30, .inl (kA (rKL 30 (rBoth a b (nu q) 30 0 e30) 30)))), (ro x, .inr (2, [.ref (en x)])), (en x, .inl (cI, 30, .inl (kA a))), (ro y, .inr (2, [.ref (en y)])), (en y, .inl (cI, 30, .inl (kA b)))]) H := hP
    replace hD : va_D A ([(h, .inr (0, [.ref qk, .ref qf, .ref qs, .ref qn, .ref qr, .int (zI ↑n), .int (zI ↑r)])), (qk, .inl (cI, 30, .inl (kA K))), (qf, .inl (cI, 30, .inl (kA fi))), (qs, .inl (cI, 30, .inl (kA se))), (qn, .inl (cI, 30, .inl (kA nu))), (qr, .inl (cR, 30, .inr (.inr (.inr (.inr (fun i => some (ro i))))))), (tx, .inl (cI, 30, .inl (kA t))), (ro q, .inr (2, [.ref (en q)])), (en q, .inl (cI, 30, .inl (kA (rKL 30 (rBoth a b (nu q) 30 0 e30) 30)))), (ro x, .inr (2, [.ref (en x)])), (en x, .inl (cI, 30, .inl (kA a))), (ro y, .inr (2, [.ref (en y)])), (en y, .inl (cI, 30, .inl (kA b)))]) := hD
    rw [← hQf]
    have hP : va_P D k_cl [(h, .inr (0, [.ref qk, .ref qf, .ref qs, .ref qn, .ref qr, .int (zI ↑n), .int (zI ↑r)])), (qk, .inl (cI, 30, .inl (kA K))), (qf, .inl (cI, 30, .inl (kA fi))), (qs, .inl (cI, 30, .inl (kA se))), (qn, .inl (cI, 30, .inl (kA nu))), (qr, .inl (cR, 30, .inr (.inr (.inr (.inr (fun i => some (ro i))))))), (tx, .inl (cI, 30, .inl (kA t))), (ro q, .inr (2, [.ref (en q)])), (en q, .inl (cI, 30, .inl (kA (rowVal t (K q) (nu q) a b)))), (ro x, .inr (2, [.ref (en x)])), (en x, .inl (cI, 30, .inl (kA a))), (ro y, .inr (2, [.ref (en y)])), (en y, .inl (cI, 30, .inl (kA b)))] H := by
      rw [show rowVal t (K q) (nu q) a b = rKL 30 (rBoth a b (nu q) 30 0 e30) 30 from by rw [hc]; rfl]
      exact hP
    exact k_vret hx hb hr hlocks hP hS d_As_workOut_259
  · refine k_table (v := 5) (tgt := 184) hx hb d_As_workOut_51 (by omega) (by decide) (by decide) rfl (by decide) ?_
    refine lv_aload_n hx hb d_As_workOut_184 rfl (lv_at hl 3 rfl) ?_
    refine lv_aload hx hb d_As_workOut_185 (lv_at hl 2 rfl) ?_
    refine lv_aload hx hb d_As_workOut_187 (lv_at hl 1 rfl) ?_
    refine k_beV (va_runV (As := [.ref (ro x), .ref (ro y)]) (rest := []) ⟨hx, hb, hml, hown, hkw⟩ (c_Row_addHolding l D cI cR cG (ro q) (en q) (ro x) (en x) (ro y) (en y) e30 a b e30_le ha30 hb30 _) (cwV 2 hkw (k_gV kw_methodLink_As_59 kw_instanceMethod_Ro_addHolding kw_selects_Ro_addHolding kw_initialized_Ro kw_code_Ro_addHolding) rfl rfl rfl (by decide +kernel) ⟨(Nat.le_of_ble_eq_true rfl), (Nat.le_of_ble_eq_true rfl)⟩) (k_preV (q0 := 0) hK hG hP hD [7, 8, 9, 10, 11, 12] rfl rfl rfl rfl) rfl rfl hl.1 rfl (lv_room (Nat.le_of_ble_eq_true rfl)) d_As_workOut_189 ⟨Nat.zero_le _, Nat.zero_le _⟩) hP hD hS hA [7, 8, 9, 10, 11, 12] rfl (Eq.trans (b := [ro q, en q, ro x, en x, ro y, en y]) rfl rfl) ?_
    clear hP hD hS; intro H locs hP hD hS
    replace hP : va_P D k_cl ([(h, .inr (0, [.ref qk, .ref qf, .ref qs, .ref qn, .ref qr, .int (zI ↑n), .int (zI ↑r)])), (qk, .inl (cI, 30, .inl (kA K))), (qf, .inl (cI, 30, .inl (kA fi))), (qs, .inl (cI, 30, .inl (kA se))), (qn, .inl (cI, 30, .inl (kA nu))), (qr, .inl (cR, 30, .inr (.inr (.inr (.inr (fun i => some (ro i))))))), (tx, .inl (cI, 30, .inl (kA t))), (ro q, .inr (2, [.ref (en q)])), (en q, .inl (cI, 30, .inl (kA (rHolding a b 30 0 e30)))), (ro x, .inr (2, [.ref (en x)])), (en x, .inl (cI, 30, .inl (kA a))), (ro y, .inr (2, [.ref (en y)])), (en y, .inl (cI, 30, .inl (kA b)))]) H := hP
    replace hD : va_D A ([(h, .inr (0, [.ref qk, .ref qf, .ref qs, .ref qn, .ref qr, .int (zI ↑n), .int (zI ↑r)])), (qk, .inl (cI, 30, .inl (kA K))), (qf, .inl (cI, 30, .inl (kA fi))), (qs, .inl (cI, 30, .inl (kA se))), (qn, .inl (cI, 30, .inl (kA nu))), (qr, .inl (cR, 30, .inr (.inr (.inr (.inr (fun i => some (ro i))))))), (tx, .inl (cI, 30, .inl (kA t))), (ro q, .inr (2, [.ref (en q)])), (en q, .inl (cI, 30, .inl (kA (rHolding a b 30 0 e30)))), (ro x, .inr (2, [.ref (en x)])), (en x, .inl (cI, 30, .inl (kA a))), (ro y, .inr (2, [.ref (en y)])), (en y, .inl (cI, 30, .inl (kA b)))]) := hD
    refine lv_goto (tgt := 255) hx hb d_As_workOut_192 (by decide) ?_
    refine lv_aload_n hx hb d_As_workOut_255 rfl (lv_at hl 3 rfl) ?_
    refine k_beV (va_runV (As := []) (rest := []) ⟨hx, hb, hml, hown, hkw⟩ (c_Row_keepLeast l D cI cR cG (ro q) (en q) (rHolding a b 30 0 e30) (r_bd_rHolding e30_le ha30) _) (cwV 0 hkw (k_gV kw_methodLink_As_77 kw_instanceMethod_Ro_keepLeast kw_selects_Ro_keepLeast kw_initialized_Ro kw_code_Ro_keepLeast) rfl rfl rfl (by decide +kernel) ⟨(Nat.le_of_ble_eq_true rfl), (Nat.le_of_ble_eq_true rfl)⟩) (k_preV (q0 := 0) hK hG hP hD [7, 8] rfl rfl rfl rfl) rfl rfl hl.1 rfl (lv_room (Nat.le_of_ble_eq_true rfl)) d_As_workOut_256 ⟨Nat.zero_le _, Nat.zero_le _⟩) hP hD hS hA [7, 8] rfl (Eq.trans (b := [ro q, en q]) rfl rfl) ?_
    clear hP hD hS; intro H locs hP hD hS
    replace hP : va_P D k_cl ([(h, .inr (0, [.ref qk, .ref qf, .ref qs, .ref qn, .ref qr, .int (zI ↑n), .int (zI ↑r)])), (qk, .inl (cI, 30, .inl (kA K))), (qf, .inl (cI, 30, .inl (kA fi))), (qs, .inl (cI, 30, .inl (kA se))), (qn, .inl (cI, 30, .inl (kA nu))), (qr, .inl (cR, 30, .inr (.inr (.inr (.inr (fun i => some (ro i))))))), (tx, .inl (cI, 30, .inl (kA t))), (ro q, .inr (2, [.ref (en q)])), (en q, .inl (cI, 30, .inl (kA (rKL 30 (rHolding a b 30 0 e30) 30)))), (ro x, .inr (2, [.ref (en x)])), (en x, .inl (cI, 30, .inl (kA a))), (ro y, .inr (2, [.ref (en y)])), (en y, .inl (cI, 30, .inl (kA b)))]) H := hP
    replace hD : va_D A ([(h, .inr (0, [.ref qk, .ref qf, .ref qs, .ref qn, .ref qr, .int (zI ↑n), .int (zI ↑r)])), (qk, .inl (cI, 30, .inl (kA K))), (qf, .inl (cI, 30, .inl (kA fi))), (qs, .inl (cI, 30, .inl (kA se))), (qn, .inl (cI, 30, .inl (kA nu))), (qr, .inl (cR, 30, .inr (.inr (.inr (.inr (fun i => some (ro i))))))), (tx, .inl (cI, 30, .inl (kA t))), (ro q, .inr (2, [.ref (en q)])), (en q, .inl (cI, 30, .inl (kA (rKL 30 (rHolding a b 30 0 e30) 30)))), (ro x, .inr (2, [.ref (en x)])), (en x, .inl (cI, 30, .inl (kA a))), (ro y, .inr (2, [.ref (en y)])), (en y, .inl (cI, 30, .inl (kA b)))]) := hD
    rw [← hQf]
    have hP : va_P D k_cl [(h, .inr (0, [.ref qk, .ref qf, .ref qs, .ref qn, .ref qr, .int (zI ↑n), .int (zI ↑r)])), (qk, .inl (cI, 30, .inl (kA K))), (qf, .inl (cI, 30, .inl (kA fi))), (qs, .inl (cI, 30, .inl (kA se))), (qn, .inl (cI, 30, .inl (kA nu))), (qr, .inl (cR, 30, .inr (.inr (.inr (.inr (fun i => some (ro i))))))), (tx, .inl (cI, 30, .inl (kA t))), (ro q, .inr (2, [.ref (en q)])), (en q, .inl (cI, 30, .inl (kA (rowVal t (K q) (nu q) a b)))), (ro x, .inr (2, [.ref (en x)])), (en x, .inl (cI, 30, .inl (kA a))), (ro y, .inr (2, [.ref (en y)])), (en y, .inl (cI, 30, .inl (kA b)))] H := by
      rw [show rowVal t (K q) (nu q) a b = rKL 30 (rHolding a b 30 0 e30) 30 from by rw [hc]; rfl]
      exact hP
    exact k_vret hx hb hr hlocks hP hS d_As_workOut_259
  · refine k_table (v := 6) (tgt := 195) hx hb d_As_workOut_51 (by omega) (by decide) (by decide) rfl (by decide) ?_
    refine lv_aload_n hx hb d_As_workOut_195 rfl (lv_at hl 3 rfl) ?_
    refine lv_aload hx hb d_As_workOut_196 (lv_at hl 2 rfl) ?_
    refine lv_aload hx hb d_As_workOut_198 (lv_at hl 1 rfl) ?_
    refine k_beV (va_runV (As := [.ref (ro x), .ref (ro y)]) (rest := []) ⟨hx, hb, hml, hown, hkw⟩ (c_Row_addIn l D cI cR cG (ro q) (en q) (ro x) (en x) (ro y) (en y) e30 a b e30_le ha30 hb30 _) (cwV 2 hkw (k_gV kw_methodLink_As_63 kw_instanceMethod_Ro_addIn kw_selects_Ro_addIn kw_initialized_Ro kw_code_Ro_addIn) rfl rfl rfl (by decide +kernel) ⟨(Nat.le_of_ble_eq_true rfl), (Nat.le_of_ble_eq_true rfl)⟩) (k_preV (q0 := 0) hK hG hP hD [7, 8, 9, 10, 11, 12] rfl rfl rfl rfl) rfl rfl hl.1 rfl (lv_room (Nat.le_of_ble_eq_true rfl)) d_As_workOut_200 ⟨Nat.zero_le _, Nat.zero_le _⟩) hP hD hS hA [7, 8, 9, 10, 11, 12] rfl (Eq.trans (b := [ro q, en q, ro x, en x, ro y, en y]) rfl rfl) ?_
    clear hP hD hS; intro H locs hP hD hS
    replace hP : va_P D k_cl ([(h, .inr (0, [.ref qk, .ref qf, .ref qs, .ref qn, .ref qr, .int (zI ↑n), .int (zI ↑r)])), (qk, .inl (cI, 30, .inl (kA K))), (qf, .inl (cI, 30, .inl (kA fi))), (qs, .inl (cI, 30, .inl (kA se))), (qn, .inl (cI, 30, .inl (kA nu))), (qr, .inl (cR, 30, .inr (.inr (.inr (.inr (fun i => some (ro i))))))), (tx, .inl (cI, 30, .inl (kA t))), (ro q, .inr (2, [.ref (en q)])), (en q, .inl (cI, 30, .inl (kA (rIn a b 30 0 e30)))), (ro x, .inr (2, [.ref (en x)])), (en x, .inl (cI, 30, .inl (kA a))), (ro y, .inr (2, [.ref (en y)])), (en y, .inl (cI, 30, .inl (kA b)))]) H := hP
    replace hD : va_D A ([(h, .inr (0, [.ref qk, .ref qf, .ref qs, .ref qn, .ref qr, .int (zI ↑n), .int (zI ↑r)])), (qk, .inl (cI, 30, .inl (kA K))), (qf, .inl (cI, 30, .inl (kA fi))), (qs, .inl (cI, 30, .inl (kA se))), (qn, .inl (cI, 30, .inl (kA nu))), (qr, .inl (cR, 30, .inr (.inr (.inr (.inr (fun i => some (ro i))))))), (tx, .inl (cI, 30, .inl (kA t))), (ro q, .inr (2, [.ref (en q)])), (en q, .inl (cI, 30, .inl (kA (rIn a b 30 0 e30)))), (ro x, .inr (2, [.ref (en x)])), (en x, .inl (cI, 30, .inl (kA a))), (ro y, .inr (2, [.ref (en y)])), (en y, .inl (cI, 30, .inl (kA b)))]) := hD
    refine lv_goto (tgt := 255) hx hb d_As_workOut_203 (by decide) ?_
    refine lv_aload_n hx hb d_As_workOut_255 rfl (lv_at hl 3 rfl) ?_
    refine k_beV (va_runV (As := []) (rest := []) ⟨hx, hb, hml, hown, hkw⟩ (c_Row_keepLeast l D cI cR cG (ro q) (en q) (rIn a b 30 0 e30) (r_bd_rIn e30_le ha30) _) (cwV 0 hkw (k_gV kw_methodLink_As_77 kw_instanceMethod_Ro_keepLeast kw_selects_Ro_keepLeast kw_initialized_Ro kw_code_Ro_keepLeast) rfl rfl rfl (by decide +kernel) ⟨(Nat.le_of_ble_eq_true rfl), (Nat.le_of_ble_eq_true rfl)⟩) (k_preV (q0 := 0) hK hG hP hD [7, 8] rfl rfl rfl rfl) rfl rfl hl.1 rfl (lv_room (Nat.le_of_ble_eq_true rfl)) d_As_workOut_256 ⟨Nat.zero_le _, Nat.zero_le _⟩) hP hD hS hA [7, 8] rfl (Eq.trans (b := [ro q, en q]) rfl rfl) ?_
    clear hP hD hS; intro H locs hP hD hS
    replace hP : va_P D k_cl ([(h, .inr (0, [.ref qk, .ref qf, .ref qs, .ref qn, .ref qr, .int (zI ↑n), .int (zI ↑r)])), (qk, .inl (cI, 30, .inl (kA K))), (qf, .inl (cI, 30, .inl (kA fi))), (qs, .inl (cI, 30, .inl (kA se))), (qn, .inl (cI, 30, .inl (kA nu))), (qr, .inl (cR, 30, .inr (.inr (.inr (.inr (fun i => some (ro i))))))), (tx, .inl (cI, 30, .inl (kA t))), (ro q, .inr (2, [.ref (en q)])), (en q, .inl (cI, 30, .inl (kA (rKL 30 (rIn a b 30 0 e30) 30)))), (ro x, .inr (2, [.ref (en x)])), (en x, .inl (cI, 30, .inl (kA a))), (ro y, .inr (2, [.ref (en y)])), (en y, .inl (cI, 30, .inl (kA b)))]) H := hP
    replace hD : va_D A ([(h, .inr (0, [.ref qk, .ref qf, .ref qs, .ref qn, .ref qr, .int (zI ↑n), .int (zI ↑r)])), (qk, .inl (cI, 30, .inl (kA K))), (qf, .inl (cI, 30, .inl (kA fi))), (qs, .inl (cI, 30, .inl (kA se))), (qn, .inl (cI, 30, .inl (kA nu))), (qr, .inl (cR, 30, .inr (.inr (.inr (.inr (fun i => some (ro i))))))), (tx, .inl (cI, 30, .inl (kA t))), (ro q, .inr (2, [.ref (en q)])), (en q, .inl (cI, 30, .inl (kA (rKL 30 (rIn a b 30 0 e30) 30)))), (ro x, .inr (2, [.ref (en x)])), (en x, .inl (cI, 30, .inl (kA a))), (ro y, .inr (2, [.ref (en y)])), (en y, .inl (cI, 30, .inl (kA b)))]) := hD
    rw [← hQf]
    have hP : va_P D k_cl [(h, .inr (0, [.ref qk, .ref qf, .ref qs, .ref qn, .ref qr, .int (zI ↑n), .int (zI ↑r)])), (qk, .inl (cI, 30, .inl (kA K))), (qf, .inl (cI, 30, .inl (kA fi))), (qs, .inl (cI, 30, .inl (kA se))), (qn, .inl (cI, 30, .inl (kA nu))), (qr, .inl (cR, 30, .inr (.inr (.inr (.inr (fun i => some (ro i))))))), (tx, .inl (cI, 30, .inl (kA t))), (ro q, .inr (2, [.ref (en q)])), (en q, .inl (cI, 30, .inl (kA (rowVal t (K q) (nu q) a b)))), (ro x, .inr (2, [.ref (en x)])), (en x, .inl (cI, 30, .inl (kA a))), (ro y, .inr (2, [.ref (en y)])), (en y, .inl (cI, 30, .inl (kA b)))] H := by
      rw [show rowVal t (K q) (nu q) a b = rKL 30 (rIn a b 30 0 e30) 30 from by rw [hc]; rfl]
      exact hP
    exact k_vret hx hb hr hlocks hP hS d_As_workOut_259
  · refine k_table (v := 7) (tgt := 206) hx hb d_As_workOut_51 (by omega) (by decide) (by decide) rfl (by decide) ?_
    refine lv_aload_n hx hb d_As_workOut_206 rfl (lv_at hl 3 rfl) ?_
    refine lv_aload hx hb d_As_workOut_207 (lv_at hl 2 rfl) ?_
    refine lv_aload hx hb d_As_workOut_209 (lv_at hl 1 rfl) ?_
    refine lv_iconst (v := zI (-1)) hx hb d_As_workOut_211 (by decide) ?_
    refine lv_iconst (v := zI 1) hx hb d_As_workOut_212 (by decide) ?_
    refine k_stk (st2 := [.int (k_b (true = true)), .int (zI (-1)), .ref (ro y), .ref (ro x), .ref (ro q)]) (by rw [k_tt]) ?_
    refine k_beV (va_runV (As := [.ref (ro x), .ref (ro y), .int (zI (-1)), .int (k_b (true = true))]) (rest := []) ⟨hx, hb, hml, hown, hkw⟩ (c_Row_addByNearness l D cI cR cG (ro q) (en q) (ro x) (en x) (ro y) (en y) (-1) true e30 a b (by omega) e30_le ha30 hb30 _) (cwV 4 hkw (k_gV kw_methodLink_As_66 kw_instanceMethod_Ro_addByNearness kw_selects_Ro_addByNearness kw_initialized_Ro kw_code_Ro_addByNearness) rfl rfl rfl (by decide +kernel) ⟨(Nat.le_of_ble_eq_true rfl), (Nat.le_of_ble_eq_true rfl)⟩) (k_preV (q0 := 0) hK hG hP hD [7, 8, 9, 10, 11, 12] rfl rfl rfl rfl) rfl rfl hl.1 rfl (lv_room (Nat.le_of_ble_eq_true rfl)) d_As_workOut_213 ⟨Nat.zero_le _, Nat.zero_le _⟩) hP hD hS hA [7, 8, 9, 10, 11, 12] rfl (Eq.trans (b := [ro q, en q, ro x, en x, ro y, en y]) rfl rfl) ?_
    clear hP hD hS; intro H locs hP hD hS
    replace hP : va_P D k_cl ([(h, .inr (0, [.ref qk, .ref qf, .ref qs, .ref qn, .ref qr, .int (zI ↑n), .int (zI ↑r)])), (qk, .inl (cI, 30, .inl (kA K))), (qf, .inl (cI, 30, .inl (kA fi))), (qs, .inl (cI, 30, .inl (kA se))), (qn, .inl (cI, 30, .inl (kA nu))), (qr, .inl (cR, 30, .inr (.inr (.inr (.inr (fun i => some (ro i))))))), (tx, .inl (cI, 30, .inl (kA t))), (ro q, .inr (2, [.ref (en q)])), (en q, .inl (cI, 30, .inl (kA (rNear a b (-1) true 30 0 e30)))), (ro x, .inr (2, [.ref (en x)])), (en x, .inl (cI, 30, .inl (kA a))), (ro y, .inr (2, [.ref (en y)])), (en y, .inl (cI, 30, .inl (kA b)))]) H := hP
    replace hD : va_D A ([(h, .inr (0, [.ref qk, .ref qf, .ref qs, .ref qn, .ref qr, .int (zI ↑n), .int (zI ↑r)])), (qk, .inl (cI, 30, .inl (kA K))), (qf, .inl (cI, 30, .inl (kA fi))), (qs, .inl (cI, 30, .inl (kA se))), (qn, .inl (cI, 30, .inl (kA nu))), (qr, .inl (cR, 30, .inr (.inr (.inr (.inr (fun i => some (ro i))))))), (tx, .inl (cI, 30, .inl (kA t))), (ro q, .inr (2, [.ref (en q)])), (en q, .inl (cI, 30, .inl (kA (rNear a b (-1) true 30 0 e30)))), (ro x, .inr (2, [.ref (en x)])), (en x, .inl (cI, 30, .inl (kA a))), (ro y, .inr (2, [.ref (en y)])), (en y, .inl (cI, 30, .inl (kA b)))]) := hD
    refine lv_goto (tgt := 255) hx hb d_As_workOut_216 (by decide) ?_
    refine lv_aload_n hx hb d_As_workOut_255 rfl (lv_at hl 3 rfl) ?_
    refine k_beV (va_runV (As := []) (rest := []) ⟨hx, hb, hml, hown, hkw⟩ (c_Row_keepLeast l D cI cR cG (ro q) (en q) (rNear a b (-1) true 30 0 e30) (r_bd_rNear e30_le ha30) _) (cwV 0 hkw (k_gV kw_methodLink_As_77 kw_instanceMethod_Ro_keepLeast kw_selects_Ro_keepLeast kw_initialized_Ro kw_code_Ro_keepLeast) rfl rfl rfl (by decide +kernel) ⟨(Nat.le_of_ble_eq_true rfl), (Nat.le_of_ble_eq_true rfl)⟩) (k_preV (q0 := 0) hK hG hP hD [7, 8] rfl rfl rfl rfl) rfl rfl hl.1 rfl (lv_room (Nat.le_of_ble_eq_true rfl)) d_As_workOut_256 ⟨Nat.zero_le _, Nat.zero_le _⟩) hP hD hS hA [7, 8] rfl (Eq.trans (b := [ro q, en q]) rfl rfl) ?_
    clear hP hD hS; intro H locs hP hD hS
    replace hP : va_P D k_cl ([(h, .inr (0, [.ref qk, .ref qf, .ref qs, .ref qn, .ref qr, .int (zI ↑n), .int (zI ↑r)])), (qk, .inl (cI, 30, .inl (kA K))), (qf, .inl (cI, 30, .inl (kA fi))), (qs, .inl (cI, 30, .inl (kA se))), (qn, .inl (cI, 30, .inl (kA nu))), (qr, .inl (cR, 30, .inr (.inr (.inr (.inr (fun i => some (ro i))))))), (tx, .inl (cI, 30, .inl (kA t))), (ro q, .inr (2, [.ref (en q)])), (en q, .inl (cI, 30, .inl (kA (rKL 30 (rNear a b (-1) true 30 0 e30) 30)))), (ro x, .inr (2, [.ref (en x)])), (en x, .inl (cI, 30, .inl (kA a))), (ro y, .inr (2, [.ref (en y)])), (en y, .inl (cI, 30, .inl (kA b)))]) H := hP
    replace hD : va_D A ([(h, .inr (0, [.ref qk, .ref qf, .ref qs, .ref qn, .ref qr, .int (zI ↑n), .int (zI ↑r)])), (qk, .inl (cI, 30, .inl (kA K))), (qf, .inl (cI, 30, .inl (kA fi))), (qs, .inl (cI, 30, .inl (kA se))), (qn, .inl (cI, 30, .inl (kA nu))), (qr, .inl (cR, 30, .inr (.inr (.inr (.inr (fun i => some (ro i))))))), (tx, .inl (cI, 30, .inl (kA t))), (ro q, .inr (2, [.ref (en q)])), (en q, .inl (cI, 30, .inl (kA (rKL 30 (rNear a b (-1) true 30 0 e30) 30)))), (ro x, .inr (2, [.ref (en x)])), (en x, .inl (cI, 30, .inl (kA a))), (ro y, .inr (2, [.ref (en y)])), (en y, .inl (cI, 30, .inl (kA b)))]) := hD
    rw [← hQf]
    have hP : va_P D k_cl [(h, .inr (0, [.ref qk, .ref qf, .ref qs, .ref qn, .ref qr, .int (zI ↑n), .int (zI ↑r)])), (qk, .inl (cI, 30, .inl (kA K))), (qf, .inl (cI, 30, .inl (kA fi))), (qs, .inl (cI, 30, .inl (kA se))), (qn, .inl (cI, 30, .inl (kA nu))), (qr, .inl (cR, 30, .inr (.inr (.inr (.inr (fun i => some (ro i))))))), (tx, .inl (cI, 30, .inl (kA t))), (ro q, .inr (2, [.ref (en q)])), (en q, .inl (cI, 30, .inl (kA (rowVal t (K q) (nu q) a b)))), (ro x, .inr (2, [.ref (en x)])), (en x, .inl (cI, 30, .inl (kA a))), (ro y, .inr (2, [.ref (en y)])), (en y, .inl (cI, 30, .inl (kA b)))] H := by
      rw [show rowVal t (K q) (nu q) a b = rKL 30 (rNear a b (-1) true 30 0 e30) 30 from by rw [hc]; rfl]
      exact hP
    exact k_vret hx hb hr hlocks hP hS d_As_workOut_259
  · refine k_table (v := 8) (tgt := 219) hx hb d_As_workOut_51 (by omega) (by decide) (by decide) rfl (by decide) ?_
    refine lv_aload_n hx hb d_As_workOut_219 rfl (lv_at hl 3 rfl) ?_
    refine lv_aload hx hb d_As_workOut_220 (lv_at hl 2 rfl) ?_
    refine lv_aload hx hb d_As_workOut_222 (lv_at hl 1 rfl) ?_
    refine lv_iload hx hb d_As_workOut_224 (lv_at hl 0 rfl) ?_
    refine lv_iconst (v := zI 0) hx hb d_As_workOut_226 (by decide) ?_
    refine k_stk (st2 := [.int (k_b (false = true)), .int (zI (↑(nu q))), .ref (ro y), .ref (ro x), .ref (ro q)]) (by rw [k_ff]) ?_
    refine k_beV (va_runV (As := [.ref (ro x), .ref (ro y), .int (zI (↑(nu q))), .int (k_b (false = true))]) (rest := []) ⟨hx, hb, hml, hown, hkw⟩ (c_Row_addByNearness l D cI cR cG (ro q) (en q) (ro x) (en x) (ro y) (en y) (↑(nu q)) false e30 a b (by omega) e30_le ha30 hb30 _) (cwV 4 hkw (k_gV kw_methodLink_As_66 kw_instanceMethod_Ro_addByNearness kw_selects_Ro_addByNearness kw_initialized_Ro kw_code_Ro_addByNearness) rfl rfl rfl (by decide +kernel) ⟨(Nat.le_of_ble_eq_true rfl), (Nat.le_of_ble_eq_true rfl)⟩) (k_preV (q0 := 0) hK hG hP hD [7, 8, 9, 10, 11, 12] rfl rfl rfl rfl) rfl rfl hl.1 rfl (lv_room (Nat.le_of_ble_eq_true rfl)) d_As_workOut_227 ⟨Nat.zero_le _, Nat.zero_le _⟩) hP hD hS hA [7, 8, 9, 10, 11, 12] rfl (Eq.trans (b := [ro q, en q, ro x, en x, ro y, en y]) rfl rfl) ?_
    clear hP hD hS; intro H locs hP hD hS
    replace hP : va_P D k_cl ([(h, .inr (0, [.ref qk, .ref qf, .ref qs, .ref qn, .ref qr, .int (zI ↑n), .int (zI ↑r)])), (qk, .inl (cI, 30, .inl (kA K))), (qf, .inl (cI, 30, .inl (kA fi))), (qs, .inl (cI, 30, .inl (kA se))), (qn, .inl (cI, 30, .inl (kA nu))), (qr, .inl (cR, 30, .inr (.inr (.inr (.inr (fun i => some (ro i))))))), (tx, .inl (cI, 30, .inl (kA t))), (ro q, .inr (2, [.ref (en q)])), (en q, .inl (cI, 30, .inl (kA (rNear a b (↑(nu q)) false 30 0 e30)))), (ro x, .inr (2, [.ref (en x)])), (en x, .inl (cI, 30, .inl (kA a))), (ro y, .inr (2, [.ref (en y)])), (en y, .inl (cI, 30, .inl (kA b)))]) H := hP
    replace hD : va_D A ([(h, .inr (0, [.ref qk, .ref qf, .ref qs, .ref qn, .ref qr, .int (zI ↑n), .int (zI ↑r)])), (qk, .inl (cI, 30, .inl (kA K))), (qf, .inl (cI, 30, .inl (kA fi))), (qs, .inl (cI, 30, .inl (kA se))), (qn, .inl (cI, 30, .inl (kA nu))), (qr, .inl (cR, 30, .inr (.inr (.inr (.inr (fun i => some (ro i))))))), (tx, .inl (cI, 30, .inl (kA t))), (ro q, .inr (2, [.ref (en q)])), (en q, .inl (cI, 30, .inl (kA (rNear a b (↑(nu q)) false 30 0 e30)))), (ro x, .inr (2, [.ref (en x)])), (en x, .inl (cI, 30, .inl (kA a))), (ro y, .inr (2, [.ref (en y)])), (en y, .inl (cI, 30, .inl (kA b)))]) := hD
    refine lv_goto (tgt := 255) hx hb d_As_workOut_230 (by decide) ?_
    refine lv_aload_n hx hb d_As_workOut_255 rfl (lv_at hl 3 rfl) ?_
    refine k_beV (va_runV (As := []) (rest := []) ⟨hx, hb, hml, hown, hkw⟩ (c_Row_keepLeast l D cI cR cG (ro q) (en q) (rNear a b (↑(nu q)) false 30 0 e30) (r_bd_rNear e30_le ha30) _) (cwV 0 hkw (k_gV kw_methodLink_As_77 kw_instanceMethod_Ro_keepLeast kw_selects_Ro_keepLeast kw_initialized_Ro kw_code_Ro_keepLeast) rfl rfl rfl (by decide +kernel) ⟨(Nat.le_of_ble_eq_true rfl), (Nat.le_of_ble_eq_true rfl)⟩) (k_preV (q0 := 0) hK hG hP hD [7, 8] rfl rfl rfl rfl) rfl rfl hl.1 rfl (lv_room (Nat.le_of_ble_eq_true rfl)) d_As_workOut_256 ⟨Nat.zero_le _, Nat.zero_le _⟩) hP hD hS hA [7, 8] rfl (Eq.trans (b := [ro q, en q]) rfl rfl) ?_
    clear hP hD hS; intro H locs hP hD hS
    replace hP : va_P D k_cl ([(h, .inr (0, [.ref qk, .ref qf, .ref qs, .ref qn, .ref qr, .int (zI ↑n), .int (zI ↑r)])), (qk, .inl (cI, 30, .inl (kA K))), (qf, .inl (cI, 30, .inl (kA fi))), (qs, .inl (cI, 30, .inl (kA se))), (qn, .inl (cI, 30, .inl (kA nu))), (qr, .inl (cR, 30, .inr (.inr (.inr (.inr (fun i => some (ro i))))))), (tx, .inl (cI, 30, .inl (kA t))), (ro q, .inr (2, [.ref (en q)])), (en q, .inl (cI, 30, .inl (kA (rKL 30 (rNear a b (↑(nu q)) false 30 0 e30) 30)))), (ro x, .inr (2, [.ref (en x)])), (en x, .inl (cI, 30, .inl (kA a))), (ro y, .inr (2, [.ref (en y)])), (en y, .inl (cI, 30, .inl (kA b)))]) H := hP
    replace hD : va_D A ([(h, .inr (0, [.ref qk, .ref qf, .ref qs, .ref qn, .ref qr, .int (zI ↑n), .int (zI ↑r)])), (qk, .inl (cI, 30, .inl (kA K))), (qf, .inl (cI, 30, .inl (kA fi))), (qs, .inl (cI, 30, .inl (kA se))), (qn, .inl (cI, 30, .inl (kA nu))), (qr, .inl (cR, 30, .inr (.inr (.inr (.inr (fun i => some (ro i))))))), (tx, .inl (cI, 30, .inl (kA t))), (ro q, .inr (2, [.ref (en q)])), (en q, .inl (cI, 30, .inl (kA (rKL 30 (rNear a b (↑(nu q)) false 30 0 e30) 30)))), (ro x, .inr (2, [.ref (en x)])), (en x, .inl (cI, 30, .inl (kA a))), (ro y, .inr (2, [.ref (en y)])), (en y, .inl (cI, 30, .inl (kA b)))]) := hD
    rw [← hQf]
    have hP : va_P D k_cl [(h, .inr (0, [.ref qk, .ref qf, .ref qs, .ref qn, .ref qr, .int (zI ↑n), .int (zI ↑r)])), (qk, .inl (cI, 30, .inl (kA K))), (qf, .inl (cI, 30, .inl (kA fi))), (qs, .inl (cI, 30, .inl (kA se))), (qn, .inl (cI, 30, .inl (kA nu))), (qr, .inl (cR, 30, .inr (.inr (.inr (.inr (fun i => some (ro i))))))), (tx, .inl (cI, 30, .inl (kA t))), (ro q, .inr (2, [.ref (en q)])), (en q, .inl (cI, 30, .inl (kA (rowVal t (K q) (nu q) a b)))), (ro x, .inr (2, [.ref (en x)])), (en x, .inl (cI, 30, .inl (kA a))), (ro y, .inr (2, [.ref (en y)])), (en y, .inl (cI, 30, .inl (kA b)))] H := by
      rw [show rowVal t (K q) (nu q) a b = rKL 30 (rNear a b (↑(nu q)) false 30 0 e30) 30 from by rw [hc]; rfl]
      exact hP
    exact k_vret hx hb hr hlocks hP hS d_As_workOut_259
  · refine k_table (v := 9) (tgt := 233) hx hb d_As_workOut_51 (by omega) (by decide) (by decide) rfl (by decide) ?_
    refine lv_aload_n hx hb d_As_workOut_233 rfl (lv_at hl 3 rfl) ?_
    refine lv_aload hx hb d_As_workOut_234 (lv_at hl 2 rfl) ?_
    refine lv_iload hx hb d_As_workOut_236 (lv_at hl 0 rfl) ?_
    refine k_beV (va_runV (As := [.ref (ro x), .int (zI (↑(nu q)))]) (rest := []) ⟨hx, hb, hml, hown, hkw⟩ (c_Row_addEndingBefore l D cI cR cG (ro q) (en q) (ro x) (en x) (nu q) e30 a (by omega) e30_le ha30 _) (cwV 2 hkw (k_gV kw_methodLink_As_70 kw_instanceMethod_Ro_addEndingBefore kw_selects_Ro_addEndingBefore kw_initialized_Ro kw_code_Ro_addEndingBefore) rfl rfl rfl (by decide +kernel) ⟨(Nat.le_of_ble_eq_true rfl), (Nat.le_of_ble_eq_true rfl)⟩) (k_preV (q0 := 0) hK hG hP hD [7, 8, 9, 10] rfl rfl rfl rfl) rfl rfl hl.1 rfl (lv_room (Nat.le_of_ble_eq_true rfl)) d_As_workOut_238 ⟨Nat.zero_le _, Nat.zero_le _⟩) hP hD hS hA [7, 8, 9, 10] rfl (Eq.trans (b := [ro q, en q, ro x, en x]) rfl rfl) ?_
    clear hP hD hS; intro H locs hP hD hS
    replace hP : va_P D k_cl ([(h, .inr (0, [.ref qk, .ref qf, .ref qs, .ref qn, .ref qr, .int (zI ↑n), .int (zI ↑r)])), (qk, .inl (cI, 30, .inl (kA K))), (qf, .inl (cI, 30, .inl (kA fi))), (qs, .inl (cI, 30, .inl (kA se))), (qn, .inl (cI, 30, .inl (kA nu))), (qr, .inl (cR, 30, .inr (.inr (.inr (.inr (fun i => some (ro i))))))), (tx, .inl (cI, 30, .inl (kA t))), (ro q, .inr (2, [.ref (en q)])), (en q, .inl (cI, 30, .inl (kA (rBefore a (nu q) 30 0 e30)))), (ro x, .inr (2, [.ref (en x)])), (en x, .inl (cI, 30, .inl (kA a))), (ro y, .inr (2, [.ref (en y)])), (en y, .inl (cI, 30, .inl (kA b)))]) H := hP
    replace hD : va_D A ([(h, .inr (0, [.ref qk, .ref qf, .ref qs, .ref qn, .ref qr, .int (zI ↑n), .int (zI ↑r)])), (qk, .inl (cI, 30, .inl (kA K))), (qf, .inl (cI, 30, .inl (kA fi))), (qs, .inl (cI, 30, .inl (kA se))), (qn, .inl (cI, 30, .inl (kA nu))), (qr, .inl (cR, 30, .inr (.inr (.inr (.inr (fun i => some (ro i))))))), (tx, .inl (cI, 30, .inl (kA t))), (ro q, .inr (2, [.ref (en q)])), (en q, .inl (cI, 30, .inl (kA (rBefore a (nu q) 30 0 e30)))), (ro x, .inr (2, [.ref (en x)])), (en x, .inl (cI, 30, .inl (kA a))), (ro y, .inr (2, [.ref (en y)])), (en y, .inl (cI, 30, .inl (kA b)))]) := hD
    refine lv_goto (tgt := 255) hx hb d_As_workOut_241 (by decide) ?_
    refine lv_aload_n hx hb d_As_workOut_255 rfl (lv_at hl 3 rfl) ?_
    refine k_beV (va_runV (As := []) (rest := []) ⟨hx, hb, hml, hown, hkw⟩ (c_Row_keepLeast l D cI cR cG (ro q) (en q) (rBefore a (nu q) 30 0 e30) (r_bd_rBefore e30_le ha30) _) (cwV 0 hkw (k_gV kw_methodLink_As_77 kw_instanceMethod_Ro_keepLeast kw_selects_Ro_keepLeast kw_initialized_Ro kw_code_Ro_keepLeast) rfl rfl rfl (by decide +kernel) ⟨(Nat.le_of_ble_eq_true rfl), (Nat.le_of_ble_eq_true rfl)⟩) (k_preV (q0 := 0) hK hG hP hD [7, 8] rfl rfl rfl rfl) rfl rfl hl.1 rfl (lv_room (Nat.le_of_ble_eq_true rfl)) d_As_workOut_256 ⟨Nat.zero_le _, Nat.zero_le _⟩) hP hD hS hA [7, 8] rfl (Eq.trans (b := [ro q, en q]) rfl rfl) ?_
    clear hP hD hS; intro H locs hP hD hS
    replace hP : va_P D k_cl ([(h, .inr (0, [.ref qk, .ref qf, .ref qs, .ref qn, .ref qr, .int (zI ↑n), .int (zI ↑r)])), (qk, .inl (cI, 30, .inl (kA K))), (qf, .inl (cI, 30, .inl (kA fi))), (qs, .inl (cI, 30, .inl (kA se))), (qn, .inl (cI, 30, .inl (kA nu))), (qr, .inl (cR, 30, .inr (.inr (.inr (.inr (fun i => some (ro i))))))), (tx, .inl (cI, 30, .inl (kA t))), (ro q, .inr (2, [.ref (en q)])), (en q, .inl (cI, 30, .inl (kA (rKL 30 (rBefore a (nu q) 30 0 e30) 30)))), (ro x, .inr (2, [.ref (en x)])), (en x, .inl (cI, 30, .inl (kA a))), (ro y, .inr (2, [.ref (en y)])), (en y, .inl (cI, 30, .inl (kA b)))]) H := hP
    replace hD : va_D A ([(h, .inr (0, [.ref qk, .ref qf, .ref qs, .ref qn, .ref qr, .int (zI ↑n), .int (zI ↑r)])), (qk, .inl (cI, 30, .inl (kA K))), (qf, .inl (cI, 30, .inl (kA fi))), (qs, .inl (cI, 30, .inl (kA se))), (qn, .inl (cI, 30, .inl (kA nu))), (qr, .inl (cR, 30, .inr (.inr (.inr (.inr (fun i => some (ro i))))))), (tx, .inl (cI, 30, .inl (kA t))), (ro q, .inr (2, [.ref (en q)])), (en q, .inl (cI, 30, .inl (kA (rKL 30 (rBefore a (nu q) 30 0 e30) 30)))), (ro x, .inr (2, [.ref (en x)])), (en x, .inl (cI, 30, .inl (kA a))), (ro y, .inr (2, [.ref (en y)])), (en y, .inl (cI, 30, .inl (kA b)))]) := hD
    rw [← hQf]
    have hP : va_P D k_cl [(h, .inr (0, [.ref qk, .ref qf, .ref qs, .ref qn, .ref qr, .int (zI ↑n), .int (zI ↑r)])), (qk, .inl (cI, 30, .inl (kA K))), (qf, .inl (cI, 30, .inl (kA fi))), (qs, .inl (cI, 30, .inl (kA se))), (qn, .inl (cI, 30, .inl (kA nu))), (qr, .inl (cR, 30, .inr (.inr (.inr (.inr (fun i => some (ro i))))))), (tx, .inl (cI, 30, .inl (kA t))), (ro q, .inr (2, [.ref (en q)])), (en q, .inl (cI, 30, .inl (kA (rowVal t (K q) (nu q) a b)))), (ro x, .inr (2, [.ref (en x)])), (en x, .inl (cI, 30, .inl (kA a))), (ro y, .inr (2, [.ref (en y)])), (en y, .inl (cI, 30, .inl (kA b)))] H := by
      rw [show rowVal t (K q) (nu q) a b = rKL 30 (rBefore a (nu q) 30 0 e30) 30 from by rw [hc]; rfl]
      exact hP
    exact k_vret hx hb hr hlocks hP hS d_As_workOut_259
  · refine k_table (v := 10) (tgt := 244) hx hb d_As_workOut_51 (by omega) (by decide) (by decide) rfl (by decide) ?_
    refine lv_aload_n hx hb d_As_workOut_244 rfl (lv_at hl 3 rfl) ?_
    refine lv_aload hx hb d_As_workOut_245 (lv_at hl 2 rfl) ?_
    refine lv_iload hx hb d_As_workOut_247 (lv_at hl 0 rfl) ?_
    refine k_beV (va_runV (As := [.ref (ro x), .int (zI (↑(nu q)))]) (rest := []) ⟨hx, hb, hml, hown, hkw⟩ (c_Row_addGrown l D cI cR cG (ro q) (en q) (ro x) (en x) (nu q) e30 a (by omega) e30_le ha30 _) (cwV 2 hkw (k_gV kw_methodLink_As_74 kw_instanceMethod_Ro_addGrown kw_selects_Ro_addGrown kw_initialized_Ro kw_code_Ro_addGrown) rfl rfl rfl (by decide +kernel) ⟨(Nat.le_of_ble_eq_true rfl), (Nat.le_of_ble_eq_true rfl)⟩) (k_preV (q0 := 0) hK hG hP hD [7, 8, 9, 10] rfl rfl rfl rfl) rfl rfl hl.1 rfl (lv_room (Nat.le_of_ble_eq_true rfl)) d_As_workOut_249 ⟨Nat.zero_le _, Nat.zero_le _⟩) hP hD hS hA [7, 8, 9, 10] rfl (Eq.trans (b := [ro q, en q, ro x, en x]) rfl rfl) ?_
    clear hP hD hS; intro H locs hP hD hS
    replace hP : va_P D k_cl ([(h, .inr (0, [.ref qk, .ref qf, .ref qs, .ref qn, .ref qr, .int (zI ↑n), .int (zI ↑r)])), (qk, .inl (cI, 30, .inl (kA K))), (qf, .inl (cI, 30, .inl (kA fi))), (qs, .inl (cI, 30, .inl (kA se))), (qn, .inl (cI, 30, .inl (kA nu))), (qr, .inl (cR, 30, .inr (.inr (.inr (.inr (fun i => some (ro i))))))), (tx, .inl (cI, 30, .inl (kA t))), (ro q, .inr (2, [.ref (en q)])), (en q, .inl (cI, 30, .inl (kA (rGrown a (nu q) 30 0 e30)))), (ro x, .inr (2, [.ref (en x)])), (en x, .inl (cI, 30, .inl (kA a))), (ro y, .inr (2, [.ref (en y)])), (en y, .inl (cI, 30, .inl (kA b)))]) H := hP
    replace hD : va_D A ([(h, .inr (0, [.ref qk, .ref qf, .ref qs, .ref qn, .ref qr, .int (zI ↑n), .int (zI ↑r)])), (qk, .inl (cI, 30, .inl (kA K))), (qf, .inl (cI, 30, .inl (kA fi))), (qs, .inl (cI, 30, .inl (kA se))), (qn, .inl (cI, 30, .inl (kA nu))), (qr, .inl (cR, 30, .inr (.inr (.inr (.inr (fun i => some (ro i))))))), (tx, .inl (cI, 30, .inl (kA t))), (ro q, .inr (2, [.ref (en q)])), (en q, .inl (cI, 30, .inl (kA (rGrown a (nu q) 30 0 e30)))), (ro x, .inr (2, [.ref (en x)])), (en x, .inl (cI, 30, .inl (kA a))), (ro y, .inr (2, [.ref (en y)])), (en y, .inl (cI, 30, .inl (kA b)))]) := hD
    refine lv_goto (tgt := 255) hx hb d_As_workOut_252 (by decide) ?_
    refine lv_aload_n hx hb d_As_workOut_255 rfl (lv_at hl 3 rfl) ?_
    refine k_beV (va_runV (As := []) (rest := []) ⟨hx, hb, hml, hown, hkw⟩ (c_Row_keepLeast l D cI cR cG (ro q) (en q) (rGrown a (nu q) 30 0 e30) (r_bd_rGrown e30_le ha30) _) (cwV 0 hkw (k_gV kw_methodLink_As_77 kw_instanceMethod_Ro_keepLeast kw_selects_Ro_keepLeast kw_initialized_Ro kw_code_Ro_keepLeast) rfl rfl rfl (by decide +kernel) ⟨(Nat.le_of_ble_eq_true rfl), (Nat.le_of_ble_eq_true rfl)⟩) (k_preV (q0 := 0) hK hG hP hD [7, 8] rfl rfl rfl rfl) rfl rfl hl.1 rfl (lv_room (Nat.le_of_ble_eq_true rfl)) d_As_workOut_256 ⟨Nat.zero_le _, Nat.zero_le _⟩) hP hD hS hA [7, 8] rfl (Eq.trans (b := [ro q, en q]) rfl rfl) ?_
    clear hP hD hS; intro H locs hP hD hS
    replace hP : va_P D k_cl ([(h, .inr (0, [.ref qk, .ref qf, .ref qs, .ref qn, .ref qr, .int (zI ↑n), .int (zI ↑r)])), (qk, .inl (cI, 30, .inl (kA K))), (qf, .inl (cI, 30, .inl (kA fi))), (qs, .inl (cI, 30, .inl (kA se))), (qn, .inl (cI, 30, .inl (kA nu))), (qr, .inl (cR, 30, .inr (.inr (.inr (.inr (fun i => some (ro i))))))), (tx, .inl (cI, 30, .inl (kA t))), (ro q, .inr (2, [.ref (en q)])), (en q, .inl (cI, 30, .inl (kA (rKL 30 (rGrown a (nu q) 30 0 e30) 30)))), (ro x, .inr (2, [.ref (en x)])), (en x, .inl (cI, 30, .inl (kA a))), (ro y, .inr (2, [.ref (en y)])), (en y, .inl (cI, 30, .inl (kA b)))]) H := hP
    replace hD : va_D A ([(h, .inr (0, [.ref qk, .ref qf, .ref qs, .ref qn, .ref qr, .int (zI ↑n), .int (zI ↑r)])), (qk, .inl (cI, 30, .inl (kA K))), (qf, .inl (cI, 30, .inl (kA fi))), (qs, .inl (cI, 30, .inl (kA se))), (qn, .inl (cI, 30, .inl (kA nu))), (qr, .inl (cR, 30, .inr (.inr (.inr (.inr (fun i => some (ro i))))))), (tx, .inl (cI, 30, .inl (kA t))), (ro q, .inr (2, [.ref (en q)])), (en q, .inl (cI, 30, .inl (kA (rKL 30 (rGrown a (nu q) 30 0 e30) 30)))), (ro x, .inr (2, [.ref (en x)])), (en x, .inl (cI, 30, .inl (kA a))), (ro y, .inr (2, [.ref (en y)])), (en y, .inl (cI, 30, .inl (kA b)))]) := hD
    rw [← hQf]
    have hP : va_P D k_cl [(h, .inr (0, [.ref qk, .ref qf, .ref qs, .ref qn, .ref qr, .int (zI ↑n), .int (zI ↑r)])), (qk, .inl (cI, 30, .inl (kA K))), (qf, .inl (cI, 30, .inl (kA fi))), (qs, .inl (cI, 30, .inl (kA se))), (qn, .inl (cI, 30, .inl (kA nu))), (qr, .inl (cR, 30, .inr (.inr (.inr (.inr (fun i => some (ro i))))))), (tx, .inl (cI, 30, .inl (kA t))), (ro q, .inr (2, [.ref (en q)])), (en q, .inl (cI, 30, .inl (kA (rowVal t (K q) (nu q) a b)))), (ro x, .inr (2, [.ref (en x)])), (en x, .inl (cI, 30, .inl (kA a))), (ro y, .inr (2, [.ref (en y)])), (en y, .inl (cI, 30, .inl (kA b)))] H := by
      rw [show rowVal t (K q) (nu q) a b = rKL 30 (rGrown a (nu q) 30 0 e30) 30 from by rw [hc]; rfl]
      exact hP
    exact k_vret hx hb hr hlocks hP hS d_As_workOut_259
end
section
abbrev rm_As_rowOf : Room := { frames := 5, cells := 0, slots := 0, locals := 119 }
set_option maxHeartbeats 4000000 in
set_option maxRecDepth 100000 in
theorem c_As_rowOf (l : Launch) (D : va_G) (cI cR cG : ClassId) (h qk qf qs qn qr n r q tx : Nat) (ro en K fi se nu t : Nat → Nat) (E0 : Nat → Nat → Nat) (hq : q < n) (hn : n ≤ 30) (hok : askOK n K fi se nu) (ht : ∀ j, t j ≤ 1023) (hE0 : ∀ j k, E0 j k ≤ 30) (hr0 : r ≤ 30) : k_M l y_As_rowOf (.code y_As_rowOf b_As_rowOf 4 (some (.object "PhraseMoves$Row")) :: kW) rm_As_rowOf D k_cl (k_ty cI cR cG) [.ref h, .int (zI ↑q), .ref tx] ([(h, .inr (0, [.ref qk, .ref qf, .ref qs, .ref qn, .ref qr, .int (zI ↑n), .int (zI ↑r)])), (qk, .inl (cI, 30, .inl (kA K))), (qf, .inl (cI, 30, .inl (kA fi))), (qs, .inl (cI, 30, .inl (kA se))), (qn, .inl (cI, 30, .inl (kA nu))), (qr, .inl (cR, 30, .inr (.inr (.inr (.inr (fun i => some (ro i))))))), (tx, .inl (cI, 30, .inl (kA t)))] ++ (k_pp cI ro en E0)) (k_Qr D k_cl (ro q) ([(h, .inr (0, [.ref qk, .ref qf, .ref qs, .ref qn, .ref qr, .int (zI ↑n), .int (zI (↑(max r (q + 1))))])), (qk, .inl (cI, 30, .inl (kA K))), (qf, .inl (cI, 30, .inl (kA fi))), (qs, .inl (cI, 30, .inl (kA se))), (qn, .inl (cI, 30, .inl (kA nu))), (qr, .inl (cR, 30, .inr (.inr (.inr (.inr (fun i => some (ro i))))))), (tx, .inl (cI, 30, .inl (kA t)))] ++ k_pp cI ro en (rowsTo t K fi se nu (q + 1 - r) r E0))) := by
  refine k_start (cc := b_As_rowOf) (maxL := 4) (ret := (some (.object "PhraseMoves$Row"))) (by decide) rfl (Nat.le_of_ble_eq_true rfl) ?_
  intro p ev s m ar below meth c A ls Qf hQf hx hb hr hml hts hown hlocks hin hK hG hA hP hD hS hl
  replace hown : s.vm.findClass R_As = some m.cls := hown
  replace hl : lv_has ls 4 [(0, .ref h), (1, .int (zI ↑q)), (2, .ref tx)] := hl
  have hkw : ∀ w ∈ kW, w.before ar s = true := fun w h => hts w (List.mem_cons_of_mem _ h)
  replace hP : va_P D k_cl ([(h, .inr (0, [.ref qk, .ref qf, .ref qs, .ref qn, .ref qr, .int (zI ↑n), .int (zI ↑r)])), (qk, .inl (cI, 30, .inl (kA K))), (qf, .inl (cI, 30, .inl (kA fi))), (qs, .inl (cI, 30, .inl (kA se))), (qn, .inl (cI, 30, .inl (kA nu))), (qr, .inl (cR, 30, .inr (.inr (.inr (.inr (fun i => some (ro i))))))), (tx, .inl (cI, 30, .inl (kA t)))] ++ (k_pp cI ro en E0)) s.heap := hP
  replace hD : va_D A ([(h, .inr (0, [.ref qk, .ref qf, .ref qs, .ref qn, .ref qr, .int (zI ↑n), .int (zI ↑r)])), (qk, .inl (cI, 30, .inl (kA K))), (qf, .inl (cI, 30, .inl (kA fi))), (qs, .inl (cI, 30, .inl (kA se))), (qn, .inl (cI, 30, .inl (kA nu))), (qr, .inl (cR, 30, .inr (.inr (.inr (.inr (fun i => some (ro i))))))), (tx, .inl (cI, 30, .inl (kA t)))] ++ (k_pp cI ro en E0)) := hD
  refine lv_aload_n hx hb d_As_rowOf_0 rfl (lv_at hl 0 rfl) ?_
  refine va_get (D := D) (ci := 0) (v := .int (zI ↑r)) (C := R_As) (T := T_As) (N := 7) hx hb hkw kin_As hown hK hP 0 rfl rfl 6 (by decide) (hkw _ kw_fieldLink_As_35) (fun _ h9 => h9) rfl d_As_rowOf_1 ?_
  refine lv_istore_n (lv' := [(3, .int (zI ↑r)), (0, .ref h), (1, .int (zI ↑q)), (2, .ref tx)]) hx hb d_As_rowOf_4 rfl hl (by decide) rfl ?_
  clear hl; intro ls hl
  have loop_5 : ∀ (k : Nat) (i : Nat) (E : Nat → Nat → Nat), (i + k = max r (q + 1)) → (r ≤ i) → (∀ j k, E j k ≤ 30) → (rowsTo t K fi se nu k i E = rowsTo t K fi se nu (q + 1 - r) r E0) → ∀ (H : Heap) (locs : List Loc) (ls : Array Slot), va_P D k_cl ([(h, .inr (0, [.ref qk, .ref qf, .ref qs, .ref qn, .ref qr, .int (zI ↑n), .int (zI ↑i)])), (qk, .inl (cI, 30, .inl (kA K))), (qf, .inl (cI, 30, .inl (kA fi))), (qs, .inl (cI, 30, .inl (kA se))), (qn, .inl (cI, 30, .inl (kA nu))), (qr, .inl (cR, 30, .inr (.inr (.inr (.inr (fun i => some (ro i))))))), (tx, .inl (cI, 30, .inl (kA t)))] ++ (k_pp cI ro en E)) H → va_D A ([(h, .inr (0, [.ref qk, .ref qf, .ref qs, .ref qn, .ref qr, .int (zI ↑n), .int (zI ↑i)])), (qk, .inl (cI, 30, .inl (kA K))), (qf, .inl (cI, 30, .inl (kA fi))), (qs, .inl (cI, 30, .inl (kA se))), (qn, .inl (cI, 30, .inl (kA nu))), (qr, .inl (cR, 30, .inr (.inr (.inr (.inr (fun i => some (ro i))))))), (tx, .inl (cI, 30, .inl (kA t)))] ++ (k_pp cI ro en E)) → va_S A s.heap H locs → lv_has ls 4 [(0, .ref h), (1, .int (zI ↑q)), (2, .ref tx), (3, .int (zI ↑i))] → W p l ev rm_As_rowOf s m ar below meth c H locs 0 0 Qf (F0 m 5 ls []) := by
    intro k
    induction k with
    | zero =>
      intro i E hin hir hE hgo H locs ls hP hD hS hl
      refine lv_iload_n hx hb d_As_rowOf_5 rfl (lv_at hl 3 rfl) ?_
      refine lv_iload_n hx hb d_As_rowOf_6 rfl (lv_at hl 1 rfl) ?_
      refine k_icmp_gt (tgt := 37) hx hb d_As_rowOf_7 (by decide) ⟨by omega, by omega⟩ ⟨by omega, by omega⟩ (fun c_7 => ?_) (fun c_7 => ?_)
      · refine lv_aload_n hx hb d_As_rowOf_37 rfl (lv_at hl 0 rfl) ?_
        refine va_get (D := D) (ci := 0) (v := .ref qr) (C := R_As) (T := T_As) (N := 7) hx hb hkw kin_As hown hK hP 0 rfl rfl 4 (by decide) (hkw _ kw_fieldLink_As_26) (fun _ h9 => h9) rfl d_As_rowOf_38 ?_
        refine lv_iload_n hx hb d_As_rowOf_41 rfl (lv_at hl 1 rfl) ?_
        refine k_aald hx hb hK hP 5 1 rfl rfl (i := q) (by omega) (by omega) (by omega) d_As_rowOf_42 ?_
        rw [← hQf]
        replace hP : va_P D k_cl ([(h, .inr (0, [.ref qk, .ref qf, .ref qs, .ref qn, .ref qr, .int (zI ↑n), .int (zI (↑(max r (q + 1))))])), (qk, .inl (cI, 30, .inl (kA K))), (qf, .inl (cI, 30, .inl (kA fi))), (qs, .inl (cI, 30, .inl (kA se))), (qn, .inl (cI, 30, .inl (kA nu))), (qr, .inl (cR, 30, .inr (.inr (.inr (.inr (fun i => some (ro i))))))), (tx, .inl (cI, 30, .inl (kA t)))] ++ k_pp cI ro en (rowsTo t K fi se nu (q + 1 - r) r E0)) H := by
          rw [show max r (q + 1) = i from by omega, ← hgo]
          exact hP
        exact k_aret hx hb hr hlocks hP hS rfl d_As_rowOf_43
      · exfalso; omega
    | succ k ih_5 =>
      intro i E hin hir hE hgo H locs ls hP hD hS hl
      refine lv_iload_n hx hb d_As_rowOf_5 rfl (lv_at hl 3 rfl) ?_
      refine lv_iload_n hx hb d_As_rowOf_6 rfl (lv_at hl 1 rfl) ?_
      refine k_icmp_gt (tgt := 37) hx hb d_As_rowOf_7 (by decide) ⟨by omega, by omega⟩ ⟨by omega, by omega⟩ (fun c_7 => ?_) (fun c_7 => ?_)
      · exfalso; omega
      · refine lv_iload_n hx hb d_As_rowOf_10 rfl (lv_at hl 3 rfl) ?_
        refine lv_aload_n hx hb d_As_rowOf_11 rfl (lv_at hl 0 rfl) ?_
        refine va_get (D := D) (ci := 0) (v := .int (zI ↑n)) (C := R_As) (T := T_As) (N := 7) hx hb hkw kin_As hown hK hP 0 rfl rfl 5 (by decide) (hkw _ kw_fieldLink_As_31) (fun _ h9 => h9) rfl d_As_rowOf_12 ?_
        refine k_icmp_ge (tgt := 37) hx hb d_As_rowOf_15 (by decide) ⟨by omega, by omega⟩ ⟨by omega, by omega⟩ (fun c_15 => ?_) (fun c_15 => ?_)
        · exfalso; omega
        · refine lv_aload_n hx hb d_As_rowOf_18 rfl (lv_at hl 0 rfl) ?_
          refine lv_iload_n hx hb d_As_rowOf_19 rfl (lv_at hl 3 rfl) ?_
          refine lv_aload_n hx hb d_As_rowOf_20 rfl (lv_at hl 2 rfl) ?_
          obtain ⟨hk10, hnu, h0, h1⟩ := hok i (by omega)
          have hfs : fi i < 30 ∧ se i < 30 := by
            by_cases hk0 : K i = 0
            · have := h0 hk0; omega
            · have := h1 hk0; omega
          have hi30 : i < 30 := by omega
          have hpn := k_pp_ne (k_D_right hD)
          by_cases hfi0 : fi i = i
          · have hk0 : K i = 0 := by
                          by_cases hk0 : K i = 0
                          · exact hk0
                          · have := h1 hk0; omega
            have hse0 : se i = i := by have := h0 hk0; omega
            have htc : ∀ u ∈ ([(ro i, .inr (2, [.ref (en i)])), (en i, .inl (cI, 30, .inl (kA (E i))))] : va_W), u ∈ k_pp cI ro en E := (by intro u hu; simp only [List.mem_cons, List.not_mem_nil, or_false] at hu; rcases hu with rfl | rfl <;> first | exact k_m1 (by omega) | exact k_m2 (by omega))
            refine k_beVT (nx := [(h, .inr (0, [.ref qk, .ref qf, .ref qs, .ref qn, .ref qr, .int (zI ↑n), .int (zI ↑i)])), (qk, .inl (cI, 30, .inl (kA K))), (qf, .inl (cI, 30, .inl (kA fi))), (qs, .inl (cI, 30, .inl (kA se))), (qn, .inl (cI, 30, .inl (kA nu))), (qr, .inl (cR, 30, .inr (.inr (.inr (.inr (fun i => some (ro i))))))), (tx, .inl (cI, 30, .inl (kA t)))]) (tn := [(ro i, .inr (2, [.ref (en i)])), (en i, .inl (cI, 30, .inl (kA (rowVal t (K i) (nu i) (E i) (E i)))))]) (T1 := k_pp cI ro en (va_up E i (rowVal t (K i) (nu i) (E i) (E i)))) (va_runV (As := [.int (zI ↑i), .ref tx]) (rest := []) ⟨hx, hb, hml, hown, hkw⟩ (c_As_workOut0 l D cI cR cG h qk qf qs qn qr n i i tx ro en K fi se nu t (E i) hi30 hfi0 hse0 hk0 hnu (fun e => (h0 e).1) ht (hE _) _) (cwV 2 hkw (k_gV kw_methodLink_As_38 kw_instanceMethod_As_workOut kw_selects_As_workOut kw_initialized_As kw_code_As_workOut) rfl rfl rfl (by decide +kernel) ⟨Nat.le_of_ble_eq_true rfl, Nat.le_of_ble_eq_true rfl⟩) (k_preVT (px := [(h, .inr (0, [.ref qk, .ref qf, .ref qs, .ref qn, .ref qr, .int (zI ↑n), .int (zI ↑i)])), (qk, .inl (cI, 30, .inl (kA K))), (qf, .inl (cI, 30, .inl (kA fi))), (qs, .inl (cI, 30, .inl (kA se))), (qn, .inl (cI, 30, .inl (kA nu))), (qr, .inl (cR, 30, .inr (.inr (.inr (.inr (fun i => some (ro i))))))), (tx, .inl (cI, 30, .inl (kA t)))]) (tc := [(ro i, .inr (2, [.ref (en i)])), (en i, .inl (cI, 30, .inl (kA (E i))))]) (q0 := 0) hK hG hP hD [0, 1, 2, 3, 4, 5, 6] rfl rfl htc (k_nd_D (k_nd2 hpn hi30)) rfl rfl) rfl rfl hl.1 rfl (lv_room (Nat.le_of_ble_eq_true rfl)) d_As_rowOf_21 ⟨Nat.zero_le _, Nat.zero_le _⟩) hP hD hS hA [0, 1, 2, 3, 4, 5, 6] rfl rfl htc k_pp_fst (k_pp_hU hpn hi30 (List.mem_cons_of_mem _ List.mem_cons_self) (by intro u hu; simp only [List.mem_cons, List.not_mem_nil, or_false] at hu; rcases hu with rfl | rfl <;> first | exact Or.inr rfl | (refine Or.inl ?_; simp only [List.mem_cons, true_or, or_true]))) ?_
            clear hP hD hS; intro H locs hP hD hS
            replace hP : va_P D k_cl ([(h, .inr (0, [.ref qk, .ref qf, .ref qs, .ref qn, .ref qr, .int (zI ↑n), .int (zI ↑i)])), (qk, .inl (cI, 30, .inl (kA K))), (qf, .inl (cI, 30, .inl (kA fi))), (qs, .inl (cI, 30, .inl (kA se))), (qn, .inl (cI, 30, .inl (kA nu))), (qr, .inl (cR, 30, .inr (.inr (.inr (.inr (fun i => some (ro i))))))), (tx, .inl (cI, 30, .inl (kA t)))] ++ (k_pp cI ro en (va_up E i (rowVal t (K i) (nu i) (E (fi i)) (E (se i)))))) H := by rw [hfi0, hse0]; exact hP
            replace hD : va_D A ([(h, .inr (0, [.ref qk, .ref qf, .ref qs, .ref qn, .ref qr, .int (zI ↑n), .int (zI ↑i)])), (qk, .inl (cI, 30, .inl (kA K))), (qf, .inl (cI, 30, .inl (kA fi))), (qs, .inl (cI, 30, .inl (kA se))), (qn, .inl (cI, 30, .inl (kA nu))), (qr, .inl (cR, 30, .inr (.inr (.inr (.inr (fun i => some (ro i))))))), (tx, .inl (cI, 30, .inl (kA t)))] ++ (k_pp cI ro en (va_up E i (rowVal t (K i) (nu i) (E (fi i)) (E (se i)))))) := by rw [hfi0, hse0]; exact hD
            refine lv_aload_n hx hb d_As_rowOf_24 rfl (lv_at hl 0 rfl) ?_
            refine lv_iload_n hx hb d_As_rowOf_25 rfl (lv_at hl 3 rfl) ?_
            refine lv_iconst (v := zI 1) hx hb d_As_rowOf_26 (by decide) ?_
            refine k_iadd (v := ↑(i + 1)) hx hb d_As_rowOf_27 (by omega) ?_
            refine va_put (D := D) (ci := 0) (v := .int (zI (↑(i + 1)))) (ty := .int) (C := R_As) (T := T_As) (N := 7) hx hb hkw kin_As ty_As ty_As_ok nm_As hown hK hP hD hS 0 rfl rfl 6 (by decide) (hkw _ kw_fieldLink_As_35) (fun _ h9 => h9) rfl (by decide +kernel) rfl rfl (Nat.le_of_ble_eq_true rfl) d_As_rowOf_28 ?_
            clear hP hD hS; intro H locs hP hD hS
            replace hP : va_P D k_cl ([(h, .inr (0, [.ref qk, .ref qf, .ref qs, .ref qn, .ref qr, .int (zI ↑n), .int (zI (↑(i + 1)))])), (qk, .inl (cI, 30, .inl (kA K))), (qf, .inl (cI, 30, .inl (kA fi))), (qs, .inl (cI, 30, .inl (kA se))), (qn, .inl (cI, 30, .inl (kA nu))), (qr, .inl (cR, 30, .inr (.inr (.inr (.inr (fun i => some (ro i))))))), (tx, .inl (cI, 30, .inl (kA t)))] ++ (k_pp cI ro en (va_up E i (rowVal t (K i) (nu i) (E (fi i)) (E (se i)))))) H := hP
            replace hD : va_D A ([(h, .inr (0, [.ref qk, .ref qf, .ref qs, .ref qn, .ref qr, .int (zI ↑n), .int (zI (↑(i + 1)))])), (qk, .inl (cI, 30, .inl (kA K))), (qf, .inl (cI, 30, .inl (kA fi))), (qs, .inl (cI, 30, .inl (kA se))), (qn, .inl (cI, 30, .inl (kA nu))), (qr, .inl (cR, 30, .inr (.inr (.inr (.inr (fun i => some (ro i))))))), (tx, .inl (cI, 30, .inl (kA t)))] ++ (k_pp cI ro en (va_up E i (rowVal t (K i) (nu i) (E (fi i)) (E (se i)))))) := hD
            refine k_iinc (v := ↑(i + 1)) (lv' := [(3, .int (zI (↑(i + 1)))), (0, .ref h), (1, .int (zI ↑q)), (2, .ref tx)]) hx hb d_As_rowOf_31 hl (k := 3) rfl (by omega) (by decide) rfl ?_
            clear hl; intro ls hl
            refine lv_goto (tgt := 5) hx hb d_As_rowOf_34 (by decide) ?_
            exact ih_5 (i + 1) _ (by omega) (by omega) (k_upE hE (rowVal_le (hE _) (hE _))) hgo _ _ _ hP hD hS (lv_sub hl [1, 2, 3, 0] rfl)
          · by_cases hs : se i = fi i
            · have h9 := hi30
              have htc : ∀ u ∈ ([(ro i, .inr (2, [.ref (en i)])), (en i, .inl (cI, 30, .inl (kA (E i)))), (ro (fi i), .inr (2, [.ref (en (fi i))])), (en (fi i), .inl (cI, 30, .inl (kA (E (fi i)))))] : va_W), u ∈ k_pp cI ro en E := (by intro u hu; simp only [List.mem_cons, List.not_mem_nil, or_false] at hu; rcases hu with rfl | rfl | rfl | rfl <;> first | exact k_m1 (by omega) | exact k_m2 (by omega))
              refine k_beVT (nx := [(h, .inr (0, [.ref qk, .ref qf, .ref qs, .ref qn, .ref qr, .int (zI ↑n), .int (zI ↑i)])), (qk, .inl (cI, 30, .inl (kA K))), (qf, .inl (cI, 30, .inl (kA fi))), (qs, .inl (cI, 30, .inl (kA se))), (qn, .inl (cI, 30, .inl (kA nu))), (qr, .inl (cR, 30, .inr (.inr (.inr (.inr (fun i => some (ro i))))))), (tx, .inl (cI, 30, .inl (kA t)))]) (tn := [(ro i, .inr (2, [.ref (en i)])), (en i, .inl (cI, 30, .inl (kA (rowVal t (K i) (nu i) (E (fi i)) (E (fi i)))))), (ro (fi i), .inr (2, [.ref (en (fi i))])), (en (fi i), .inl (cI, 30, .inl (kA (E (fi i)))))]) (T1 := k_pp cI ro en (va_up E i (rowVal t (K i) (nu i) (E (fi i)) (E (fi i))))) (va_runV (As := [.int (zI ↑i), .ref tx]) (rest := []) ⟨hx, hb, hml, hown, hkw⟩ (c_As_workOut1 l D cI cR cG h qk qf qs qn qr n i i tx (fi i) ro en K fi se nu t (E i) (E (fi i)) hi30 rfl hs hfs.1 hk10 hnu (fun e => (h0 e).1) ht (hE _) (hE _) _) (cwV 2 hkw (k_gV kw_methodLink_As_38 kw_instanceMethod_As_workOut kw_selects_As_workOut kw_initialized_As kw_code_As_workOut) rfl rfl rfl (by decide +kernel) ⟨Nat.le_of_ble_eq_true rfl, Nat.le_of_ble_eq_true rfl⟩) (k_preVT (px := [(h, .inr (0, [.ref qk, .ref qf, .ref qs, .ref qn, .ref qr, .int (zI ↑n), .int (zI ↑i)])), (qk, .inl (cI, 30, .inl (kA K))), (qf, .inl (cI, 30, .inl (kA fi))), (qs, .inl (cI, 30, .inl (kA se))), (qn, .inl (cI, 30, .inl (kA nu))), (qr, .inl (cR, 30, .inr (.inr (.inr (.inr (fun i => some (ro i))))))), (tx, .inl (cI, 30, .inl (kA t)))]) (tc := [(ro i, .inr (2, [.ref (en i)])), (en i, .inl (cI, 30, .inl (kA (E i)))), (ro (fi i), .inr (2, [.ref (en (fi i))])), (en (fi i), .inl (cI, 30, .inl (kA (E (fi i)))))]) (q0 := 0) hK hG hP hD [0, 1, 2, 3, 4, 5, 6] rfl rfl htc (k_nd_D (k_nd4 hpn hi30 hfs.1 (by omega))) rfl rfl) rfl rfl hl.1 rfl (lv_room (Nat.le_of_ble_eq_true rfl)) d_As_rowOf_21 ⟨Nat.zero_le _, Nat.zero_le _⟩) hP hD hS hA [0, 1, 2, 3, 4, 5, 6] rfl rfl htc k_pp_fst (k_pp_hU hpn hi30 (List.mem_cons_of_mem _ List.mem_cons_self) (by intro u hu; simp only [List.mem_cons, List.not_mem_nil, or_false] at hu; rcases hu with rfl | rfl | rfl | rfl <;> first | exact Or.inr rfl | (refine Or.inl ?_; simp only [List.mem_cons, true_or, or_true]))) ?_
              clear hP hD hS; intro H locs hP hD hS
              replace hP : va_P D k_cl ([(h, .inr (0, [.ref qk, .ref qf, .ref qs, .ref qn, .ref qr, .int (zI ↑n), .int (zI ↑i)])), (qk, .inl (cI, 30, .inl (kA K))), (qf, .inl (cI, 30, .inl (kA fi))), (qs, .inl (cI, 30, .inl (kA se))), (qn, .inl (cI, 30, .inl (kA nu))), (qr, .inl (cR, 30, .inr (.inr (.inr (.inr (fun i => some (ro i))))))), (tx, .inl (cI, 30, .inl (kA t)))] ++ (k_pp cI ro en (va_up E i (rowVal t (K i) (nu i) (E (fi i)) (E (se i)))))) H := by rw [hs]; exact hP
              replace hD : va_D A ([(h, .inr (0, [.ref qk, .ref qf, .ref qs, .ref qn, .ref qr, .int (zI ↑n), .int (zI ↑i)])), (qk, .inl (cI, 30, .inl (kA K))), (qf, .inl (cI, 30, .inl (kA fi))), (qs, .inl (cI, 30, .inl (kA se))), (qn, .inl (cI, 30, .inl (kA nu))), (qr, .inl (cR, 30, .inr (.inr (.inr (.inr (fun i => some (ro i))))))), (tx, .inl (cI, 30, .inl (kA t)))] ++ (k_pp cI ro en (va_up E i (rowVal t (K i) (nu i) (E (fi i)) (E (se i)))))) := by rw [hs]; exact hD
              refine lv_aload_n hx hb d_As_rowOf_24 rfl (lv_at hl 0 rfl) ?_
              refine lv_iload_n hx hb d_As_rowOf_25 rfl (lv_at hl 3 rfl) ?_
              refine lv_iconst (v := zI 1) hx hb d_As_rowOf_26 (by decide) ?_
              refine k_iadd (v := ↑(i + 1)) hx hb d_As_rowOf_27 (by omega) ?_
              refine va_put (D := D) (ci := 0) (v := .int (zI (↑(i + 1)))) (ty := .int) (C := R_As) (T := T_As) (N := 7) hx hb hkw kin_As ty_As ty_As_ok nm_As hown hK hP hD hS 0 rfl rfl 6 (by decide) (hkw _ kw_fieldLink_As_35) (fun _ h9 => h9) rfl (by decide +kernel) rfl rfl (Nat.le_of_ble_eq_true rfl) d_As_rowOf_28 ?_
              clear hP hD hS; intro H locs hP hD hS
              replace hP : va_P D k_cl ([(h, .inr (0, [.ref qk, .ref qf, .ref qs, .ref qn, .ref qr, .int (zI ↑n), .int (zI (↑(i + 1)))])), (qk, .inl (cI, 30, .inl (kA K))), (qf, .inl (cI, 30, .inl (kA fi))), (qs, .inl (cI, 30, .inl (kA se))), (qn, .inl (cI, 30, .inl (kA nu))), (qr, .inl (cR, 30, .inr (.inr (.inr (.inr (fun i => some (ro i))))))), (tx, .inl (cI, 30, .inl (kA t)))] ++ (k_pp cI ro en (va_up E i (rowVal t (K i) (nu i) (E (fi i)) (E (se i)))))) H := hP
              replace hD : va_D A ([(h, .inr (0, [.ref qk, .ref qf, .ref qs, .ref qn, .ref qr, .int (zI ↑n), .int (zI (↑(i + 1)))])), (qk, .inl (cI, 30, .inl (kA K))), (qf, .inl (cI, 30, .inl (kA fi))), (qs, .inl (cI, 30, .inl (kA se))), (qn, .inl (cI, 30, .inl (kA nu))), (qr, .inl (cR, 30, .inr (.inr (.inr (.inr (fun i => some (ro i))))))), (tx, .inl (cI, 30, .inl (kA t)))] ++ (k_pp cI ro en (va_up E i (rowVal t (K i) (nu i) (E (fi i)) (E (se i)))))) := hD
              refine k_iinc (v := ↑(i + 1)) (lv' := [(3, .int (zI (↑(i + 1)))), (0, .ref h), (1, .int (zI ↑q)), (2, .ref tx)]) hx hb d_As_rowOf_31 hl (k := 3) rfl (by omega) (by decide) rfl ?_
              clear hl; intro ls hl
              refine lv_goto (tgt := 5) hx hb d_As_rowOf_34 (by decide) ?_
              exact ih_5 (i + 1) _ (by omega) (by omega) (k_upE hE (rowVal_le (hE _) (hE _))) hgo _ _ _ hP hD hS (lv_sub hl [1, 2, 3, 0] rfl)
            · have hk0 : K i ≠ 0 := fun e => by have := h0 e; omega
              have h19 := h1 hk0
              have htc : ∀ u ∈ ([(ro i, .inr (2, [.ref (en i)])), (en i, .inl (cI, 30, .inl (kA (E i)))), (ro (fi i), .inr (2, [.ref (en (fi i))])), (en (fi i), .inl (cI, 30, .inl (kA (E (fi i))))), (ro (se i), .inr (2, [.ref (en (se i))])), (en (se i), .inl (cI, 30, .inl (kA (E (se i)))))] : va_W), u ∈ k_pp cI ro en E := (by intro u hu; simp only [List.mem_cons, List.not_mem_nil, or_false] at hu; rcases hu with rfl | rfl | rfl | rfl | rfl | rfl <;> first | exact k_m1 (by omega) | exact k_m2 (by omega))
              refine k_beVT (nx := [(h, .inr (0, [.ref qk, .ref qf, .ref qs, .ref qn, .ref qr, .int (zI ↑n), .int (zI ↑i)])), (qk, .inl (cI, 30, .inl (kA K))), (qf, .inl (cI, 30, .inl (kA fi))), (qs, .inl (cI, 30, .inl (kA se))), (qn, .inl (cI, 30, .inl (kA nu))), (qr, .inl (cR, 30, .inr (.inr (.inr (.inr (fun i => some (ro i))))))), (tx, .inl (cI, 30, .inl (kA t)))]) (tn := [(ro i, .inr (2, [.ref (en i)])), (en i, .inl (cI, 30, .inl (kA (rowVal t (K i) (nu i) (E (fi i)) (E (se i)))))), (ro (fi i), .inr (2, [.ref (en (fi i))])), (en (fi i), .inl (cI, 30, .inl (kA (E (fi i))))), (ro (se i), .inr (2, [.ref (en (se i))])), (en (se i), .inl (cI, 30, .inl (kA (E (se i)))))]) (T1 := k_pp cI ro en (va_up E i (rowVal t (K i) (nu i) (E (fi i)) (E (se i))))) (va_runV (As := [.int (zI ↑i), .ref tx]) (rest := []) ⟨hx, hb, hml, hown, hkw⟩ (c_As_workOut2 l D cI cR cG h qk qf qs qn qr n i i tx (fi i) (se i) ro en K fi se nu t (E i) (E (fi i)) (E (se i)) hi30 rfl rfl hfs.1 hfs.2 hk10 hnu (fun e => (h0 e).1) ht (hE _) (hE _) (hE _) _) (cwV 2 hkw (k_gV kw_methodLink_As_38 kw_instanceMethod_As_workOut kw_selects_As_workOut kw_initialized_As kw_code_As_workOut) rfl rfl rfl (by decide +kernel) ⟨Nat.le_of_ble_eq_true rfl, Nat.le_of_ble_eq_true rfl⟩) (k_preVT (px := [(h, .inr (0, [.ref qk, .ref qf, .ref qs, .ref qn, .ref qr, .int (zI ↑n), .int (zI ↑i)])), (qk, .inl (cI, 30, .inl (kA K))), (qf, .inl (cI, 30, .inl (kA fi))), (qs, .inl (cI, 30, .inl (kA se))), (qn, .inl (cI, 30, .inl (kA nu))), (qr, .inl (cR, 30, .inr (.inr (.inr (.inr (fun i => some (ro i))))))), (tx, .inl (cI, 30, .inl (kA t)))]) (tc := [(ro i, .inr (2, [.ref (en i)])), (en i, .inl (cI, 30, .inl (kA (E i)))), (ro (fi i), .inr (2, [.ref (en (fi i))])), (en (fi i), .inl (cI, 30, .inl (kA (E (fi i))))), (ro (se i), .inr (2, [.ref (en (se i))])), (en (se i), .inl (cI, 30, .inl (kA (E (se i)))))]) (q0 := 0) hK hG hP hD [0, 1, 2, 3, 4, 5, 6] rfl rfl htc (k_nd_D (k_nd6 hpn hi30 hfs.1 hfs.2 (by omega) (by omega) (by omega))) rfl rfl) rfl rfl hl.1 rfl (lv_room (Nat.le_of_ble_eq_true rfl)) d_As_rowOf_21 ⟨Nat.zero_le _, Nat.zero_le _⟩) hP hD hS hA [0, 1, 2, 3, 4, 5, 6] rfl rfl htc k_pp_fst (k_pp_hU hpn hi30 (List.mem_cons_of_mem _ List.mem_cons_self) (by intro u hu; simp only [List.mem_cons, List.not_mem_nil, or_false] at hu; rcases hu with rfl | rfl | rfl | rfl | rfl | rfl <;> first | exact Or.inr rfl | (refine Or.inl ?_; simp only [List.mem_cons, true_or, or_true]))) ?_
              clear hP hD hS; intro H locs hP hD hS
              replace hP : va_P D k_cl ([(h, .inr (0, [.ref qk, .ref qf, .ref qs, .ref qn, .ref qr, .int (zI ↑n), .int (zI ↑i)])), (qk, .inl (cI, 30, .inl (kA K))), (qf, .inl (cI, 30, .inl (kA fi))), (qs, .inl (cI, 30, .inl (kA se))), (qn, .inl (cI, 30, .inl (kA nu))), (qr, .inl (cR, 30, .inr (.inr (.inr (.inr (fun i => some (ro i))))))), (tx, .inl (cI, 30, .inl (kA t)))] ++ (k_pp cI ro en (va_up E i (rowVal t (K i) (nu i) (E (fi i)) (E (se i)))))) H := hP
              replace hD : va_D A ([(h, .inr (0, [.ref qk, .ref qf, .ref qs, .ref qn, .ref qr, .int (zI ↑n), .int (zI ↑i)])), (qk, .inl (cI, 30, .inl (kA K))), (qf, .inl (cI, 30, .inl (kA fi))), (qs, .inl (cI, 30, .inl (kA se))), (qn, .inl (cI, 30, .inl (kA nu))), (qr, .inl (cR, 30, .inr (.inr (.inr (.inr (fun i => some (ro i))))))), (tx, .inl (cI, 30, .inl (kA t)))] ++ (k_pp cI ro en (va_up E i (rowVal t (K i) (nu i) (E (fi i)) (E (se i)))))) := hD
              refine lv_aload_n hx hb d_As_rowOf_24 rfl (lv_at hl 0 rfl) ?_
              refine lv_iload_n hx hb d_As_rowOf_25 rfl (lv_at hl 3 rfl) ?_
              refine lv_iconst (v := zI 1) hx hb d_As_rowOf_26 (by decide) ?_
              refine k_iadd (v := ↑(i + 1)) hx hb d_As_rowOf_27 (by omega) ?_
              refine va_put (D := D) (ci := 0) (v := .int (zI (↑(i + 1)))) (ty := .int) (C := R_As) (T := T_As) (N := 7) hx hb hkw kin_As ty_As ty_As_ok nm_As hown hK hP hD hS 0 rfl rfl 6 (by decide) (hkw _ kw_fieldLink_As_35) (fun _ h9 => h9) rfl (by decide +kernel) rfl rfl (Nat.le_of_ble_eq_true rfl) d_As_rowOf_28 ?_
              clear hP hD hS; intro H locs hP hD hS
              replace hP : va_P D k_cl ([(h, .inr (0, [.ref qk, .ref qf, .ref qs, .ref qn, .ref qr, .int (zI ↑n), .int (zI (↑(i + 1)))])), (qk, .inl (cI, 30, .inl (kA K))), (qf, .inl (cI, 30, .inl (kA fi))), (qs, .inl (cI, 30, .inl (kA se))), (qn, .inl (cI, 30, .inl (kA nu))), (qr, .inl (cR, 30, .inr (.inr (.inr (.inr (fun i => some (ro i))))))), (tx, .inl (cI, 30, .inl (kA t)))] ++ (k_pp cI ro en (va_up E i (rowVal t (K i) (nu i) (E (fi i)) (E (se i)))))) H := hP
              replace hD : va_D A ([(h, .inr (0, [.ref qk, .ref qf, .ref qs, .ref qn, .ref qr, .int (zI ↑n), .int (zI (↑(i + 1)))])), (qk, .inl (cI, 30, .inl (kA K))), (qf, .inl (cI, 30, .inl (kA fi))), (qs, .inl (cI, 30, .inl (kA se))), (qn, .inl (cI, 30, .inl (kA nu))), (qr, .inl (cR, 30, .inr (.inr (.inr (.inr (fun i => some (ro i))))))), (tx, .inl (cI, 30, .inl (kA t)))] ++ (k_pp cI ro en (va_up E i (rowVal t (K i) (nu i) (E (fi i)) (E (se i)))))) := hD
              refine k_iinc (v := ↑(i + 1)) (lv' := [(3, .int (zI (↑(i + 1)))), (0, .ref h), (1, .int (zI ↑q)), (2, .ref tx)]) hx hb d_As_rowOf_31 hl (k := 3) rfl (by omega) (by decide) rfl ?_
              clear hl; intro ls hl
              refine lv_goto (tgt := 5) hx hb d_As_rowOf_34 (by decide) ?_
              exact ih_5 (i + 1) _ (by omega) (by omega) (k_upE hE (rowVal_le (hE _) (hE _))) hgo _ _ _ hP hD hS (lv_sub hl [1, 2, 3, 0] rfl)
  exact loop_5 (q + 1 - r) r E0 (by omega) (by omega) hE0 rfl _ _ _ hP hD hS (lv_sub hl [1, 2, 3, 0] rfl)
end
section
/-! THE PHRASE -/
def kLoop {σ : Type} (body : Nat → σ → σ) : Nat → Nat → σ → σ
  | 0, _, S => S
  | k + 1, i, S => kLoop body k (i + 1) (body i S)
def cSum (cn : Nat → Nat) : Nat → Nat → Nat → Nat
  | 0, _, acc => acc
  | k + 1, i, acc => cSum cn k (i + 1) (acc + cn i)
def wSum (cn : Nat → Nat) : Nat → Nat → Nat → Nat
  | 0, _, acc => acc
  | k + 1, i, acc => wSum cn k (i + 1) (acc + cn i * (2520 / (i + 1)))
/-- no slot before s has place p and a term in common -/
def fFree (tr se : Nat → Nat) (s p : Nat) : Nat → Nat → Bool
  | 0, _ => true
  | k + 1, i => if tr i = p then (if se i &&& se s ≠ 0 then false else fFree tr se s p k (i + 1)) else fFree tr se s p k (i + 1)
/-- the places of a slot -/
def fFind (t : Nat → Nat) (set : Nat) : Nat → Nat → Nat → (Nat → Nat) → Nat × (Nat → Nat)
  | 0, _, found, F => (found, F)
  | k + 1, i, found, F => if t i &&& set ≠ 0 then fFind t set k (i + 1) (found + 1) (va_up F found i) else fFind t set k (i + 1) found F
def fAll (t se : Nat → Nat) : Nat → Nat → (Nat → Nat) → (Nat → Nat → Nat) → (Nat → Nat) × (Nat → Nat → Nat)
  | 0, _, pc, Pl => (pc, Pl)
  | k + 1, s, pc, Pl => fAll t se k (s + 1) (va_up pc s (fFind t (se s) 30 0 0 (Pl s)).1) (va_up Pl s (fFind t (se s) 30 0 0 (Pl s)).2)
/-- tried, first choice, counts, least -/
abbrev SM : Type := (Nat → Nat) × (Nat → Nat) × (Nat → Nat) × Nat
def sNote (mv : Nat) (S : SM) : SM := if mv ≤ 76 then (if mv < S.2.2.2 then (S.1, S.1, va_up S.2.2.1 mv (S.2.2.1 mv + 1), mv) else (S.1, S.2.1, va_up S.2.2.1 mv (S.2.2.1 mv + 1), S.2.2.2)) else S
def sV (of : Nat → Nat) (Pl : Nat → Nat → Nat) (s i : Nat) : Int := (Pl s i : Int) - (of s : Int)
def sNr (lo hi v : Int) : Int := max lo (min hi v)
def sMn (mv : Nat) (v nr : Int) : Nat := mv + (v - nr).natAbs
def sStep (of se : Nat → Nat) (Pl : Nat → Nat → Nat) (rec_ : Nat → Int → Int → SM → SM) (s mv : Nat) (lo hi : Int) (i : Nat) (S : SM) : SM :=
  if sMn mv (sV of Pl s i) (sNr lo hi (sV of Pl s i)) ≤ max 9 S.2.2.2 then
    (if fFree S.1 se s (Pl s i) s 0 = true then
      (if s = 1 then rec_ (sMn mv (sV of Pl s i) (sNr lo hi (sV of Pl s i))) (min lo (sV of Pl s i)) (max hi (sV of Pl s i)) (va_up S.1 s (Pl s i), S.2)
        else rec_ (sMn mv (sV of Pl s i) (sNr lo hi (sV of Pl s i))) (sNr lo hi (sV of Pl s i)) (sNr lo hi (sV of Pl s i)) (va_up S.1 s (Pl s i), S.2))
      else S)
    else S
def sM (of se pc : Nat → Nat) (Pl : Nat → Nat → Nat) : Nat → Nat → Nat → Int → Int → SM → SM
  | 0, _, mv, _, _, S => sNote mv S
  | d + 1, s, mv, lo, hi, S => kLoop (sStep of se Pl (sM of se pc Pl d (s + 1)) s mv lo hi) (pc s) 0 S
theorem sNote_bd {mv : Nat} {S : SM} (h1 : ∀ j, S.1 j ≤ 30) (h2 : S.2.2.2 ≤ 77) : (∀ j, (sNote mv S).1 j ≤ 30) ∧ (sNote mv S).2.2.2 ≤ 77 := by
  unfold sNote
  repeat' split
  · exact ⟨h1, by dsimp only; omega⟩
  · exact ⟨h1, h2⟩
  · exact ⟨h1, h2⟩
theorem kLoop_inv {σ : Type} {body : Nat → σ → σ} {I : σ → Prop} (hb : ∀ i S, I S → I (body i S)) : ∀ (k i : Nat) (S : σ), I S → I (kLoop body k i S)
  | 0, _, _, h => h
  | k + 1, i, S, h => kLoop_inv hb k (i + 1) _ (hb i S h)
theorem sM_bd {of se pc : Nat → Nat} {Pl : Nat → Nat → Nat} (hPl : ∀ s j, Pl s j ≤ 30) : ∀ (d s mv : Nat) (lo hi : Int) (S : SM), ((∀ j, S.1 j ≤ 30) ∧ S.2.2.2 ≤ 77) → ((∀ j, (sM of se pc Pl d s mv lo hi S).1 j ≤ 30) ∧ (sM of se pc Pl d s mv lo hi S).2.2.2 ≤ 77)
  | 0, _, mv, _, _, S, h => sNote_bd h.1 h.2
  | d + 1, s, mv, lo, hi, S, h => by
    unfold sM
    refine kLoop_inv (I := fun S : SM => (∀ j, S.1 j ≤ 30) ∧ S.2.2.2 ≤ 77) ?_ _ _ _ h
    intro i S h
    unfold sStep
    repeat' split
    · exact sM_bd hPl d _ _ _ _ _ ⟨k_upB h.1 (hPl s i), h.2⟩
    · exact sM_bd hPl d _ _ _ _ _ ⟨k_upB h.1 (hPl s i), h.2⟩
    · exact h
    · exact h
/-- tried, shortest from, to -/
abbrev SS : Type := (Nat → Nat) × Int × Int
def sSh (lo hi sf st : Int) : Bool := decide (hi - lo < st - sf) || (decide (hi - lo = st - sf) && decide (lo < sf))
def tStep (se : Nat → Nat) (Pl : Nat → Nat → Nat) (rec_ : Int → Int → SS → SS) (s : Nat) (lo hi : Int) (i : Nat) (S : SS) : SS :=
  if sSh (min lo (Pl s i)) (max hi (Pl s i)) S.2.1 S.2.2 = true then
    (if fFree S.1 se s (Pl s i) s 0 = true then rec_ (min lo (Pl s i)) (max hi (Pl s i)) (va_up S.1 s (Pl s i), S.2) else S)
    else S
def sT (se pc : Nat → Nat) (Pl : Nat → Nat → Nat) : Nat → Nat → Int → Int → SS → SS
  | 0, _, lo, hi, S => (S.1, lo, hi)
  | d + 1, s, lo, hi, S => kLoop (tStep se Pl (sT se pc Pl d (s + 1)) s lo hi) (pc s) 0 S
theorem sT_bd {se pc : Nat → Nat} {Pl : Nat → Nat → Nat} (hPl : ∀ s j, Pl s j ≤ 30) : ∀ (d s : Nat) (lo hi : Int) (S : SS), (-1 ≤ lo ∧ lo ≤ 30) → (-1 ≤ hi ∧ hi ≤ 30) → ((∀ j, S.1 j ≤ 30) ∧ (-1 ≤ S.2.1 ∧ S.2.1 ≤ 30) ∧ (-1 ≤ S.2.2 ∧ S.2.2 ≤ 30)) → ((∀ j, (sT se pc Pl d s lo hi S).1 j ≤ 30) ∧ (-1 ≤ (sT se pc Pl d s lo hi S).2.1 ∧ (sT se pc Pl d s lo hi S).2.1 ≤ 30) ∧ (-1 ≤ (sT se pc Pl d s lo hi S).2.2 ∧ (sT se pc Pl d s lo hi S).2.2 ≤ 30))
  | 0, _, lo, hi, S, h1, h2, h => ⟨h.1, h1, h2⟩
  | d + 1, s, lo, hi, S, h1, h2, h => by
    unfold sT
    refine kLoop_inv (I := fun S : SS => (∀ j, S.1 j ≤ 30) ∧ (-1 ≤ S.2.1 ∧ S.2.1 ≤ 30) ∧ (-1 ≤ S.2.2 ∧ S.2.2 ≤ 30)) ?_ _ _ _ h
    intro i S h
    have := hPl s i
    unfold tStep
    repeat' split
    · exact sT_bd hPl d _ _ _ _ (by omega) (by omega) ⟨k_upB h.1 (hPl s i), h.2⟩
    · exact h
    · exact h
theorem fFind_bd {t : Nat → Nat} {set : Nat} : ∀ (k i found : Nat) (F : Nat → Nat), i + k ≤ 30 → found ≤ i → (∀ j, F j ≤ 30) → ((fFind t set k i found F).1 ≤ 30 ∧ ∀ j, (fFind t set k i found F).2 j ≤ 30)
  | 0, _, _, _, h1, h2, h => by unfold fFind; exact ⟨by dsimp only; omega, h⟩
  | k + 1, i, found, F, h1, h2, h => by
    unfold fFind
    split
    · exact fFind_bd k (i + 1) (found + 1) _ (by omega) (by omega) (k_upB h (by omega))
    · exact fFind_bd k (i + 1) found _ (by omega) (by omega) h
theorem fAll_bd {t se : Nat → Nat} : ∀ (k s : Nat) (pc : Nat → Nat) (Pl : Nat → Nat → Nat), ((∀ j, pc j ≤ 30) ∧ ∀ j i, Pl j i ≤ 30) → ((∀ j, (fAll t se k s pc Pl).1 j ≤ 30) ∧ ∀ j i, (fAll t se k s pc Pl).2 j i ≤ 30)
  | 0, _, _, _, h => h
  | k + 1, s, pc, Pl, h => by
    unfold fAll
    have hb := fFind_bd (t := t) (set := se s) 30 0 0 (Pl s) (by omega) (by omega) (h.2 s)
    exact fAll_bd k (s + 1) _ _ ⟨k_upB h.1 hb.1, k_upE h.2 hb.2⟩
/-! the grid of places -/
def k_p3 (cI : ClassId) (gr : Nat → Nat) (Pl : Nat → Nat → Nat) : va_W := (List.range 4).map (fun j => (gr j, .inl (cI, 30, .inl (kA (Pl j)))))
theorem k_p3_at {cI : ClassId} {gr : Nat → Nat} {Pl : Nat → Nat → Nat} {j : Nat} (h : j < 4) : (k_p3 cI gr Pl)[j]? = some (gr j, .inl (cI, 30, .inl (kA (Pl j)))) := by
  unfold k_p3; rw [List.getElem?_map, List.getElem?_range h]; rfl
theorem k_p3_fst {cI : ClassId} {gr : Nat → Nat} {Pl Pl' : Nat → Nat → Nat} : (k_p3 cI gr Pl').map (·.1) = (k_p3 cI gr Pl).map (·.1) := by
  simp [k_p3]
theorem k_grid {X : va_W} {cI : ClassId} {gr : Nat → Nat} {Pl : Nat → Nat → Nat} {j L : Nat} (hX : X.length = L) (h : j < 4) : (X ++ k_p3 cI gr Pl)[L + j]? = some (gr j, .inl (cI, 30, .inl (kA (Pl j)))) := by
  rw [List.getElem?_append_right (by omega), hX, show L + j - L = j by omega]; exact k_p3_at h
theorem k_grid_set {X : va_W} {cI : ClassId} {gr : Nat → Nat} {Pl : Nat → Nat → Nat} {j L : Nat} {v : Nat → Nat} (hX : X.length = L) : (X ++ k_p3 cI gr Pl).set (L + j) (gr j, .inl (cI, 30, .inl (kA v))) = X ++ k_p3 cI gr (va_up Pl j v) := by
  rw [List.set_append_right _ _ (by omega), hX, show L + j - L = j by omega]
  congr 1
  apply List.ext_getElem?
  intro k
  by_cases hk : k < 4
  · by_cases e : j = k
    · subst e
      rw [List.getElem?_set_self', k_p3_at hk, k_p3_at hk, va_up_self]; rfl
    · rw [List.getElem?_set_ne e, k_p3_at hk, k_p3_at hk, va_up_ne _ _ (fun h => e h.symm)]
  · have h1 : (k_p3 cI gr (va_up Pl j v))[k]? = none := List.getElem?_eq_none (by simp [k_p3]; omega)
    have h2 : ((k_p3 cI gr Pl).set j (gr j, .inl (cI, 30, .inl (kA v))))[k]? = none := List.getElem?_eq_none (by simp [k_p3]; omega)
    rw [h1, h2]
section KG
variable {p : Program} {l : Launch} {e : Env} {R : Room} {s : State} {m : MethodId} {args : Array Value} {below : List Frame} {meth : Method} {c : Code} {H : Heap} {locs : List Loc} {cells slots : Nat} {Q : State → Prop}
variable {cc : ByteArray} {pc : Nat} {ls : Array Slot} {rest : List Value} {D : va_G} {cl : List vw_C} {A : Nat → Prop} {a : Nat} {tys : List (ClassId × FieldType)} {ws : va_W} {H0 : Heap}
theorem k_galdA (hx : p.tables.exec = Jvm.exec) (hb : c.code = cc) (hK : va_K D cl tys s) (hP : va_P D cl ws H) (q0 t0 : Nat) {cA : ClassId} {t : FieldType} {n : Nat} {ro : Nat → Nat} (ha : ws[q0]? = some (a, .inl (cA, n, .inr (.inr (.inr (.inr (fun i => some (ro i)))))))) (ht : tys[t0]? = some (cA, .array t)) {x : Int} {i : Nat} (hxi : x = (i : Int)) (hi : i < n) (hn : n ≤ 2147483647) (hdg : decode cc pc = .ok (.aaload, 1))
    (kk : W p l e R s m args below meth c H locs cells slots Q (F0 m (pc + 1) ls (.ref (ro i) :: rest))) : W p l e R s m args below meth c H locs cells slots Q (F0 m pc ls (.int (zI x) :: .ref a :: rest)) := by
  subst hxi
  have hin := zI_in hi hn
  have hlt : (zI (i : Int)).toNatClampNeg < n := Nat.not_le.mp fun q => hin (Or.inr q)
  refine W.aald (v := va_rf (some (ro (zI (i : Int)).toNatClampNeg))) (ty := .array t) hx hb (hP q0 _ ha) ((hK.2 t0 _ ht).1 n (fun j => va_rf (some (ro j)))) rfl (fun q => by cases q) (by show ¬ (zI (i : Int) < 0 ∨ (arrV _ _ _).slots.size ≤ _); rw [arrV_size]; exact hin) (by show (arrV _ _ _).slots[_]? = _; rw [arrV_read _ _ hlt]) rfl rfl hdg ?_
  rw [zI_cl (by omega)]; exact kk
/-! longs -/
theorem k_i2l (hx : p.tables.exec = Jvm.exec) (hb : c.code = cc) {x : Int} {v : Nat} (hv : x = (v : Int)) (h : v < 2147483648) (hdg : decode cc pc = .ok (.i2l, 1)) (k : W p l e R s m args below meth c H locs cells slots Q (F0 m (pc + 1) ls (.long (lN v) :: rest))) : W p l e R s m args below meth c H locs cells slots Q (F0 m pc ls (.int (zI x) :: rest)) :=
  lv_i2l hx hb hdg (v := lN v) (by subst hv; rw [zI_nat]; exact nI_l (by omega)) k
theorem k_ladd (hx : p.tables.exec = Jvm.exec) (hb : c.code = cc) {x y v : Nat} (hv : x + y = v) (hdg : decode cc pc = .ok (.ladd, 1)) (k : W p l e R s m args below meth c H locs cells slots Q (F0 m (pc + 1) ls (.long (lN v) :: rest))) : W p l e R s m args below meth c H locs cells slots Q (F0 m pc ls (.long (lN y) :: .long (lN x) :: rest)) :=
  lv_ladd hx hb hdg (by rw [lN_add, hv]; exact k)
theorem k_lmul (hx : p.tables.exec = Jvm.exec) (hb : c.code = cc) {x y v : Nat} (hv : x * y = v) (hdg : decode cc pc = .ok (.lmul, 1)) (k : W p l e R s m args below meth c H locs cells slots Q (F0 m (pc + 1) ls (.long (lN v) :: rest))) : W p l e R s m args below meth c H locs cells slots Q (F0 m pc ls (.long (lN y) :: .long (lN x) :: rest)) :=
  lv_lmul hx hb hdg (by rw [lN_mul, hv]; exact k)
theorem k_ldiv (hx : p.tables.exec = Jvm.exec) (hb : c.code = cc) {x y v : Nat} (hv : x / y = v) (h1 : x < 2147483648) (h2 : 0 < y) (h3 : y < 2147483648) (hdg : decode cc pc = .ok (.ldiv, 1)) (k : W p l e R s m args below meth c H locs cells slots Q (F0 m (pc + 1) ls (.long (lN v) :: rest))) : W p l e R s m args below meth c H locs cells slots Q (F0 m pc ls (.long (lN y) :: .long (lN x) :: rest)) :=
  lv_ldiv hx hb hdg (fun e => by have e2 : lN y = lN 0 := e; rw [lN_eq (by omega) (by omega)] at e2; omega) (by rw [pk_lDiv (by omega) h2 (by omega), hv]; exact k)
theorem k_natabs (x : Int) : ((x.natAbs : Nat) : Int) = if 0 ≤ x then x else 0 - x := by split <;> omega
end KG
end
section
theorem k_setext {D : va_G} {cl : List vw_C} {ws : va_W} {H : Heap} {q a n : Nat} {cA : ClassId} {f g : Nat → Int32} (hP : va_P D cl (ws.set q (a, .inl (cA, n, .inl f))) H) (h : ∀ j, j < n → f j = g j) : va_P D cl (ws.set q (a, .inl (cA, n, .inl g))) H := by
  intro k u hk
  by_cases e : q = k
  · subst e
    rw [List.getElem?_set_self'] at hk
    cases hw : ws[q]? with
    | none => rw [hw] at hk; simp at hk
    | some y =>
      rw [hw] at hk
      have hu : (a, .inl (cA, n, .inl g)) = u := by simpa using hk
      subst hu
      have h0 := hP q (a, .inl (cA, n, .inl f)) (by rw [List.getElem?_set_self', hw]; rfl)
      show H[a]? = some (vp_cell cA (n, .inl g))
      rw [← k_ext h]
      exact h0
  · rw [List.getElem?_set_ne e] at hk
    exact hP k u (by rw [List.getElem?_set_ne e]; exact hk)
theorem k_set_fst {ws : va_W} {q a : Nat} {e1 e2 : va_E} : (ws.set q (a, e2)).map (·.1) = (ws.set q (a, e1)).map (·.1) := by
  rw [List.map_set, List.map_set]
theorem k_n4 : (zI 4).toNatClampNeg = 4 := by decide +kernel
theorem k_n0 : (zI 0).toNatClampNeg = 0 := by decide +kernel
section KCP
variable {p : Program} {l : Launch} {e : Env} {R : Room} {s : State} {m : MethodId} {args : Array Value} {below : List Frame} {meth : Method} {c : Code} {H : Heap} {locs : List Loc} {cells slots : Nat} {Q : State → Prop}
variable {cc : ByteArray} {pc : Nat} {ls : Array Slot} {rest : List Value} {D : va_G} {cl : List vw_C} {A : Nat → Prop} {a : Nat} {tys : List (ClassId × FieldType)} {ws : va_W} {H0 : Heap}
/-- four places are copied -/
theorem k_copy4 (hx : p.tables.exec = Jvm.exec) (hb : c.code = cc) (hml : c.maxLocals = ls.size) {own : String} {index : Nat} (hown : s.vm.findClass own = some m.cls) (hlink : (Cond.methodLink own index arraycopyName).before args s = true) (hnat : (Cond.native arraycopyName).before args s = true) (hstat : (Cond.static arraycopyName).before args s = true) (hini : (Cond.initialized "java/lang/System").before args s = true)
    (hK : va_K D cl tys s) (hP : va_P D cl ws H) (hD : va_D A ws) (hS : va_S A H0 H locs) (q0 q1 t0 : Nat) {a0 : Nat} {cA : ClassId} {F G : Nat → Nat} (ha0 : ws[q0]? = some (a0, .inl (cA, 4, .inl (kA F)))) (ha1 : ws[q1]? = some (a, .inl (cA, 4, .inl (kA G)))) (ht0 : tys[t0]? = some (cA, .int))
    (hframes : 1 ≤ R.frames) (hlocals : (rest.map fun v => v.category).sum + (nativeFrameWords "java/lang/System" "arraycopy" 5 + 11) ≤ R.locals) (hdg : decode cc pc = .ok (.invokestatic index, 3))
    (kk : ∀ (H1 : Heap) (locs1 : List Loc), va_P D cl (ws.set q1 (a, .inl (cA, 4, .inl (kA F)))) H1 → va_D A (ws.set q1 (a, .inl (cA, 4, .inl (kA F)))) → va_S A H0 H1 locs1 → W p l e R s m args below meth c H1 locs1 cells slots Q (F0 m (pc + 3) ls rest)) : W p l e R s m args below meth c H locs cells slots Q (F0 m pc ls (.int (zI 4) :: .int (zI 0) :: .ref a :: .int (zI 0) :: .ref a0 :: rest)) := by
  refine va_copyi hx hb hml hown hlink hnat hstat hini hK hP hD hS q0 q1 t0 t0 ha0 ha1 ht0 ht0 rfl (by decide +kernel) (by decide +kernel) (by decide +kernel) (by rw [k_n0, k_n4]; decide) (by rw [k_n0, k_n4]; decide) (fun i _ => rfl) hframes hlocals hdg (fun H1 locs1 h1 h2 h3 => ?_)
  refine kk H1 locs1 (k_setext h1 (fun j hj => ?_)) (k_D_fst h2 k_set_fst) h3
  rw [k_n0, k_n4, pk_cpy_in (Nat.zero_le j) (by omega)]
  congr 1; omega
end KCP
theorem k_up_id {α : Type} (f : Nat → α) (k : Nat) : va_up f k (f k) = f := by
  funext j; unfold va_up; split <;> rename_i h
  · rw [h]
  · rfl
section KSTEP
variable {of se : Nat → Nat} {Pl : Nat → Nat → Nat} {rec_ : Nat → Int → Int → SM → SM} {rec2 : Int → Int → SS → SS} {s mv : Nat} {lo hi : Int} {i : Nat} {tr fc cn : Nat → Nat} {lm : Nat} {sf st : Int}
theorem sStep_0 (h : ¬ sMn mv (sV of Pl s i) (sNr lo hi (sV of Pl s i)) ≤ max 9 lm) : sStep of se Pl rec_ s mv lo hi i (tr, fc, cn, lm) = (tr, fc, cn, lm) := if_neg h
theorem sStep_1 (h : sMn mv (sV of Pl s i) (sNr lo hi (sV of Pl s i)) ≤ max 9 lm) (h2 : ¬ fFree tr se s (Pl s i) s 0 = true) : sStep of se Pl rec_ s mv lo hi i (tr, fc, cn, lm) = (tr, fc, cn, lm) := (if_pos h).trans (if_neg h2)
theorem sStep_2 (h : sMn mv (sV of Pl s i) (sNr lo hi (sV of Pl s i)) ≤ max 9 lm) (h2 : fFree tr se s (Pl s i) s 0 = true) (h3 : s = 1) : sStep of se Pl rec_ s mv lo hi i (tr, fc, cn, lm) = rec_ (sMn mv (sV of Pl s i) (sNr lo hi (sV of Pl s i))) (min lo (sV of Pl s i)) (max hi (sV of Pl s i)) (va_up tr s (Pl s i), fc, cn, lm) := (if_pos h).trans ((if_pos h2).trans (if_pos h3))
theorem sStep_3 (h : sMn mv (sV of Pl s i) (sNr lo hi (sV of Pl s i)) ≤ max 9 lm) (h2 : fFree tr se s (Pl s i) s 0 = true) (h3 : ¬ s = 1) : sStep of se Pl rec_ s mv lo hi i (tr, fc, cn, lm) = rec_ (sMn mv (sV of Pl s i) (sNr lo hi (sV of Pl s i))) (sNr lo hi (sV of Pl s i)) (sNr lo hi (sV of Pl s i)) (va_up tr s (Pl s i), fc, cn, lm) := (if_pos h).trans ((if_pos h2).trans (if_neg h3))
theorem tStep_0 (h : ¬ sSh (min lo (Pl s i)) (max hi (Pl s i)) sf st = true) : tStep se Pl rec2 s lo hi i (tr, sf, st) = (tr, sf, st) := if_neg h
theorem tStep_1 (h : sSh (min lo (Pl s i)) (max hi (Pl s i)) sf st = true) (h2 : ¬ fFree tr se s (Pl s i) s 0 = true) : tStep se Pl rec2 s lo hi i (tr, sf, st) = (tr, sf, st) := (if_pos h).trans (if_neg h2)
theorem tStep_2 (h : sSh (min lo (Pl s i)) (max hi (Pl s i)) sf st = true) (h2 : fFree tr se s (Pl s i) s 0 = true) : tStep se Pl rec2 s lo hi i (tr, sf, st) = rec2 (min lo (Pl s i)) (max hi (Pl s i)) (va_up tr s (Pl s i), sf, st) := (if_pos h).trans (if_pos h2)
end KSTEP
end
section
theorem d_Ph_init_0 : decode b_Ph_init 0 = .ok (.aload_n 0, 1) := by decide +kernel
theorem d_Ph_init_1 : decode b_Ph_init 1 = .ok (.invokespecial 3, 3) := by decide +kernel
theorem d_Ph_init_4 : decode b_Ph_init 4 = .ok (.aload_n 0, 1) := by decide +kernel
theorem d_Ph_init_5 : decode b_Ph_init 5 = .ok (.iconst 4, 1) := by decide +kernel
theorem d_Ph_init_6 : decode b_Ph_init 6 = .ok (.newarray .int, 2) := by decide +kernel
theorem d_Ph_init_8 : decode b_Ph_init 8 = .ok (.putfield 9, 3) := by decide +kernel
theorem d_Ph_init_11 : decode b_Ph_init 11 = .ok (.aload_n 0, 1) := by decide +kernel
theorem d_Ph_init_12 : decode b_Ph_init 12 = .ok (.iconst 4, 1) := by decide +kernel
theorem d_Ph_init_13 : decode b_Ph_init 13 = .ok (.newarray .int, 2) := by decide +kernel
theorem d_Ph_init_15 : decode b_Ph_init 15 = .ok (.putfield 15, 3) := by decide +kernel
theorem d_Ph_init_18 : decode b_Ph_init 18 = .ok (.aload_n 0, 1) := by decide +kernel
theorem d_Ph_init_19 : decode b_Ph_init 19 = .ok (.iconst 0, 1) := by decide +kernel
theorem d_Ph_init_20 : decode b_Ph_init 20 = .ok (.putfield 18, 3) := by decide +kernel
theorem d_Ph_init_23 : decode b_Ph_init 23 = .ok (.aload_n 0, 1) := by decide +kernel
theorem d_Ph_init_24 : decode b_Ph_init 24 = .ok (.iconst 0, 1) := by decide +kernel
theorem d_Ph_init_25 : decode b_Ph_init 25 = .ok (.putfield 22, 3) := by decide +kernel
theorem d_Ph_init_28 : decode b_Ph_init 28 = .ok (.aload_n 0, 1) := by decide +kernel
theorem d_Ph_init_29 : decode b_Ph_init 29 = .ok (.iconst 4, 1) := by decide +kernel
theorem d_Ph_init_30 : decode b_Ph_init 30 = .ok (.bipush 30, 2) := by decide +kernel
theorem d_Ph_init_32 : decode b_Ph_init 32 = .ok (.multianewarray 26 2, 4) := by decide +kernel
theorem d_Ph_init_36 : decode b_Ph_init 36 = .ok (.putfield 28, 3) := by decide +kernel
theorem d_Ph_init_39 : decode b_Ph_init 39 = .ok (.aload_n 0, 1) := by decide +kernel
theorem d_Ph_init_40 : decode b_Ph_init 40 = .ok (.iconst 4, 1) := by decide +kernel
theorem d_Ph_init_41 : decode b_Ph_init 41 = .ok (.newarray .int, 2) := by decide +kernel
theorem d_Ph_init_43 : decode b_Ph_init 43 = .ok (.putfield 31, 3) := by decide +kernel
theorem d_Ph_init_46 : decode b_Ph_init 46 = .ok (.aload_n 0, 1) := by decide +kernel
theorem d_Ph_init_47 : decode b_Ph_init 47 = .ok (.iconst 4, 1) := by decide +kernel
theorem d_Ph_init_48 : decode b_Ph_init 48 = .ok (.newarray .int, 2) := by decide +kernel
theorem d_Ph_init_50 : decode b_Ph_init 50 = .ok (.putfield 34, 3) := by decide +kernel
theorem d_Ph_init_53 : decode b_Ph_init 53 = .ok (.aload_n 0, 1) := by decide +kernel
theorem d_Ph_init_54 : decode b_Ph_init 54 = .ok (.iconst 4, 1) := by decide +kernel
theorem d_Ph_init_55 : decode b_Ph_init 55 = .ok (.newarray .int, 2) := by decide +kernel
theorem d_Ph_init_57 : decode b_Ph_init 57 = .ok (.putfield 37, 3) := by decide +kernel
theorem d_Ph_init_60 : decode b_Ph_init 60 = .ok (.aload_n 0, 1) := by decide +kernel
theorem d_Ph_init_61 : decode b_Ph_init 61 = .ok (.bipush 77, 2) := by decide +kernel
theorem d_Ph_init_63 : decode b_Ph_init 63 = .ok (.newarray .int, 2) := by decide +kernel
theorem d_Ph_init_65 : decode b_Ph_init 65 = .ok (.putfield 40, 3) := by decide +kernel
theorem d_Ph_init_68 : decode b_Ph_init 68 = .ok (.aload_n 0, 1) := by decide +kernel
theorem d_Ph_init_69 : decode b_Ph_init 69 = .ok (.bipush 77, 2) := by decide +kernel
theorem d_Ph_init_71 : decode b_Ph_init 71 = .ok (.putfield 43, 3) := by decide +kernel
theorem d_Ph_init_74 : decode b_Ph_init 74 = .ok (.aload_n 0, 1) := by decide +kernel
theorem d_Ph_init_75 : decode b_Ph_init 75 = .ok (.iconst 0, 1) := by decide +kernel
theorem d_Ph_init_76 : decode b_Ph_init 76 = .ok (.putfield 46, 3) := by decide +kernel
theorem d_Ph_init_79 : decode b_Ph_init 79 = .ok (.aload_n 0, 1) := by decide +kernel
theorem d_Ph_init_80 : decode b_Ph_init 80 = .ok (.bipush 30, 2) := by decide +kernel
theorem d_Ph_init_82 : decode b_Ph_init 82 = .ok (.putfield 49, 3) := by decide +kernel
theorem d_Ph_init_85 : decode b_Ph_init 85 = .ok (.return_, 1) := by decide +kernel
theorem d_Ph_has_0 : decode b_Ph_has 0 = .ok (.iload_n 1, 1) := by decide +kernel
theorem d_Ph_has_1 : decode b_Ph_has 1 = .ok (.ifCond .lt 15, 3) := by decide +kernel
theorem d_Ph_has_4 : decode b_Ph_has 4 = .ok (.iload_n 1, 1) := by decide +kernel
theorem d_Ph_has_5 : decode b_Ph_has 5 = .ok (.aload_n 0, 1) := by decide +kernel
theorem d_Ph_has_6 : decode b_Ph_has 6 = .ok (.getfield 18, 3) := by decide +kernel
theorem d_Ph_has_9 : decode b_Ph_has 9 = .ok (.if_icmp .ge 7, 3) := by decide +kernel
theorem d_Ph_has_12 : decode b_Ph_has 12 = .ok (.iconst 1, 1) := by decide +kernel
theorem d_Ph_has_13 : decode b_Ph_has 13 = .ok (.goto 4, 3) := by decide +kernel
theorem d_Ph_has_16 : decode b_Ph_has 16 = .ok (.iconst 0, 1) := by decide +kernel
theorem d_Ph_has_17 : decode b_Ph_has 17 = .ok (.ireturn, 1) := by decide +kernel
theorem d_Ph_append_0 : decode b_Ph_append 0 = .ok (.aload_n 0, 1) := by decide +kernel
theorem d_Ph_append_1 : decode b_Ph_append 1 = .ok (.getfield 18, 3) := by decide +kernel
theorem d_Ph_append_4 : decode b_Ph_append 4 = .ok (.iconst 4, 1) := by decide +kernel
theorem d_Ph_append_5 : decode b_Ph_append 5 = .ok (.if_icmp .lt 6, 3) := by decide +kernel
theorem d_Ph_append_8 : decode b_Ph_append 8 = .ok (.bipush (-4), 2) := by decide +kernel
theorem d_Ph_append_10 : decode b_Ph_append 10 = .ok (.ireturn, 1) := by decide +kernel
theorem d_Ph_append_11 : decode b_Ph_append 11 = .ok (.aload_n 0, 1) := by decide +kernel
theorem d_Ph_append_12 : decode b_Ph_append 12 = .ok (.getfield 9, 3) := by decide +kernel
theorem d_Ph_append_15 : decode b_Ph_append 15 = .ok (.aload_n 0, 1) := by decide +kernel
theorem d_Ph_append_16 : decode b_Ph_append 16 = .ok (.getfield 18, 3) := by decide +kernel
theorem d_Ph_append_19 : decode b_Ph_append 19 = .ok (.iload_n 1, 1) := by decide +kernel
theorem d_Ph_append_20 : decode b_Ph_append 20 = .ok (.iastore, 1) := by decide +kernel
theorem d_Ph_append_21 : decode b_Ph_append 21 = .ok (.aload_n 0, 1) := by decide +kernel
theorem d_Ph_append_22 : decode b_Ph_append 22 = .ok (.getfield 15, 3) := by decide +kernel
theorem d_Ph_append_25 : decode b_Ph_append 25 = .ok (.aload_n 0, 1) := by decide +kernel
theorem d_Ph_append_26 : decode b_Ph_append 26 = .ok (.getfield 18, 3) := by decide +kernel
theorem d_Ph_append_29 : decode b_Ph_append 29 = .ok (.iload_n 2, 1) := by decide +kernel
theorem d_Ph_append_30 : decode b_Ph_append 30 = .ok (.iastore, 1) := by decide +kernel
theorem d_Ph_append_31 : decode b_Ph_append 31 = .ok (.aload_n 0, 1) := by decide +kernel
theorem d_Ph_append_32 : decode b_Ph_append 32 = .ok (.dup, 1) := by decide +kernel
theorem d_Ph_append_33 : decode b_Ph_append 33 = .ok (.getfield 18, 3) := by decide +kernel
theorem d_Ph_append_36 : decode b_Ph_append 36 = .ok (.iconst 1, 1) := by decide +kernel
theorem d_Ph_append_37 : decode b_Ph_append 37 = .ok (.iadd, 1) := by decide +kernel
theorem d_Ph_append_38 : decode b_Ph_append 38 = .ok (.putfield 18, 3) := by decide +kernel
theorem d_Ph_append_41 : decode b_Ph_append 41 = .ok (.aload_n 0, 1) := by decide +kernel
theorem d_Ph_append_42 : decode b_Ph_append 42 = .ok (.invokevirtual 52, 3) := by decide +kernel
theorem d_Ph_append_45 : decode b_Ph_append 45 = .ok (.aload_n 0, 1) := by decide +kernel
theorem d_Ph_append_46 : decode b_Ph_append 46 = .ok (.getfield 18, 3) := by decide +kernel
theorem d_Ph_append_49 : decode b_Ph_append 49 = .ok (.iconst 1, 1) := by decide +kernel
theorem d_Ph_append_50 : decode b_Ph_append 50 = .ok (.isub, 1) := by decide +kernel
theorem d_Ph_append_51 : decode b_Ph_append 51 = .ok (.ireturn, 1) := by decide +kernel
theorem d_Ph_dropAll_0 : decode b_Ph_dropAll 0 = .ok (.aload_n 0, 1) := by decide +kernel
theorem d_Ph_dropAll_1 : decode b_Ph_dropAll 1 = .ok (.getfield 18, 3) := by decide +kernel
theorem d_Ph_dropAll_4 : decode b_Ph_dropAll 4 = .ok (.istore_n 1, 1) := by decide +kernel
theorem d_Ph_dropAll_5 : decode b_Ph_dropAll 5 = .ok (.aload_n 0, 1) := by decide +kernel
theorem d_Ph_dropAll_6 : decode b_Ph_dropAll 6 = .ok (.iconst 0, 1) := by decide +kernel
theorem d_Ph_dropAll_7 : decode b_Ph_dropAll 7 = .ok (.putfield 18, 3) := by decide +kernel
theorem d_Ph_dropAll_10 : decode b_Ph_dropAll 10 = .ok (.aload_n 0, 1) := by decide +kernel
theorem d_Ph_dropAll_11 : decode b_Ph_dropAll 11 = .ok (.invokevirtual 52, 3) := by decide +kernel
theorem d_Ph_dropAll_14 : decode b_Ph_dropAll 14 = .ok (.iload_n 1, 1) := by decide +kernel
theorem d_Ph_dropAll_15 : decode b_Ph_dropAll 15 = .ok (.ireturn, 1) := by decide +kernel
theorem d_Ph_outdate_0 : decode b_Ph_outdate 0 = .ok (.aload_n 0, 1) := by decide +kernel
theorem d_Ph_outdate_1 : decode b_Ph_outdate 1 = .ok (.iconst 0, 1) := by decide +kernel
theorem d_Ph_outdate_2 : decode b_Ph_outdate 2 = .ok (.putfield 22, 3) := by decide +kernel
theorem d_Ph_outdate_5 : decode b_Ph_outdate 5 = .ok (.return_, 1) := by decide +kernel
theorem d_Ph_hasChoice_0 : decode b_Ph_hasChoice 0 = .ok (.aload_n 0, 1) := by decide +kernel
theorem d_Ph_hasChoice_1 : decode b_Ph_hasChoice 1 = .ok (.getfield 43, 3) := by decide +kernel
theorem d_Ph_hasChoice_4 : decode b_Ph_hasChoice 4 = .ok (.bipush 77, 2) := by decide +kernel
theorem d_Ph_hasChoice_6 : decode b_Ph_hasChoice 6 = .ok (.if_icmp .eq 7, 3) := by decide +kernel
theorem d_Ph_hasChoice_9 : decode b_Ph_hasChoice 9 = .ok (.iconst 1, 1) := by decide +kernel
theorem d_Ph_hasChoice_10 : decode b_Ph_hasChoice 10 = .ok (.goto 4, 3) := by decide +kernel
theorem d_Ph_hasChoice_13 : decode b_Ph_hasChoice 13 = .ok (.iconst 0, 1) := by decide +kernel
theorem d_Ph_hasChoice_14 : decode b_Ph_hasChoice 14 = .ok (.ireturn, 1) := by decide +kernel
theorem d_Ph_leastMoved_0 : decode b_Ph_leastMoved 0 = .ok (.aload_n 0, 1) := by decide +kernel
theorem d_Ph_leastMoved_1 : decode b_Ph_leastMoved 1 = .ok (.getfield 43, 3) := by decide +kernel
theorem d_Ph_leastMoved_4 : decode b_Ph_leastMoved 4 = .ok (.ireturn, 1) := by decide +kernel
theorem d_Ph_placeInFirst_0 : decode b_Ph_placeInFirst 0 = .ok (.aload_n 0, 1) := by decide +kernel
theorem d_Ph_placeInFirst_1 : decode b_Ph_placeInFirst 1 = .ok (.iload_n 1, 1) := by decide +kernel
theorem d_Ph_placeInFirst_2 : decode b_Ph_placeInFirst 2 = .ok (.invokevirtual 55, 3) := by decide +kernel
theorem d_Ph_placeInFirst_5 : decode b_Ph_placeInFirst 5 = .ok (.ifCond .eq 12, 3) := by decide +kernel
theorem d_Ph_placeInFirst_8 : decode b_Ph_placeInFirst 8 = .ok (.aload_n 0, 1) := by decide +kernel
theorem d_Ph_placeInFirst_9 : decode b_Ph_placeInFirst 9 = .ok (.getfield 37, 3) := by decide +kernel
theorem d_Ph_placeInFirst_12 : decode b_Ph_placeInFirst 12 = .ok (.iload_n 1, 1) := by decide +kernel
theorem d_Ph_placeInFirst_13 : decode b_Ph_placeInFirst 13 = .ok (.iaload, 1) := by decide +kernel
theorem d_Ph_placeInFirst_14 : decode b_Ph_placeInFirst 14 = .ok (.goto 4, 3) := by decide +kernel
theorem d_Ph_placeInFirst_17 : decode b_Ph_placeInFirst 17 = .ok (.iconst (-1), 1) := by decide +kernel
theorem d_Ph_placeInFirst_18 : decode b_Ph_placeInFirst 18 = .ok (.ireturn, 1) := by decide +kernel
theorem d_Ph_shortestBegin_0 : decode b_Ph_shortestBegin 0 = .ok (.aload_n 0, 1) := by decide +kernel
theorem d_Ph_shortestBegin_1 : decode b_Ph_shortestBegin 1 = .ok (.getfield 46, 3) := by decide +kernel
theorem d_Ph_shortestBegin_4 : decode b_Ph_shortestBegin 4 = .ok (.ireturn, 1) := by decide +kernel
theorem d_Ph_shortestEnd_0 : decode b_Ph_shortestEnd 0 = .ok (.aload_n 0, 1) := by decide +kernel
theorem d_Ph_shortestEnd_1 : decode b_Ph_shortestEnd 1 = .ok (.getfield 49, 3) := by decide +kernel
theorem d_Ph_shortestEnd_4 : decode b_Ph_shortestEnd 4 = .ok (.ireturn, 1) := by decide +kernel
theorem d_Ph_choicesMovedBy_0 : decode b_Ph_choicesMovedBy 0 = .ok (.iload_n 1, 1) := by decide +kernel
theorem d_Ph_choicesMovedBy_1 : decode b_Ph_choicesMovedBy 1 = .ok (.ifCond .lt 18, 3) := by decide +kernel
theorem d_Ph_choicesMovedBy_4 : decode b_Ph_choicesMovedBy 4 = .ok (.iload_n 1, 1) := by decide +kernel
theorem d_Ph_choicesMovedBy_5 : decode b_Ph_choicesMovedBy 5 = .ok (.bipush 76, 2) := by decide +kernel
theorem d_Ph_choicesMovedBy_7 : decode b_Ph_choicesMovedBy 7 = .ok (.if_icmp .gt 12, 3) := by decide +kernel
theorem d_Ph_choicesMovedBy_10 : decode b_Ph_choicesMovedBy 10 = .ok (.aload_n 0, 1) := by decide +kernel
theorem d_Ph_choicesMovedBy_11 : decode b_Ph_choicesMovedBy 11 = .ok (.getfield 40, 3) := by decide +kernel
theorem d_Ph_choicesMovedBy_14 : decode b_Ph_choicesMovedBy 14 = .ok (.iload_n 1, 1) := by decide +kernel
theorem d_Ph_choicesMovedBy_15 : decode b_Ph_choicesMovedBy 15 = .ok (.iaload, 1) := by decide +kernel
theorem d_Ph_choicesMovedBy_16 : decode b_Ph_choicesMovedBy 16 = .ok (.goto 4, 3) := by decide +kernel
theorem d_Ph_choicesMovedBy_19 : decode b_Ph_choicesMovedBy 19 = .ok (.iconst 0, 1) := by decide +kernel
theorem d_Ph_choicesMovedBy_20 : decode b_Ph_choicesMovedBy 20 = .ok (.ireturn, 1) := by decide +kernel
theorem d_Ph_choicesUpTo_0 : decode b_Ph_choicesUpTo 0 = .ok (.iconst 0, 1) := by decide +kernel
theorem d_Ph_choicesUpTo_1 : decode b_Ph_choicesUpTo 1 = .ok (.istore_n 2, 1) := by decide +kernel
theorem d_Ph_choicesUpTo_2 : decode b_Ph_choicesUpTo 2 = .ok (.iconst 0, 1) := by decide +kernel
theorem d_Ph_choicesUpTo_3 : decode b_Ph_choicesUpTo 3 = .ok (.istore_n 3, 1) := by decide +kernel
theorem d_Ph_choicesUpTo_4 : decode b_Ph_choicesUpTo 4 = .ok (.iload_n 3, 1) := by decide +kernel
theorem d_Ph_choicesUpTo_5 : decode b_Ph_choicesUpTo 5 = .ok (.iload_n 1, 1) := by decide +kernel
theorem d_Ph_choicesUpTo_6 : decode b_Ph_choicesUpTo 6 = .ok (.if_icmp .gt 24, 3) := by decide +kernel
theorem d_Ph_choicesUpTo_9 : decode b_Ph_choicesUpTo 9 = .ok (.iload_n 3, 1) := by decide +kernel
theorem d_Ph_choicesUpTo_10 : decode b_Ph_choicesUpTo 10 = .ok (.bipush 9, 2) := by decide +kernel
theorem d_Ph_choicesUpTo_12 : decode b_Ph_choicesUpTo 12 = .ok (.if_icmp .gt 18, 3) := by decide +kernel
theorem d_Ph_choicesUpTo_15 : decode b_Ph_choicesUpTo 15 = .ok (.iload_n 2, 1) := by decide +kernel
theorem d_Ph_choicesUpTo_16 : decode b_Ph_choicesUpTo 16 = .ok (.aload_n 0, 1) := by decide +kernel
theorem d_Ph_choicesUpTo_17 : decode b_Ph_choicesUpTo 17 = .ok (.getfield 40, 3) := by decide +kernel
theorem d_Ph_choicesUpTo_20 : decode b_Ph_choicesUpTo 20 = .ok (.iload_n 3, 1) := by decide +kernel
theorem d_Ph_choicesUpTo_21 : decode b_Ph_choicesUpTo 21 = .ok (.iaload, 1) := by decide +kernel
theorem d_Ph_choicesUpTo_22 : decode b_Ph_choicesUpTo 22 = .ok (.iadd, 1) := by decide +kernel
theorem d_Ph_choicesUpTo_23 : decode b_Ph_choicesUpTo 23 = .ok (.istore_n 2, 1) := by decide +kernel
theorem d_Ph_choicesUpTo_24 : decode b_Ph_choicesUpTo 24 = .ok (.iinc 3 1, 3) := by decide +kernel
theorem d_Ph_choicesUpTo_27 : decode b_Ph_choicesUpTo 27 = .ok (.goto (-23), 3) := by decide +kernel
theorem d_Ph_choicesUpTo_30 : decode b_Ph_choicesUpTo 30 = .ok (.iload_n 2, 1) := by decide +kernel
theorem d_Ph_choicesUpTo_31 : decode b_Ph_choicesUpTo 31 = .ok (.ireturn, 1) := by decide +kernel
theorem d_Ph_weightUpTo_0 : decode b_Ph_weightUpTo 0 = .ok (.lconst 0, 1) := by decide +kernel
theorem d_Ph_weightUpTo_1 : decode b_Ph_weightUpTo 1 = .ok (.lstore_n 2, 1) := by decide +kernel
theorem d_Ph_weightUpTo_2 : decode b_Ph_weightUpTo 2 = .ok (.iconst 0, 1) := by decide +kernel
theorem d_Ph_weightUpTo_3 : decode b_Ph_weightUpTo 3 = .ok (.istore 4, 2) := by decide +kernel
theorem d_Ph_weightUpTo_5 : decode b_Ph_weightUpTo 5 = .ok (.iload 4, 2) := by decide +kernel
theorem d_Ph_weightUpTo_7 : decode b_Ph_weightUpTo 7 = .ok (.iload_n 1, 1) := by decide +kernel
theorem d_Ph_weightUpTo_8 : decode b_Ph_weightUpTo 8 = .ok (.if_icmp .gt 37, 3) := by decide +kernel
theorem d_Ph_weightUpTo_11 : decode b_Ph_weightUpTo 11 = .ok (.iload 4, 2) := by decide +kernel
theorem d_Ph_weightUpTo_13 : decode b_Ph_weightUpTo 13 = .ok (.bipush 9, 2) := by decide +kernel
theorem d_Ph_weightUpTo_15 : decode b_Ph_weightUpTo 15 = .ok (.if_icmp .gt 30, 3) := by decide +kernel
theorem d_Ph_weightUpTo_18 : decode b_Ph_weightUpTo 18 = .ok (.lload_n 2, 1) := by decide +kernel
theorem d_Ph_weightUpTo_19 : decode b_Ph_weightUpTo 19 = .ok (.aload_n 0, 1) := by decide +kernel
theorem d_Ph_weightUpTo_20 : decode b_Ph_weightUpTo 20 = .ok (.getfield 40, 3) := by decide +kernel
theorem d_Ph_weightUpTo_23 : decode b_Ph_weightUpTo 23 = .ok (.iload 4, 2) := by decide +kernel
theorem d_Ph_weightUpTo_25 : decode b_Ph_weightUpTo 25 = .ok (.iaload, 1) := by decide +kernel
theorem d_Ph_weightUpTo_26 : decode b_Ph_weightUpTo 26 = .ok (.i2l, 1) := by decide +kernel
theorem d_Ph_weightUpTo_27 : decode b_Ph_weightUpTo 27 = .ok (.ldc2_w 59, 3) := by decide +kernel
theorem d_Ph_weightUpTo_30 : decode b_Ph_weightUpTo 30 = .ok (.iload 4, 2) := by decide +kernel
theorem d_Ph_weightUpTo_32 : decode b_Ph_weightUpTo 32 = .ok (.iconst 1, 1) := by decide +kernel
theorem d_Ph_weightUpTo_33 : decode b_Ph_weightUpTo 33 = .ok (.iadd, 1) := by decide +kernel
theorem d_Ph_weightUpTo_34 : decode b_Ph_weightUpTo 34 = .ok (.i2l, 1) := by decide +kernel
theorem d_Ph_weightUpTo_35 : decode b_Ph_weightUpTo 35 = .ok (.ldiv, 1) := by decide +kernel
theorem d_Ph_weightUpTo_36 : decode b_Ph_weightUpTo 36 = .ok (.lmul, 1) := by decide +kernel
theorem d_Ph_weightUpTo_37 : decode b_Ph_weightUpTo 37 = .ok (.ladd, 1) := by decide +kernel
theorem d_Ph_weightUpTo_38 : decode b_Ph_weightUpTo 38 = .ok (.lstore_n 2, 1) := by decide +kernel
theorem d_Ph_weightUpTo_39 : decode b_Ph_weightUpTo 39 = .ok (.iinc 4 1, 3) := by decide +kernel
theorem d_Ph_weightUpTo_42 : decode b_Ph_weightUpTo 42 = .ok (.goto (-37), 3) := by decide +kernel
theorem d_Ph_weightUpTo_45 : decode b_Ph_weightUpTo 45 = .ok (.lload_n 2, 1) := by decide +kernel
theorem d_Ph_weightUpTo_46 : decode b_Ph_weightUpTo 46 = .ok (.lreturn, 1) := by decide +kernel
theorem d_Ph_settle_0 : decode b_Ph_settle 0 = .ok (.aload_n 0, 1) := by decide +kernel
theorem d_Ph_settle_1 : decode b_Ph_settle 1 = .ok (.getfield 22, 3) := by decide +kernel
theorem d_Ph_settle_4 : decode b_Ph_settle 4 = .ok (.ifCond .eq 4, 3) := by decide +kernel
theorem d_Ph_settle_7 : decode b_Ph_settle 7 = .ok (.return_, 1) := by decide +kernel
theorem d_Ph_settle_8 : decode b_Ph_settle 8 = .ok (.aload_n 0, 1) := by decide +kernel
theorem d_Ph_settle_9 : decode b_Ph_settle 9 = .ok (.getfield 40, 3) := by decide +kernel
theorem d_Ph_settle_12 : decode b_Ph_settle 12 = .ok (.iconst 0, 1) := by decide +kernel
theorem d_Ph_settle_13 : decode b_Ph_settle 13 = .ok (.invokestatic 61, 3) := by decide +kernel
theorem d_Ph_settle_16 : decode b_Ph_settle 16 = .ok (.aload_n 0, 1) := by decide +kernel
theorem d_Ph_settle_17 : decode b_Ph_settle 17 = .ok (.bipush 77, 2) := by decide +kernel
theorem d_Ph_settle_19 : decode b_Ph_settle 19 = .ok (.putfield 43, 3) := by decide +kernel
theorem d_Ph_settle_22 : decode b_Ph_settle 22 = .ok (.aload_n 0, 1) := by decide +kernel
theorem d_Ph_settle_23 : decode b_Ph_settle 23 = .ok (.iconst 0, 1) := by decide +kernel
theorem d_Ph_settle_24 : decode b_Ph_settle 24 = .ok (.putfield 46, 3) := by decide +kernel
theorem d_Ph_settle_27 : decode b_Ph_settle 27 = .ok (.aload_n 0, 1) := by decide +kernel
theorem d_Ph_settle_28 : decode b_Ph_settle 28 = .ok (.bipush 30, 2) := by decide +kernel
theorem d_Ph_settle_30 : decode b_Ph_settle 30 = .ok (.putfield 49, 3) := by decide +kernel
theorem d_Ph_settle_33 : decode b_Ph_settle 33 = .ok (.aload_n 0, 1) := by decide +kernel
theorem d_Ph_settle_34 : decode b_Ph_settle 34 = .ok (.getfield 18, 3) := by decide +kernel
theorem d_Ph_settle_37 : decode b_Ph_settle 37 = .ok (.ifCond .le 26, 3) := by decide +kernel
theorem d_Ph_settle_40 : decode b_Ph_settle 40 = .ok (.aload_n 0, 1) := by decide +kernel
theorem d_Ph_settle_41 : decode b_Ph_settle 41 = .ok (.aload_n 1, 1) := by decide +kernel
theorem d_Ph_settle_42 : decode b_Ph_settle 42 = .ok (.invokevirtual 67, 3) := by decide +kernel
theorem d_Ph_settle_45 : decode b_Ph_settle 45 = .ok (.aload_n 0, 1) := by decide +kernel
theorem d_Ph_settle_46 : decode b_Ph_settle 46 = .ok (.iconst 0, 1) := by decide +kernel
theorem d_Ph_settle_47 : decode b_Ph_settle 47 = .ok (.iconst 0, 1) := by decide +kernel
theorem d_Ph_settle_48 : decode b_Ph_settle 48 = .ok (.bipush (-9), 2) := by decide +kernel
theorem d_Ph_settle_50 : decode b_Ph_settle 50 = .ok (.bipush 29, 2) := by decide +kernel
theorem d_Ph_settle_52 : decode b_Ph_settle 52 = .ok (.invokevirtual 71, 3) := by decide +kernel
theorem d_Ph_settle_55 : decode b_Ph_settle 55 = .ok (.aload_n 0, 1) := by decide +kernel
theorem d_Ph_settle_56 : decode b_Ph_settle 56 = .ok (.iconst 0, 1) := by decide +kernel
theorem d_Ph_settle_57 : decode b_Ph_settle 57 = .ok (.bipush 30, 2) := by decide +kernel
theorem d_Ph_settle_59 : decode b_Ph_settle 59 = .ok (.iconst (-1), 1) := by decide +kernel
theorem d_Ph_settle_60 : decode b_Ph_settle 60 = .ok (.invokevirtual 75, 3) := by decide +kernel
theorem d_Ph_settle_63 : decode b_Ph_settle 63 = .ok (.aload_n 0, 1) := by decide +kernel
theorem d_Ph_settle_64 : decode b_Ph_settle 64 = .ok (.iconst 1, 1) := by decide +kernel
theorem d_Ph_settle_65 : decode b_Ph_settle 65 = .ok (.putfield 22, 3) := by decide +kernel
theorem d_Ph_settle_68 : decode b_Ph_settle 68 = .ok (.return_, 1) := by decide +kernel
theorem d_Ph_findPlaces_0 : decode b_Ph_findPlaces 0 = .ok (.iconst 0, 1) := by decide +kernel
theorem d_Ph_findPlaces_1 : decode b_Ph_findPlaces 1 = .ok (.istore_n 2, 1) := by decide +kernel
theorem d_Ph_findPlaces_2 : decode b_Ph_findPlaces 2 = .ok (.iload_n 2, 1) := by decide +kernel
theorem d_Ph_findPlaces_3 : decode b_Ph_findPlaces 3 = .ok (.aload_n 0, 1) := by decide +kernel
theorem d_Ph_findPlaces_4 : decode b_Ph_findPlaces 4 = .ok (.getfield 18, 3) := by decide +kernel
theorem d_Ph_findPlaces_7 : decode b_Ph_findPlaces 7 = .ok (.if_icmp .ge 61, 3) := by decide +kernel
theorem d_Ph_findPlaces_10 : decode b_Ph_findPlaces 10 = .ok (.iconst 0, 1) := by decide +kernel
theorem d_Ph_findPlaces_11 : decode b_Ph_findPlaces 11 = .ok (.istore_n 3, 1) := by decide +kernel
theorem d_Ph_findPlaces_12 : decode b_Ph_findPlaces 12 = .ok (.iconst 0, 1) := by decide +kernel
theorem d_Ph_findPlaces_13 : decode b_Ph_findPlaces 13 = .ok (.istore 4, 2) := by decide +kernel
theorem d_Ph_findPlaces_15 : decode b_Ph_findPlaces 15 = .ok (.iload 4, 2) := by decide +kernel
theorem d_Ph_findPlaces_17 : decode b_Ph_findPlaces 17 = .ok (.bipush 30, 2) := by decide +kernel
theorem d_Ph_findPlaces_19 : decode b_Ph_findPlaces 19 = .ok (.if_icmp .ge 36, 3) := by decide +kernel
theorem d_Ph_findPlaces_22 : decode b_Ph_findPlaces 22 = .ok (.aload_n 1, 1) := by decide +kernel
theorem d_Ph_findPlaces_23 : decode b_Ph_findPlaces 23 = .ok (.iload 4, 2) := by decide +kernel
theorem d_Ph_findPlaces_25 : decode b_Ph_findPlaces 25 = .ok (.iaload, 1) := by decide +kernel
theorem d_Ph_findPlaces_26 : decode b_Ph_findPlaces 26 = .ok (.aload_n 0, 1) := by decide +kernel
theorem d_Ph_findPlaces_27 : decode b_Ph_findPlaces 27 = .ok (.getfield 15, 3) := by decide +kernel
theorem d_Ph_findPlaces_30 : decode b_Ph_findPlaces 30 = .ok (.iload_n 2, 1) := by decide +kernel
theorem d_Ph_findPlaces_31 : decode b_Ph_findPlaces 31 = .ok (.iaload, 1) := by decide +kernel
theorem d_Ph_findPlaces_32 : decode b_Ph_findPlaces 32 = .ok (.iand, 1) := by decide +kernel
theorem d_Ph_findPlaces_33 : decode b_Ph_findPlaces 33 = .ok (.ifCond .eq 16, 3) := by decide +kernel
theorem d_Ph_findPlaces_36 : decode b_Ph_findPlaces 36 = .ok (.aload_n 0, 1) := by decide +kernel
theorem d_Ph_findPlaces_37 : decode b_Ph_findPlaces 37 = .ok (.getfield 28, 3) := by decide +kernel
theorem d_Ph_findPlaces_40 : decode b_Ph_findPlaces 40 = .ok (.iload_n 2, 1) := by decide +kernel
theorem d_Ph_findPlaces_41 : decode b_Ph_findPlaces 41 = .ok (.aaload, 1) := by decide +kernel
theorem d_Ph_findPlaces_42 : decode b_Ph_findPlaces 42 = .ok (.iload_n 3, 1) := by decide +kernel
theorem d_Ph_findPlaces_43 : decode b_Ph_findPlaces 43 = .ok (.iload 4, 2) := by decide +kernel
theorem d_Ph_findPlaces_45 : decode b_Ph_findPlaces 45 = .ok (.iastore, 1) := by decide +kernel
theorem d_Ph_findPlaces_46 : decode b_Ph_findPlaces 46 = .ok (.iinc 3 1, 3) := by decide +kernel
theorem d_Ph_findPlaces_49 : decode b_Ph_findPlaces 49 = .ok (.iinc 4 1, 3) := by decide +kernel
theorem d_Ph_findPlaces_52 : decode b_Ph_findPlaces 52 = .ok (.goto (-37), 3) := by decide +kernel
theorem d_Ph_findPlaces_55 : decode b_Ph_findPlaces 55 = .ok (.aload_n 0, 1) := by decide +kernel
theorem d_Ph_findPlaces_56 : decode b_Ph_findPlaces 56 = .ok (.getfield 31, 3) := by decide +kernel
theorem d_Ph_findPlaces_59 : decode b_Ph_findPlaces 59 = .ok (.iload_n 2, 1) := by decide +kernel
theorem d_Ph_findPlaces_60 : decode b_Ph_findPlaces 60 = .ok (.iload_n 3, 1) := by decide +kernel
theorem d_Ph_findPlaces_61 : decode b_Ph_findPlaces 61 = .ok (.iastore, 1) := by decide +kernel
theorem d_Ph_findPlaces_62 : decode b_Ph_findPlaces 62 = .ok (.iinc 2 1, 3) := by decide +kernel
theorem d_Ph_findPlaces_65 : decode b_Ph_findPlaces 65 = .ok (.goto (-63), 3) := by decide +kernel
theorem d_Ph_findPlaces_68 : decode b_Ph_findPlaces 68 = .ok (.return_, 1) := by decide +kernel
theorem d_Ph_searchMoved_0 : decode b_Ph_searchMoved 0 = .ok (.iload_n 1, 1) := by decide +kernel
theorem d_Ph_searchMoved_1 : decode b_Ph_searchMoved 1 = .ok (.aload_n 0, 1) := by decide +kernel
theorem d_Ph_searchMoved_2 : decode b_Ph_searchMoved 2 = .ok (.getfield 18, 3) := by decide +kernel
theorem d_Ph_searchMoved_5 : decode b_Ph_searchMoved 5 = .ok (.if_icmp .lt 9, 3) := by decide +kernel
theorem d_Ph_searchMoved_8 : decode b_Ph_searchMoved 8 = .ok (.aload_n 0, 1) := by decide +kernel
theorem d_Ph_searchMoved_9 : decode b_Ph_searchMoved 9 = .ok (.iload_n 2, 1) := by decide +kernel
theorem d_Ph_searchMoved_10 : decode b_Ph_searchMoved 10 = .ok (.invokevirtual 79, 3) := by decide +kernel
theorem d_Ph_searchMoved_13 : decode b_Ph_searchMoved 13 = .ok (.return_, 1) := by decide +kernel
theorem d_Ph_searchMoved_14 : decode b_Ph_searchMoved 14 = .ok (.iconst 0, 1) := by decide +kernel
theorem d_Ph_searchMoved_15 : decode b_Ph_searchMoved 15 = .ok (.istore 5, 2) := by decide +kernel
theorem d_Ph_searchMoved_17 : decode b_Ph_searchMoved 17 = .ok (.iload 5, 2) := by decide +kernel
theorem d_Ph_searchMoved_19 : decode b_Ph_searchMoved 19 = .ok (.aload_n 0, 1) := by decide +kernel
theorem d_Ph_searchMoved_20 : decode b_Ph_searchMoved 20 = .ok (.getfield 31, 3) := by decide +kernel
theorem d_Ph_searchMoved_23 : decode b_Ph_searchMoved 23 = .ok (.iload_n 1, 1) := by decide +kernel
theorem d_Ph_searchMoved_24 : decode b_Ph_searchMoved 24 = .ok (.iaload, 1) := by decide +kernel
theorem d_Ph_searchMoved_25 : decode b_Ph_searchMoved 25 = .ok (.if_icmp .ge 131, 3) := by decide +kernel
theorem d_Ph_searchMoved_28 : decode b_Ph_searchMoved 28 = .ok (.aload_n 0, 1) := by decide +kernel
theorem d_Ph_searchMoved_29 : decode b_Ph_searchMoved 29 = .ok (.getfield 28, 3) := by decide +kernel
theorem d_Ph_searchMoved_32 : decode b_Ph_searchMoved 32 = .ok (.iload_n 1, 1) := by decide +kernel
theorem d_Ph_searchMoved_33 : decode b_Ph_searchMoved 33 = .ok (.aaload, 1) := by decide +kernel
theorem d_Ph_searchMoved_34 : decode b_Ph_searchMoved 34 = .ok (.iload 5, 2) := by decide +kernel
theorem d_Ph_searchMoved_36 : decode b_Ph_searchMoved 36 = .ok (.iaload, 1) := by decide +kernel
theorem d_Ph_searchMoved_37 : decode b_Ph_searchMoved 37 = .ok (.istore 6, 2) := by decide +kernel
theorem d_Ph_searchMoved_39 : decode b_Ph_searchMoved 39 = .ok (.iload 6, 2) := by decide +kernel
theorem d_Ph_searchMoved_41 : decode b_Ph_searchMoved 41 = .ok (.aload_n 0, 1) := by decide +kernel
theorem d_Ph_searchMoved_42 : decode b_Ph_searchMoved 42 = .ok (.getfield 9, 3) := by decide +kernel
theorem d_Ph_searchMoved_45 : decode b_Ph_searchMoved 45 = .ok (.iload_n 1, 1) := by decide +kernel
theorem d_Ph_searchMoved_46 : decode b_Ph_searchMoved 46 = .ok (.iaload, 1) := by decide +kernel
theorem d_Ph_searchMoved_47 : decode b_Ph_searchMoved 47 = .ok (.isub, 1) := by decide +kernel
theorem d_Ph_searchMoved_48 : decode b_Ph_searchMoved 48 = .ok (.istore 7, 2) := by decide +kernel
theorem d_Ph_searchMoved_50 : decode b_Ph_searchMoved 50 = .ok (.iload_n 3, 1) := by decide +kernel
theorem d_Ph_searchMoved_51 : decode b_Ph_searchMoved 51 = .ok (.iload 4, 2) := by decide +kernel
theorem d_Ph_searchMoved_53 : decode b_Ph_searchMoved 53 = .ok (.iload 7, 2) := by decide +kernel
theorem d_Ph_searchMoved_55 : decode b_Ph_searchMoved 55 = .ok (.invokestatic 83, 3) := by decide +kernel
theorem d_Ph_searchMoved_58 : decode b_Ph_searchMoved 58 = .ok (.invokestatic 89, 3) := by decide +kernel
theorem d_Ph_searchMoved_61 : decode b_Ph_searchMoved 61 = .ok (.istore 8, 2) := by decide +kernel
theorem d_Ph_searchMoved_63 : decode b_Ph_searchMoved 63 = .ok (.iload_n 2, 1) := by decide +kernel
theorem d_Ph_searchMoved_64 : decode b_Ph_searchMoved 64 = .ok (.iload 7, 2) := by decide +kernel
theorem d_Ph_searchMoved_66 : decode b_Ph_searchMoved 66 = .ok (.iload 8, 2) := by decide +kernel
theorem d_Ph_searchMoved_68 : decode b_Ph_searchMoved 68 = .ok (.isub, 1) := by decide +kernel
theorem d_Ph_searchMoved_69 : decode b_Ph_searchMoved 69 = .ok (.invokestatic 92, 3) := by decide +kernel
theorem d_Ph_searchMoved_72 : decode b_Ph_searchMoved 72 = .ok (.iadd, 1) := by decide +kernel
theorem d_Ph_searchMoved_73 : decode b_Ph_searchMoved 73 = .ok (.istore 9, 2) := by decide +kernel
theorem d_Ph_searchMoved_75 : decode b_Ph_searchMoved 75 = .ok (.iload 9, 2) := by decide +kernel
theorem d_Ph_searchMoved_77 : decode b_Ph_searchMoved 77 = .ok (.bipush 9, 2) := by decide +kernel
theorem d_Ph_searchMoved_79 : decode b_Ph_searchMoved 79 = .ok (.aload_n 0, 1) := by decide +kernel
theorem d_Ph_searchMoved_80 : decode b_Ph_searchMoved 80 = .ok (.getfield 43, 3) := by decide +kernel
theorem d_Ph_searchMoved_83 : decode b_Ph_searchMoved 83 = .ok (.invokestatic 89, 3) := by decide +kernel
theorem d_Ph_searchMoved_86 : decode b_Ph_searchMoved 86 = .ok (.if_icmp .gt 64, 3) := by decide +kernel
theorem d_Ph_searchMoved_89 : decode b_Ph_searchMoved 89 = .ok (.aload_n 0, 1) := by decide +kernel
theorem d_Ph_searchMoved_90 : decode b_Ph_searchMoved 90 = .ok (.iload_n 1, 1) := by decide +kernel
theorem d_Ph_searchMoved_91 : decode b_Ph_searchMoved 91 = .ok (.iload 6, 2) := by decide +kernel
theorem d_Ph_searchMoved_93 : decode b_Ph_searchMoved 93 = .ok (.invokevirtual 96, 3) := by decide +kernel
theorem d_Ph_searchMoved_96 : decode b_Ph_searchMoved 96 = .ok (.ifCond .eq 54, 3) := by decide +kernel
theorem d_Ph_searchMoved_99 : decode b_Ph_searchMoved 99 = .ok (.aload_n 0, 1) := by decide +kernel
theorem d_Ph_searchMoved_100 : decode b_Ph_searchMoved 100 = .ok (.getfield 34, 3) := by decide +kernel
theorem d_Ph_searchMoved_103 : decode b_Ph_searchMoved 103 = .ok (.iload_n 1, 1) := by decide +kernel
theorem d_Ph_searchMoved_104 : decode b_Ph_searchMoved 104 = .ok (.iload 6, 2) := by decide +kernel
theorem d_Ph_searchMoved_106 : decode b_Ph_searchMoved 106 = .ok (.iastore, 1) := by decide +kernel
theorem d_Ph_searchMoved_107 : decode b_Ph_searchMoved 107 = .ok (.iload_n 1, 1) := by decide +kernel
theorem d_Ph_searchMoved_108 : decode b_Ph_searchMoved 108 = .ok (.iconst 1, 1) := by decide +kernel
theorem d_Ph_searchMoved_109 : decode b_Ph_searchMoved 109 = .ok (.if_icmp .ne 28, 3) := by decide +kernel
theorem d_Ph_searchMoved_112 : decode b_Ph_searchMoved 112 = .ok (.aload_n 0, 1) := by decide +kernel
theorem d_Ph_searchMoved_113 : decode b_Ph_searchMoved 113 = .ok (.iload_n 1, 1) := by decide +kernel
theorem d_Ph_searchMoved_114 : decode b_Ph_searchMoved 114 = .ok (.iconst 1, 1) := by decide +kernel
theorem d_Ph_searchMoved_115 : decode b_Ph_searchMoved 115 = .ok (.iadd, 1) := by decide +kernel
theorem d_Ph_searchMoved_116 : decode b_Ph_searchMoved 116 = .ok (.iload 9, 2) := by decide +kernel
theorem d_Ph_searchMoved_118 : decode b_Ph_searchMoved 118 = .ok (.iload_n 3, 1) := by decide +kernel
theorem d_Ph_searchMoved_119 : decode b_Ph_searchMoved 119 = .ok (.iload 7, 2) := by decide +kernel
theorem d_Ph_searchMoved_121 : decode b_Ph_searchMoved 121 = .ok (.invokestatic 83, 3) := by decide +kernel
theorem d_Ph_searchMoved_124 : decode b_Ph_searchMoved 124 = .ok (.iload 4, 2) := by decide +kernel
theorem d_Ph_searchMoved_126 : decode b_Ph_searchMoved 126 = .ok (.iload 7, 2) := by decide +kernel
theorem d_Ph_searchMoved_128 : decode b_Ph_searchMoved 128 = .ok (.invokestatic 89, 3) := by decide +kernel
theorem d_Ph_searchMoved_131 : decode b_Ph_searchMoved 131 = .ok (.invokevirtual 71, 3) := by decide +kernel
theorem d_Ph_searchMoved_134 : decode b_Ph_searchMoved 134 = .ok (.goto 16, 3) := by decide +kernel
theorem d_Ph_searchMoved_137 : decode b_Ph_searchMoved 137 = .ok (.aload_n 0, 1) := by decide +kernel
theorem d_Ph_searchMoved_138 : decode b_Ph_searchMoved 138 = .ok (.iload_n 1, 1) := by decide +kernel
theorem d_Ph_searchMoved_139 : decode b_Ph_searchMoved 139 = .ok (.iconst 1, 1) := by decide +kernel
theorem d_Ph_searchMoved_140 : decode b_Ph_searchMoved 140 = .ok (.iadd, 1) := by decide +kernel
theorem d_Ph_searchMoved_141 : decode b_Ph_searchMoved 141 = .ok (.iload 9, 2) := by decide +kernel
theorem d_Ph_searchMoved_143 : decode b_Ph_searchMoved 143 = .ok (.iload 8, 2) := by decide +kernel
theorem d_Ph_searchMoved_145 : decode b_Ph_searchMoved 145 = .ok (.iload 8, 2) := by decide +kernel
theorem d_Ph_searchMoved_147 : decode b_Ph_searchMoved 147 = .ok (.invokevirtual 71, 3) := by decide +kernel
theorem d_Ph_searchMoved_150 : decode b_Ph_searchMoved 150 = .ok (.iinc 5 1, 3) := by decide +kernel
theorem d_Ph_searchMoved_153 : decode b_Ph_searchMoved 153 = .ok (.goto (-136), 3) := by decide +kernel
theorem d_Ph_searchMoved_156 : decode b_Ph_searchMoved 156 = .ok (.return_, 1) := by decide +kernel
theorem d_Ph_noteChoice_0 : decode b_Ph_noteChoice 0 = .ok (.iload_n 1, 1) := by decide +kernel
theorem d_Ph_noteChoice_1 : decode b_Ph_noteChoice 1 = .ok (.ifCond .lt 9, 3) := by decide +kernel
theorem d_Ph_noteChoice_4 : decode b_Ph_noteChoice 4 = .ok (.iload_n 1, 1) := by decide +kernel
theorem d_Ph_noteChoice_5 : decode b_Ph_noteChoice 5 = .ok (.bipush 76, 2) := by decide +kernel
theorem d_Ph_noteChoice_7 : decode b_Ph_noteChoice 7 = .ok (.if_icmp .le 4, 3) := by decide +kernel
theorem d_Ph_noteChoice_10 : decode b_Ph_noteChoice 10 = .ok (.return_, 1) := by decide +kernel
theorem d_Ph_noteChoice_11 : decode b_Ph_noteChoice 11 = .ok (.aload_n 0, 1) := by decide +kernel
theorem d_Ph_noteChoice_12 : decode b_Ph_noteChoice 12 = .ok (.getfield 40, 3) := by decide +kernel
theorem d_Ph_noteChoice_15 : decode b_Ph_noteChoice 15 = .ok (.iload_n 1, 1) := by decide +kernel
theorem d_Ph_noteChoice_16 : decode b_Ph_noteChoice 16 = .ok (.dup2, 1) := by decide +kernel
theorem d_Ph_noteChoice_17 : decode b_Ph_noteChoice 17 = .ok (.iaload, 1) := by decide +kernel
theorem d_Ph_noteChoice_18 : decode b_Ph_noteChoice 18 = .ok (.iconst 1, 1) := by decide +kernel
theorem d_Ph_noteChoice_19 : decode b_Ph_noteChoice 19 = .ok (.iadd, 1) := by decide +kernel
theorem d_Ph_noteChoice_20 : decode b_Ph_noteChoice 20 = .ok (.iastore, 1) := by decide +kernel
theorem d_Ph_noteChoice_21 : decode b_Ph_noteChoice 21 = .ok (.iload_n 1, 1) := by decide +kernel
theorem d_Ph_noteChoice_22 : decode b_Ph_noteChoice 22 = .ok (.aload_n 0, 1) := by decide +kernel
theorem d_Ph_noteChoice_23 : decode b_Ph_noteChoice 23 = .ok (.getfield 43, 3) := by decide +kernel
theorem d_Ph_noteChoice_26 : decode b_Ph_noteChoice 26 = .ok (.if_icmp .ge 22, 3) := by decide +kernel
theorem d_Ph_noteChoice_29 : decode b_Ph_noteChoice 29 = .ok (.aload_n 0, 1) := by decide +kernel
theorem d_Ph_noteChoice_30 : decode b_Ph_noteChoice 30 = .ok (.iload_n 1, 1) := by decide +kernel
theorem d_Ph_noteChoice_31 : decode b_Ph_noteChoice 31 = .ok (.putfield 43, 3) := by decide +kernel
theorem d_Ph_noteChoice_34 : decode b_Ph_noteChoice 34 = .ok (.aload_n 0, 1) := by decide +kernel
theorem d_Ph_noteChoice_35 : decode b_Ph_noteChoice 35 = .ok (.getfield 34, 3) := by decide +kernel
theorem d_Ph_noteChoice_38 : decode b_Ph_noteChoice 38 = .ok (.iconst 0, 1) := by decide +kernel
theorem d_Ph_noteChoice_39 : decode b_Ph_noteChoice 39 = .ok (.aload_n 0, 1) := by decide +kernel
theorem d_Ph_noteChoice_40 : decode b_Ph_noteChoice 40 = .ok (.getfield 37, 3) := by decide +kernel
theorem d_Ph_noteChoice_43 : decode b_Ph_noteChoice 43 = .ok (.iconst 0, 1) := by decide +kernel
theorem d_Ph_noteChoice_44 : decode b_Ph_noteChoice 44 = .ok (.iconst 4, 1) := by decide +kernel
theorem d_Ph_noteChoice_45 : decode b_Ph_noteChoice 45 = .ok (.invokestatic 100, 3) := by decide +kernel
theorem d_Ph_noteChoice_48 : decode b_Ph_noteChoice 48 = .ok (.return_, 1) := by decide +kernel
theorem d_Ph_searchShortest_0 : decode b_Ph_searchShortest 0 = .ok (.iload_n 1, 1) := by decide +kernel
theorem d_Ph_searchShortest_1 : decode b_Ph_searchShortest 1 = .ok (.aload_n 0, 1) := by decide +kernel
theorem d_Ph_searchShortest_2 : decode b_Ph_searchShortest 2 = .ok (.getfield 18, 3) := by decide +kernel
theorem d_Ph_searchShortest_5 : decode b_Ph_searchShortest 5 = .ok (.if_icmp .lt 14, 3) := by decide +kernel
theorem d_Ph_searchShortest_8 : decode b_Ph_searchShortest 8 = .ok (.aload_n 0, 1) := by decide +kernel
theorem d_Ph_searchShortest_9 : decode b_Ph_searchShortest 9 = .ok (.iload_n 2, 1) := by decide +kernel
theorem d_Ph_searchShortest_10 : decode b_Ph_searchShortest 10 = .ok (.putfield 46, 3) := by decide +kernel
theorem d_Ph_searchShortest_13 : decode b_Ph_searchShortest 13 = .ok (.aload_n 0, 1) := by decide +kernel
theorem d_Ph_searchShortest_14 : decode b_Ph_searchShortest 14 = .ok (.iload_n 3, 1) := by decide +kernel
theorem d_Ph_searchShortest_15 : decode b_Ph_searchShortest 15 = .ok (.putfield 49, 3) := by decide +kernel
theorem d_Ph_searchShortest_18 : decode b_Ph_searchShortest 18 = .ok (.return_, 1) := by decide +kernel
theorem d_Ph_searchShortest_19 : decode b_Ph_searchShortest 19 = .ok (.iconst 0, 1) := by decide +kernel
theorem d_Ph_searchShortest_20 : decode b_Ph_searchShortest 20 = .ok (.istore 4, 2) := by decide +kernel
theorem d_Ph_searchShortest_22 : decode b_Ph_searchShortest 22 = .ok (.iload 4, 2) := by decide +kernel
theorem d_Ph_searchShortest_24 : decode b_Ph_searchShortest 24 = .ok (.aload_n 0, 1) := by decide +kernel
theorem d_Ph_searchShortest_25 : decode b_Ph_searchShortest 25 = .ok (.getfield 31, 3) := by decide +kernel
theorem d_Ph_searchShortest_28 : decode b_Ph_searchShortest 28 = .ok (.iload_n 1, 1) := by decide +kernel
theorem d_Ph_searchShortest_29 : decode b_Ph_searchShortest 29 = .ok (.iaload, 1) := by decide +kernel
theorem d_Ph_searchShortest_30 : decode b_Ph_searchShortest 30 = .ok (.if_icmp .ge 76, 3) := by decide +kernel
theorem d_Ph_searchShortest_33 : decode b_Ph_searchShortest 33 = .ok (.aload_n 0, 1) := by decide +kernel
theorem d_Ph_searchShortest_34 : decode b_Ph_searchShortest 34 = .ok (.getfield 28, 3) := by decide +kernel
theorem d_Ph_searchShortest_37 : decode b_Ph_searchShortest 37 = .ok (.iload_n 1, 1) := by decide +kernel
theorem d_Ph_searchShortest_38 : decode b_Ph_searchShortest 38 = .ok (.aaload, 1) := by decide +kernel
theorem d_Ph_searchShortest_39 : decode b_Ph_searchShortest 39 = .ok (.iload 4, 2) := by decide +kernel
theorem d_Ph_searchShortest_41 : decode b_Ph_searchShortest 41 = .ok (.iaload, 1) := by decide +kernel
theorem d_Ph_searchShortest_42 : decode b_Ph_searchShortest 42 = .ok (.istore 5, 2) := by decide +kernel
theorem d_Ph_searchShortest_44 : decode b_Ph_searchShortest 44 = .ok (.iload_n 2, 1) := by decide +kernel
theorem d_Ph_searchShortest_45 : decode b_Ph_searchShortest 45 = .ok (.iload 5, 2) := by decide +kernel
theorem d_Ph_searchShortest_47 : decode b_Ph_searchShortest 47 = .ok (.invokestatic 83, 3) := by decide +kernel
theorem d_Ph_searchShortest_50 : decode b_Ph_searchShortest 50 = .ok (.istore 6, 2) := by decide +kernel
theorem d_Ph_searchShortest_52 : decode b_Ph_searchShortest 52 = .ok (.iload_n 3, 1) := by decide +kernel
theorem d_Ph_searchShortest_53 : decode b_Ph_searchShortest 53 = .ok (.iload 5, 2) := by decide +kernel
theorem d_Ph_searchShortest_55 : decode b_Ph_searchShortest 55 = .ok (.invokestatic 89, 3) := by decide +kernel
theorem d_Ph_searchShortest_58 : decode b_Ph_searchShortest 58 = .ok (.istore 7, 2) := by decide +kernel
theorem d_Ph_searchShortest_60 : decode b_Ph_searchShortest 60 = .ok (.aload_n 0, 1) := by decide +kernel
theorem d_Ph_searchShortest_61 : decode b_Ph_searchShortest 61 = .ok (.iload 6, 2) := by decide +kernel
theorem d_Ph_searchShortest_63 : decode b_Ph_searchShortest 63 = .ok (.iload 7, 2) := by decide +kernel
theorem d_Ph_searchShortest_65 : decode b_Ph_searchShortest 65 = .ok (.invokevirtual 106, 3) := by decide +kernel
theorem d_Ph_searchShortest_68 : decode b_Ph_searchShortest 68 = .ok (.ifCond .eq 32, 3) := by decide +kernel
theorem d_Ph_searchShortest_71 : decode b_Ph_searchShortest 71 = .ok (.aload_n 0, 1) := by decide +kernel
theorem d_Ph_searchShortest_72 : decode b_Ph_searchShortest 72 = .ok (.iload_n 1, 1) := by decide +kernel
theorem d_Ph_searchShortest_73 : decode b_Ph_searchShortest 73 = .ok (.iload 5, 2) := by decide +kernel
theorem d_Ph_searchShortest_75 : decode b_Ph_searchShortest 75 = .ok (.invokevirtual 96, 3) := by decide +kernel
theorem d_Ph_searchShortest_78 : decode b_Ph_searchShortest 78 = .ok (.ifCond .eq 22, 3) := by decide +kernel
theorem d_Ph_searchShortest_81 : decode b_Ph_searchShortest 81 = .ok (.aload_n 0, 1) := by decide +kernel
theorem d_Ph_searchShortest_82 : decode b_Ph_searchShortest 82 = .ok (.getfield 34, 3) := by decide +kernel
theorem d_Ph_searchShortest_85 : decode b_Ph_searchShortest 85 = .ok (.iload_n 1, 1) := by decide +kernel
theorem d_Ph_searchShortest_86 : decode b_Ph_searchShortest 86 = .ok (.iload 5, 2) := by decide +kernel
theorem d_Ph_searchShortest_88 : decode b_Ph_searchShortest 88 = .ok (.iastore, 1) := by decide +kernel
theorem d_Ph_searchShortest_89 : decode b_Ph_searchShortest 89 = .ok (.aload_n 0, 1) := by decide +kernel
theorem d_Ph_searchShortest_90 : decode b_Ph_searchShortest 90 = .ok (.iload_n 1, 1) := by decide +kernel
theorem d_Ph_searchShortest_91 : decode b_Ph_searchShortest 91 = .ok (.iconst 1, 1) := by decide +kernel
theorem d_Ph_searchShortest_92 : decode b_Ph_searchShortest 92 = .ok (.iadd, 1) := by decide +kernel
theorem d_Ph_searchShortest_93 : decode b_Ph_searchShortest 93 = .ok (.iload 6, 2) := by decide +kernel
theorem d_Ph_searchShortest_95 : decode b_Ph_searchShortest 95 = .ok (.iload 7, 2) := by decide +kernel
theorem d_Ph_searchShortest_97 : decode b_Ph_searchShortest 97 = .ok (.invokevirtual 75, 3) := by decide +kernel
theorem d_Ph_searchShortest_100 : decode b_Ph_searchShortest 100 = .ok (.iinc 4 1, 3) := by decide +kernel
theorem d_Ph_searchShortest_103 : decode b_Ph_searchShortest 103 = .ok (.goto (-81), 3) := by decide +kernel
theorem d_Ph_searchShortest_106 : decode b_Ph_searchShortest 106 = .ok (.return_, 1) := by decide +kernel
theorem d_Ph_isShorter_0 : decode b_Ph_isShorter 0 = .ok (.iload_n 2, 1) := by decide +kernel
theorem d_Ph_isShorter_1 : decode b_Ph_isShorter 1 = .ok (.iload_n 1, 1) := by decide +kernel
theorem d_Ph_isShorter_2 : decode b_Ph_isShorter 2 = .ok (.isub, 1) := by decide +kernel
theorem d_Ph_isShorter_3 : decode b_Ph_isShorter 3 = .ok (.istore_n 3, 1) := by decide +kernel
theorem d_Ph_isShorter_4 : decode b_Ph_isShorter 4 = .ok (.aload_n 0, 1) := by decide +kernel
theorem d_Ph_isShorter_5 : decode b_Ph_isShorter 5 = .ok (.getfield 49, 3) := by decide +kernel
theorem d_Ph_isShorter_8 : decode b_Ph_isShorter 8 = .ok (.aload_n 0, 1) := by decide +kernel
theorem d_Ph_isShorter_9 : decode b_Ph_isShorter 9 = .ok (.getfield 46, 3) := by decide +kernel
theorem d_Ph_isShorter_12 : decode b_Ph_isShorter 12 = .ok (.isub, 1) := by decide +kernel
theorem d_Ph_isShorter_13 : decode b_Ph_isShorter 13 = .ok (.istore 4, 2) := by decide +kernel
theorem d_Ph_isShorter_15 : decode b_Ph_isShorter 15 = .ok (.iload_n 3, 1) := by decide +kernel
theorem d_Ph_isShorter_16 : decode b_Ph_isShorter 16 = .ok (.iload 4, 2) := by decide +kernel
theorem d_Ph_isShorter_18 : decode b_Ph_isShorter 18 = .ok (.if_icmp .lt 17, 3) := by decide +kernel
theorem d_Ph_isShorter_21 : decode b_Ph_isShorter 21 = .ok (.iload_n 3, 1) := by decide +kernel
theorem d_Ph_isShorter_22 : decode b_Ph_isShorter 22 = .ok (.iload 4, 2) := by decide +kernel
theorem d_Ph_isShorter_24 : decode b_Ph_isShorter 24 = .ok (.if_icmp .ne 15, 3) := by decide +kernel
theorem d_Ph_isShorter_27 : decode b_Ph_isShorter 27 = .ok (.iload_n 1, 1) := by decide +kernel
theorem d_Ph_isShorter_28 : decode b_Ph_isShorter 28 = .ok (.aload_n 0, 1) := by decide +kernel
theorem d_Ph_isShorter_29 : decode b_Ph_isShorter 29 = .ok (.getfield 46, 3) := by decide +kernel
theorem d_Ph_isShorter_32 : decode b_Ph_isShorter 32 = .ok (.if_icmp .ge 7, 3) := by decide +kernel
theorem d_Ph_isShorter_35 : decode b_Ph_isShorter 35 = .ok (.iconst 1, 1) := by decide +kernel
theorem d_Ph_isShorter_36 : decode b_Ph_isShorter 36 = .ok (.goto 4, 3) := by decide +kernel
theorem d_Ph_isShorter_39 : decode b_Ph_isShorter 39 = .ok (.iconst 0, 1) := by decide +kernel
theorem d_Ph_isShorter_40 : decode b_Ph_isShorter 40 = .ok (.ireturn, 1) := by decide +kernel
theorem d_Ph_isFree_0 : decode b_Ph_isFree 0 = .ok (.iconst 0, 1) := by decide +kernel
theorem d_Ph_isFree_1 : decode b_Ph_isFree 1 = .ok (.istore_n 3, 1) := by decide +kernel
theorem d_Ph_isFree_2 : decode b_Ph_isFree 2 = .ok (.iload_n 3, 1) := by decide +kernel
theorem d_Ph_isFree_3 : decode b_Ph_isFree 3 = .ok (.iload_n 1, 1) := by decide +kernel
theorem d_Ph_isFree_4 : decode b_Ph_isFree 4 = .ok (.if_icmp .ge 37, 3) := by decide +kernel
theorem d_Ph_isFree_7 : decode b_Ph_isFree 7 = .ok (.aload_n 0, 1) := by decide +kernel
theorem d_Ph_isFree_8 : decode b_Ph_isFree 8 = .ok (.getfield 34, 3) := by decide +kernel
theorem d_Ph_isFree_11 : decode b_Ph_isFree 11 = .ok (.iload_n 3, 1) := by decide +kernel
theorem d_Ph_isFree_12 : decode b_Ph_isFree 12 = .ok (.iaload, 1) := by decide +kernel
theorem d_Ph_isFree_13 : decode b_Ph_isFree 13 = .ok (.iload_n 2, 1) := by decide +kernel
theorem d_Ph_isFree_14 : decode b_Ph_isFree 14 = .ok (.if_icmp .ne 21, 3) := by decide +kernel
theorem d_Ph_isFree_17 : decode b_Ph_isFree 17 = .ok (.aload_n 0, 1) := by decide +kernel
theorem d_Ph_isFree_18 : decode b_Ph_isFree 18 = .ok (.getfield 15, 3) := by decide +kernel
theorem d_Ph_isFree_21 : decode b_Ph_isFree 21 = .ok (.iload_n 3, 1) := by decide +kernel
theorem d_Ph_isFree_22 : decode b_Ph_isFree 22 = .ok (.iaload, 1) := by decide +kernel
theorem d_Ph_isFree_23 : decode b_Ph_isFree 23 = .ok (.aload_n 0, 1) := by decide +kernel
theorem d_Ph_isFree_24 : decode b_Ph_isFree 24 = .ok (.getfield 15, 3) := by decide +kernel
theorem d_Ph_isFree_27 : decode b_Ph_isFree 27 = .ok (.iload_n 1, 1) := by decide +kernel
theorem d_Ph_isFree_28 : decode b_Ph_isFree 28 = .ok (.iaload, 1) := by decide +kernel
theorem d_Ph_isFree_29 : decode b_Ph_isFree 29 = .ok (.iand, 1) := by decide +kernel
theorem d_Ph_isFree_30 : decode b_Ph_isFree 30 = .ok (.ifCond .eq 5, 3) := by decide +kernel
theorem d_Ph_isFree_33 : decode b_Ph_isFree 33 = .ok (.iconst 0, 1) := by decide +kernel
theorem d_Ph_isFree_34 : decode b_Ph_isFree 34 = .ok (.ireturn, 1) := by decide +kernel
theorem d_Ph_isFree_35 : decode b_Ph_isFree 35 = .ok (.iinc 3 1, 3) := by decide +kernel
theorem d_Ph_isFree_38 : decode b_Ph_isFree 38 = .ok (.goto (-36), 3) := by decide +kernel
theorem d_Ph_isFree_41 : decode b_Ph_isFree 41 = .ok (.iconst 1, 1) := by decide +kernel
theorem d_Ph_isFree_42 : decode b_Ph_isFree 42 = .ok (.ireturn, 1) := by decide +kernel
abbrev rm_Ph_has : Room := { frames := 0, cells := 0, slots := 0, locals := 0 }
set_option maxHeartbeats 4000000 in
set_option maxRecDepth 100000 in
theorem c_Ph_has (l : Launch) (D : va_G) (cI cR cG : ClassId) (h qo qs qp qc qt qf qn n sd lm : Nat) (sf st : Int) (x : Int) (hx1 : k_sm x) (hn : n ≤ 4) : k_M l y_Ph_has (.code y_Ph_has b_Ph_has 2 (some .boolean) :: kW) rm_Ph_has D k_cl (k_ty cI cR cG) [.ref h, .int (zI x)] ([(h, .inr (1, [.ref qo, .ref qs, .int (zI ↑n), .int (zI ↑sd), .ref qp, .ref qc, .ref qt, .ref qf, .ref qn, .int (zI ↑lm), .int (zI sf), .int (zI st)]))]) (k_Qi D k_cl (k_b (0 ≤ x ∧ x < ↑n)) ([(h, .inr (1, [.ref qo, .ref qs, .int (zI ↑n), .int (zI ↑sd), .ref qp, .ref qc, .ref qt, .ref qf, .ref qn, .int (zI ↑lm), .int (zI sf), .int (zI st)]))])) := by
  refine k_start (cc := b_Ph_has) (maxL := 2) (ret := (some .boolean)) (by decide) rfl (Nat.le_of_ble_eq_true rfl) ?_
  intro p ev s m ar below meth c A ls Qf hQf hx hb hr hml hts hown hlocks hin hK hG hA hP hD hS hl
  replace hown : s.vm.findClass R_Ph = some m.cls := hown
  replace hl : lv_has ls 2 [(0, .ref h), (1, .int (zI x))] := hl
  have hkw : ∀ w ∈ kW, w.before ar s = true := fun w h => hts w (List.mem_cons_of_mem _ h)
  replace hP : va_P D k_cl ([(h, .inr (1, [.ref qo, .ref qs, .int (zI ↑n), .int (zI ↑sd), .ref qp, .ref qc, .ref qt, .ref qf, .ref qn, .int (zI ↑lm), .int (zI sf), .int (zI st)]))]) s.heap := hP
  replace hD : va_D A ([(h, .inr (1, [.ref qo, .ref qs, .int (zI ↑n), .int (zI ↑sd), .ref qp, .ref qc, .ref qt, .ref qf, .ref qn, .int (zI ↑lm), .int (zI sf), .int (zI st)]))]) := hD
  have hx2 := hx1.1
  have hx3 := hx1.2
  refine lv_iload_n hx hb d_Ph_has_0 rfl (lv_at hl 1 rfl) ?_
  refine k_if_lt (tgt := 16) hx hb d_Ph_has_1 (by decide) ⟨by omega, by omega⟩ (fun c_1 => ?_) (fun c_1 => ?_)
  · refine lv_iconst (v := zI 0) hx hb d_Ph_has_16 (by decide) ?_
    rw [← hQf]
    exact k_zret hx hb hr hlocks hP hS (k_bf (by omega)).symm d_Ph_has_17
  · refine lv_iload_n hx hb d_Ph_has_4 rfl (lv_at hl 1 rfl) ?_
    refine lv_aload_n hx hb d_Ph_has_5 rfl (lv_at hl 0 rfl) ?_
    refine va_get (D := D) (ci := 1) (v := .int (zI ↑n)) (C := R_Ph) (T := T_Ph) (N := 12) hx hb hkw kin_Ph hown hK hP 0 rfl rfl 2 (by decide) (hkw _ kw_fieldLink_Ph_18) (fun _ h9 => h9) rfl d_Ph_has_6 ?_
    refine k_icmp_ge (tgt := 16) hx hb d_Ph_has_9 (by decide) ⟨by omega, by omega⟩ ⟨by omega, by omega⟩ (fun c_9 => ?_) (fun c_9 => ?_)
    · refine lv_iconst (v := zI 0) hx hb d_Ph_has_16 (by decide) ?_
      rw [← hQf]
      exact k_zret hx hb hr hlocks hP hS (k_bf (by omega)).symm d_Ph_has_17
    · refine lv_iconst (v := zI 1) hx hb d_Ph_has_12 (by decide) ?_
      refine lv_goto (tgt := 17) hx hb d_Ph_has_13 (by decide) ?_
      rw [← hQf]
      exact k_zret hx hb hr hlocks hP hS (k_bt (by omega)).symm d_Ph_has_17

abbrev rm_Ph_outdate : Room := { frames := 0, cells := 0, slots := 0, locals := 0 }
set_option maxHeartbeats 4000000 in
set_option maxRecDepth 100000 in
theorem c_Ph_outdate (l : Launch) (D : va_G) (cI cR cG : ClassId) (h qo qs qp qc qt qf qn n sd lm : Nat) (sf st : Int)  : k_M l y_Ph_outdate (.code y_Ph_outdate b_Ph_outdate 1 none :: kW) rm_Ph_outdate D k_cl (k_ty cI cR cG) [.ref h] ([(h, .inr (1, [.ref qo, .ref qs, .int (zI ↑n), .int (zI ↑sd), .ref qp, .ref qc, .ref qt, .ref qf, .ref qn, .int (zI ↑lm), .int (zI sf), .int (zI st)]))]) (k_Qv D k_cl ([(h, .inr (1, [.ref qo, .ref qs, .int (zI ↑n), .int (zI 0), .ref qp, .ref qc, .ref qt, .ref qf, .ref qn, .int (zI ↑lm), .int (zI sf), .int (zI st)]))])) := by
  refine k_start (cc := b_Ph_outdate) (maxL := 1) (ret := none) (by decide) rfl (Nat.le_of_ble_eq_true rfl) ?_
  intro p ev s m ar below meth c A ls Qf hQf hx hb hr hml hts hown hlocks hin hK hG hA hP hD hS hl
  replace hown : s.vm.findClass R_Ph = some m.cls := hown
  replace hl : lv_has ls 1 [(0, .ref h)] := hl
  have hkw : ∀ w ∈ kW, w.before ar s = true := fun w h => hts w (List.mem_cons_of_mem _ h)
  replace hP : va_P D k_cl ([(h, .inr (1, [.ref qo, .ref qs, .int (zI ↑n), .int (zI ↑sd), .ref qp, .ref qc, .ref qt, .ref qf, .ref qn, .int (zI ↑lm), .int (zI sf), .int (zI st)]))]) s.heap := hP
  replace hD : va_D A ([(h, .inr (1, [.ref qo, .ref qs, .int (zI ↑n), .int (zI ↑sd), .ref qp, .ref qc, .ref qt, .ref qf, .ref qn, .int (zI ↑lm), .int (zI sf), .int (zI st)]))]) := hD
  refine lv_aload_n hx hb d_Ph_outdate_0 rfl (lv_at hl 0 rfl) ?_
  refine lv_iconst (v := zI 0) hx hb d_Ph_outdate_1 (by decide) ?_
  refine va_put (D := D) (ci := 1) (v := .int (zI 0)) (ty := .boolean) (C := R_Ph) (T := T_Ph) (N := 12) hx hb hkw kin_Ph ty_Ph ty_Ph_ok nm_Ph hown hK hP hD hS 0 rfl rfl 3 (by decide) (hkw _ kw_fieldLink_Ph_22) (fun _ h9 => h9) rfl (by decide +kernel) (by decide) (by decide) (Nat.le_of_ble_eq_true rfl) d_Ph_outdate_2 ?_
  clear hP hD hS; intro H locs hP hD hS
  replace hP : va_P D k_cl ([(h, .inr (1, [.ref qo, .ref qs, .int (zI ↑n), .int (zI 0), .ref qp, .ref qc, .ref qt, .ref qf, .ref qn, .int (zI ↑lm), .int (zI sf), .int (zI st)]))]) H := hP
  replace hD : va_D A ([(h, .inr (1, [.ref qo, .ref qs, .int (zI ↑n), .int (zI 0), .ref qp, .ref qc, .ref qt, .ref qf, .ref qn, .int (zI ↑lm), .int (zI sf), .int (zI st)]))]) := hD
  rw [← hQf]
  exact k_vret hx hb hr hlocks hP hS d_Ph_outdate_5

abbrev rm_Ph_append : Room := { frames := 1, cells := 0, slots := 0, locals := 20 }
set_option maxHeartbeats 4000000 in
set_option maxRecDepth 100000 in
theorem c_Ph_append (l : Launch) (D : va_G) (cI cR cG : ClassId) (h qo qs qp qc qt qf qn n sd lm : Nat) (sf st : Int) (of se : Nat → Nat) (a b : Nat) (hn : n < 4) : k_M l y_Ph_append (.code y_Ph_append b_Ph_append 3 (some .int) :: kW) rm_Ph_append D k_cl (k_ty cI cR cG) [.ref h, .int (zI ↑a), .int (zI ↑b)] ([(h, .inr (1, [.ref qo, .ref qs, .int (zI ↑n), .int (zI ↑sd), .ref qp, .ref qc, .ref qt, .ref qf, .ref qn, .int (zI ↑lm), .int (zI sf), .int (zI st)])), (qo, .inl (cI, 4, .inl (kA of))), (qs, .inl (cI, 4, .inl (kA se)))]) (k_Qi D k_cl (zI ↑n) ([(h, .inr (1, [.ref qo, .ref qs, .int (zI (↑(n + 1))), .int (zI 0), .ref qp, .ref qc, .ref qt, .ref qf, .ref qn, .int (zI ↑lm), .int (zI sf), .int (zI st)])), (qo, .inl (cI, 4, .inl (kA (va_up of n a)))), (qs, .inl (cI, 4, .inl (kA (va_up se n b))))])) := by
  refine k_start (cc := b_Ph_append) (maxL := 3) (ret := (some .int)) (by decide) rfl (Nat.le_of_ble_eq_true rfl) ?_
  intro p ev s m ar below meth c A ls Qf hQf hx hb hr hml hts hown hlocks hin hK hG hA hP hD hS hl
  replace hown : s.vm.findClass R_Ph = some m.cls := hown
  replace hl : lv_has ls 3 [(0, .ref h), (1, .int (zI ↑a)), (2, .int (zI ↑b))] := hl
  have hkw : ∀ w ∈ kW, w.before ar s = true := fun w h => hts w (List.mem_cons_of_mem _ h)
  replace hP : va_P D k_cl ([(h, .inr (1, [.ref qo, .ref qs, .int (zI ↑n), .int (zI ↑sd), .ref qp, .ref qc, .ref qt, .ref qf, .ref qn, .int (zI ↑lm), .int (zI sf), .int (zI st)])), (qo, .inl (cI, 4, .inl (kA of))), (qs, .inl (cI, 4, .inl (kA se)))]) s.heap := hP
  replace hD : va_D A ([(h, .inr (1, [.ref qo, .ref qs, .int (zI ↑n), .int (zI ↑sd), .ref qp, .ref qc, .ref qt, .ref qf, .ref qn, .int (zI ↑lm), .int (zI sf), .int (zI st)])), (qo, .inl (cI, 4, .inl (kA of))), (qs, .inl (cI, 4, .inl (kA se)))]) := hD
  refine lv_aload_n hx hb d_Ph_append_0 rfl (lv_at hl 0 rfl) ?_
  refine va_get (D := D) (ci := 1) (v := .int (zI ↑n)) (C := R_Ph) (T := T_Ph) (N := 12) hx hb hkw kin_Ph hown hK hP 0 rfl rfl 2 (by decide) (hkw _ kw_fieldLink_Ph_18) (fun _ h9 => h9) rfl d_Ph_append_1 ?_
  refine lv_iconst (v := zI 4) hx hb d_Ph_append_4 (by decide) ?_
  refine k_icmp_lt (tgt := 11) hx hb d_Ph_append_5 (by decide) ⟨by omega, by omega⟩ ⟨by omega, by omega⟩ (fun c_5 => ?_) (fun c_5 => ?_)
  · refine lv_aload_n hx hb d_Ph_append_11 rfl (lv_at hl 0 rfl) ?_
    refine va_get (D := D) (ci := 1) (v := .ref qo) (C := R_Ph) (T := T_Ph) (N := 12) hx hb hkw kin_Ph hown hK hP 0 rfl rfl 0 (by decide) (hkw _ kw_fieldLink_Ph_9) (fun _ h9 => h9) rfl d_Ph_append_12 ?_
    refine lv_aload_n hx hb d_Ph_append_15 rfl (lv_at hl 0 rfl) ?_
    refine va_get (D := D) (ci := 1) (v := .int (zI ↑n)) (C := R_Ph) (T := T_Ph) (N := 12) hx hb hkw kin_Ph hown hK hP 0 rfl rfl 2 (by decide) (hkw _ kw_fieldLink_Ph_18) (fun _ h9 => h9) rfl d_Ph_append_16 ?_
    refine lv_iload_n hx hb d_Ph_append_19 rfl (lv_at hl 1 rfl) ?_
    refine k_ast hx hb hK hP hD hS 1 0 rfl rfl (i := n) (v := a) (by omega) (by omega) (by omega) (by omega) d_Ph_append_20 ?_
    clear hP hD hS; intro H locs hP hD hS
    replace hP : va_P D k_cl ([(h, .inr (1, [.ref qo, .ref qs, .int (zI ↑n), .int (zI ↑sd), .ref qp, .ref qc, .ref qt, .ref qf, .ref qn, .int (zI ↑lm), .int (zI sf), .int (zI st)])), (qo, .inl (cI, 4, .inl (kA (va_up of n a)))), (qs, .inl (cI, 4, .inl (kA se)))]) H := hP
    replace hD : va_D A ([(h, .inr (1, [.ref qo, .ref qs, .int (zI ↑n), .int (zI ↑sd), .ref qp, .ref qc, .ref qt, .ref qf, .ref qn, .int (zI ↑lm), .int (zI sf), .int (zI st)])), (qo, .inl (cI, 4, .inl (kA (va_up of n a)))), (qs, .inl (cI, 4, .inl (kA se)))]) := hD
    refine lv_aload_n hx hb d_Ph_append_21 rfl (lv_at hl 0 rfl) ?_
    refine va_get (D := D) (ci := 1) (v := .ref qs) (C := R_Ph) (T := T_Ph) (N := 12) hx hb hkw kin_Ph hown hK hP 0 rfl rfl 1 (by decide) (hkw _ kw_fieldLink_Ph_15) (fun _ h9 => h9) rfl d_Ph_append_22 ?_
    refine lv_aload_n hx hb d_Ph_append_25 rfl (lv_at hl 0 rfl) ?_
    refine va_get (D := D) (ci := 1) (v := .int (zI ↑n)) (C := R_Ph) (T := T_Ph) (N := 12) hx hb hkw kin_Ph hown hK hP 0 rfl rfl 2 (by decide) (hkw _ kw_fieldLink_Ph_18) (fun _ h9 => h9) rfl d_Ph_append_26 ?_
    refine lv_iload_n hx hb d_Ph_append_29 rfl (lv_at hl 2 rfl) ?_
    refine k_ast hx hb hK hP hD hS 2 0 rfl rfl (i := n) (v := b) (by omega) (by omega) (by omega) (by omega) d_Ph_append_30 ?_
    clear hP hD hS; intro H locs hP hD hS
    replace hP : va_P D k_cl ([(h, .inr (1, [.ref qo, .ref qs, .int (zI ↑n), .int (zI ↑sd), .ref qp, .ref qc, .ref qt, .ref qf, .ref qn, .int (zI ↑lm), .int (zI sf), .int (zI st)])), (qo, .inl (cI, 4, .inl (kA (va_up of n a)))), (qs, .inl (cI, 4, .inl (kA (va_up se n b))))]) H := hP
    replace hD : va_D A ([(h, .inr (1, [.ref qo, .ref qs, .int (zI ↑n), .int (zI ↑sd), .ref qp, .ref qc, .ref qt, .ref qf, .ref qn, .int (zI ↑lm), .int (zI sf), .int (zI st)])), (qo, .inl (cI, 4, .inl (kA (va_up of n a)))), (qs, .inl (cI, 4, .inl (kA (va_up se n b))))]) := hD
    refine lv_aload_n hx hb d_Ph_append_31 rfl (lv_at hl 0 rfl) ?_
    refine lv_dup hx hb d_Ph_append_32 rfl ?_
    refine va_get (D := D) (ci := 1) (v := .int (zI ↑n)) (C := R_Ph) (T := T_Ph) (N := 12) hx hb hkw kin_Ph hown hK hP 0 rfl rfl 2 (by decide) (hkw _ kw_fieldLink_Ph_18) (fun _ h9 => h9) rfl d_Ph_append_33 ?_
    refine lv_iconst (v := zI 1) hx hb d_Ph_append_36 (by decide) ?_
    refine k_iadd (v := ↑(n + 1)) hx hb d_Ph_append_37 (by omega) ?_
    refine va_put (D := D) (ci := 1) (v := .int (zI (↑(n + 1)))) (ty := .int) (C := R_Ph) (T := T_Ph) (N := 12) hx hb hkw kin_Ph ty_Ph ty_Ph_ok nm_Ph hown hK hP hD hS 0 rfl rfl 2 (by decide) (hkw _ kw_fieldLink_Ph_18) (fun _ h9 => h9) rfl (by decide +kernel) rfl rfl (Nat.le_of_ble_eq_true rfl) d_Ph_append_38 ?_
    clear hP hD hS; intro H locs hP hD hS
    replace hP : va_P D k_cl ([(h, .inr (1, [.ref qo, .ref qs, .int (zI (↑(n + 1))), .int (zI ↑sd), .ref qp, .ref qc, .ref qt, .ref qf, .ref qn, .int (zI ↑lm), .int (zI sf), .int (zI st)])), (qo, .inl (cI, 4, .inl (kA (va_up of n a)))), (qs, .inl (cI, 4, .inl (kA (va_up se n b))))]) H := hP
    replace hD : va_D A ([(h, .inr (1, [.ref qo, .ref qs, .int (zI (↑(n + 1))), .int (zI ↑sd), .ref qp, .ref qc, .ref qt, .ref qf, .ref qn, .int (zI ↑lm), .int (zI sf), .int (zI st)])), (qo, .inl (cI, 4, .inl (kA (va_up of n a)))), (qs, .inl (cI, 4, .inl (kA (va_up se n b))))]) := hD
    refine lv_aload_n hx hb d_Ph_append_41 rfl (lv_at hl 0 rfl) ?_
    refine k_beV (va_runV (As := []) (rest := []) ⟨hx, hb, hml, hown, hkw⟩ (c_Ph_outdate l D cI cR cG h qo qs qp qc qt qf qn (n + 1) sd lm sf st _) (cwV 0 hkw (k_gV kw_methodLink_Ph_52 kw_instanceMethod_Ph_outdate kw_selects_Ph_outdate kw_initialized_Ph kw_code_Ph_outdate) rfl rfl rfl (by decide +kernel) ⟨(Nat.le_of_ble_eq_true rfl), (Nat.le_of_ble_eq_true rfl)⟩) (k_preV (q0 := 0) hK hG hP hD [0] rfl rfl rfl rfl) rfl rfl hl.1 rfl (lv_room (Nat.le_of_ble_eq_true rfl)) d_Ph_append_42 ⟨Nat.zero_le _, Nat.zero_le _⟩) hP hD hS hA [0] rfl (Eq.trans (b := [h]) rfl rfl) ?_
    clear hP hD hS; intro H locs hP hD hS
    replace hP : va_P D k_cl ([(h, .inr (1, [.ref qo, .ref qs, .int (zI (↑(n + 1))), .int (zI 0), .ref qp, .ref qc, .ref qt, .ref qf, .ref qn, .int (zI ↑lm), .int (zI sf), .int (zI st)])), (qo, .inl (cI, 4, .inl (kA (va_up of n a)))), (qs, .inl (cI, 4, .inl (kA (va_up se n b))))]) H := hP
    replace hD : va_D A ([(h, .inr (1, [.ref qo, .ref qs, .int (zI (↑(n + 1))), .int (zI 0), .ref qp, .ref qc, .ref qt, .ref qf, .ref qn, .int (zI ↑lm), .int (zI sf), .int (zI st)])), (qo, .inl (cI, 4, .inl (kA (va_up of n a)))), (qs, .inl (cI, 4, .inl (kA (va_up se n b))))]) := hD
    refine lv_aload_n hx hb d_Ph_append_45 rfl (lv_at hl 0 rfl) ?_
    refine va_get (D := D) (ci := 1) (v := .int (zI (↑(n + 1)))) (C := R_Ph) (T := T_Ph) (N := 12) hx hb hkw kin_Ph hown hK hP 0 rfl rfl 2 (by decide) (hkw _ kw_fieldLink_Ph_18) (fun _ h9 => h9) rfl d_Ph_append_46 ?_
    refine lv_iconst (v := zI 1) hx hb d_Ph_append_49 (by decide) ?_
    refine k_isub (v := ↑n) hx hb d_Ph_append_50 (by omega) ?_
    rw [← hQf]
    exact k_iret hx hb hr hlocks hP hS rfl d_Ph_append_51
  · exfalso; omega

abbrev rm_Ph_append_full : Room := { frames := 0, cells := 0, slots := 0, locals := 0 }
set_option maxHeartbeats 4000000 in
set_option maxRecDepth 100000 in
theorem c_Ph_append_full (l : Launch) (D : va_G) (cI cR cG : ClassId) (h qo qs qp qc qt qf qn n sd lm : Nat) (sf st : Int) (a b : Int) (hn : n = 4) : k_M l y_Ph_append (.code y_Ph_append b_Ph_append 3 (some .int) :: kW) rm_Ph_append_full D k_cl (k_ty cI cR cG) [.ref h, .int (zI a), .int (zI b)] ([(h, .inr (1, [.ref qo, .ref qs, .int (zI ↑n), .int (zI ↑sd), .ref qp, .ref qc, .ref qt, .ref qf, .ref qn, .int (zI ↑lm), .int (zI sf), .int (zI st)]))]) (k_Qi D k_cl (zI (-4)) ([(h, .inr (1, [.ref qo, .ref qs, .int (zI ↑n), .int (zI ↑sd), .ref qp, .ref qc, .ref qt, .ref qf, .ref qn, .int (zI ↑lm), .int (zI sf), .int (zI st)]))])) := by
  refine k_start (cc := b_Ph_append) (maxL := 3) (ret := (some .int)) (by decide) rfl (Nat.le_of_ble_eq_true rfl) ?_
  intro p ev s m ar below meth c A ls Qf hQf hx hb hr hml hts hown hlocks hin hK hG hA hP hD hS hl
  replace hown : s.vm.findClass R_Ph = some m.cls := hown
  replace hl : lv_has ls 3 [(0, .ref h), (1, .int (zI a)), (2, .int (zI b))] := hl
  have hkw : ∀ w ∈ kW, w.before ar s = true := fun w h => hts w (List.mem_cons_of_mem _ h)
  replace hP : va_P D k_cl ([(h, .inr (1, [.ref qo, .ref qs, .int (zI ↑n), .int (zI ↑sd), .ref qp, .ref qc, .ref qt, .ref qf, .ref qn, .int (zI ↑lm), .int (zI sf), .int (zI st)]))]) s.heap := hP
  replace hD : va_D A ([(h, .inr (1, [.ref qo, .ref qs, .int (zI ↑n), .int (zI ↑sd), .ref qp, .ref qc, .ref qt, .ref qf, .ref qn, .int (zI ↑lm), .int (zI sf), .int (zI st)]))]) := hD
  refine lv_aload_n hx hb d_Ph_append_0 rfl (lv_at hl 0 rfl) ?_
  refine va_get (D := D) (ci := 1) (v := .int (zI ↑n)) (C := R_Ph) (T := T_Ph) (N := 12) hx hb hkw kin_Ph hown hK hP 0 rfl rfl 2 (by decide) (hkw _ kw_fieldLink_Ph_18) (fun _ h9 => h9) rfl d_Ph_append_1 ?_
  refine lv_iconst (v := zI 4) hx hb d_Ph_append_4 (by decide) ?_
  refine k_icmp_lt (tgt := 11) hx hb d_Ph_append_5 (by decide) ⟨by omega, by omega⟩ ⟨by omega, by omega⟩ (fun c_5 => ?_) (fun c_5 => ?_)
  · exfalso; omega
  · refine lv_bipush (v := zI (-4)) hx hb d_Ph_append_8 (by decide) ?_
    rw [← hQf]
    exact k_iret hx hb hr hlocks hP hS rfl d_Ph_append_10

abbrev rm_Ph_dropAll : Room := { frames := 1, cells := 0, slots := 0, locals := 20 }
set_option maxHeartbeats 4000000 in
set_option maxRecDepth 100000 in
theorem c_Ph_dropAll (l : Launch) (D : va_G) (cI cR cG : ClassId) (h qo qs qp qc qt qf qn n sd lm : Nat) (sf st : Int)  : k_M l y_Ph_dropAll (.code y_Ph_dropAll b_Ph_dropAll 2 (some .int) :: kW) rm_Ph_dropAll D k_cl (k_ty cI cR cG) [.ref h] ([(h, .inr (1, [.ref qo, .ref qs, .int (zI ↑n), .int (zI ↑sd), .ref qp, .ref qc, .ref qt, .ref qf, .ref qn, .int (zI ↑lm), .int (zI sf), .int (zI st)]))]) (k_Qi D k_cl (zI ↑n) ([(h, .inr (1, [.ref qo, .ref qs, .int (zI 0), .int (zI 0), .ref qp, .ref qc, .ref qt, .ref qf, .ref qn, .int (zI ↑lm), .int (zI sf), .int (zI st)]))])) := by
  refine k_start (cc := b_Ph_dropAll) (maxL := 2) (ret := (some .int)) (by decide) rfl (Nat.le_of_ble_eq_true rfl) ?_
  intro p ev s m ar below meth c A ls Qf hQf hx hb hr hml hts hown hlocks hin hK hG hA hP hD hS hl
  replace hown : s.vm.findClass R_Ph = some m.cls := hown
  replace hl : lv_has ls 2 [(0, .ref h)] := hl
  have hkw : ∀ w ∈ kW, w.before ar s = true := fun w h => hts w (List.mem_cons_of_mem _ h)
  replace hP : va_P D k_cl ([(h, .inr (1, [.ref qo, .ref qs, .int (zI ↑n), .int (zI ↑sd), .ref qp, .ref qc, .ref qt, .ref qf, .ref qn, .int (zI ↑lm), .int (zI sf), .int (zI st)]))]) s.heap := hP
  replace hD : va_D A ([(h, .inr (1, [.ref qo, .ref qs, .int (zI ↑n), .int (zI ↑sd), .ref qp, .ref qc, .ref qt, .ref qf, .ref qn, .int (zI ↑lm), .int (zI sf), .int (zI st)]))]) := hD
  refine lv_aload_n hx hb d_Ph_dropAll_0 rfl (lv_at hl 0 rfl) ?_
  refine va_get (D := D) (ci := 1) (v := .int (zI ↑n)) (C := R_Ph) (T := T_Ph) (N := 12) hx hb hkw kin_Ph hown hK hP 0 rfl rfl 2 (by decide) (hkw _ kw_fieldLink_Ph_18) (fun _ h9 => h9) rfl d_Ph_dropAll_1 ?_
  refine lv_istore_n (lv' := [(1, .int (zI ↑n)), (0, .ref h)]) hx hb d_Ph_dropAll_4 rfl hl (by decide) rfl ?_
  clear hl; intro ls hl
  refine lv_aload_n hx hb d_Ph_dropAll_5 rfl (lv_at hl 1 rfl) ?_
  refine lv_iconst (v := zI 0) hx hb d_Ph_dropAll_6 (by decide) ?_
  refine va_put (D := D) (ci := 1) (v := .int (zI 0)) (ty := .int) (C := R_Ph) (T := T_Ph) (N := 12) hx hb hkw kin_Ph ty_Ph ty_Ph_ok nm_Ph hown hK hP hD hS 0 rfl rfl 2 (by decide) (hkw _ kw_fieldLink_Ph_18) (fun _ h9 => h9) rfl (by decide +kernel) rfl rfl (Nat.le_of_ble_eq_true rfl) d_Ph_dropAll_7 ?_
  clear hP hD hS; intro H locs hP hD hS
  replace hP : va_P D k_cl ([(h, .inr (1, [.ref qo, .ref qs, .int (zI 0), .int (zI ↑sd), .ref qp, .ref qc, .ref qt, .ref qf, .ref qn, .int (zI ↑lm), .int (zI sf), .int (zI st)]))]) H := hP
  replace hD : va_D A ([(h, .inr (1, [.ref qo, .ref qs, .int (zI 0), .int (zI ↑sd), .ref qp, .ref qc, .ref qt, .ref qf, .ref qn, .int (zI ↑lm), .int (zI sf), .int (zI st)]))]) := hD
  refine lv_aload_n hx hb d_Ph_dropAll_10 rfl (lv_at hl 1 rfl) ?_
  refine k_beV (va_runV (As := []) (rest := []) ⟨hx, hb, hml, hown, hkw⟩ (c_Ph_outdate l D cI cR cG h qo qs qp qc qt qf qn 0 sd lm sf st _) (cwV 0 hkw (k_gV kw_methodLink_Ph_52 kw_instanceMethod_Ph_outdate kw_selects_Ph_outdate kw_initialized_Ph kw_code_Ph_outdate) rfl rfl rfl (by decide +kernel) ⟨(Nat.le_of_ble_eq_true rfl), (Nat.le_of_ble_eq_true rfl)⟩) (k_preV (q0 := 0) hK hG hP hD [0] rfl rfl rfl rfl) rfl rfl hl.1 rfl (lv_room (Nat.le_of_ble_eq_true rfl)) d_Ph_dropAll_11 ⟨Nat.zero_le _, Nat.zero_le _⟩) hP hD hS hA [0] rfl (Eq.trans (b := [h]) rfl rfl) ?_
  clear hP hD hS; intro H locs hP hD hS
  replace hP : va_P D k_cl ([(h, .inr (1, [.ref qo, .ref qs, .int (zI 0), .int (zI 0), .ref qp, .ref qc, .ref qt, .ref qf, .ref qn, .int (zI ↑lm), .int (zI sf), .int (zI st)]))]) H := hP
  replace hD : va_D A ([(h, .inr (1, [.ref qo, .ref qs, .int (zI 0), .int (zI 0), .ref qp, .ref qc, .ref qt, .ref qf, .ref qn, .int (zI ↑lm), .int (zI sf), .int (zI st)]))]) := hD
  refine lv_iload_n hx hb d_Ph_dropAll_14 rfl (lv_at hl 0 rfl) ?_
  rw [← hQf]
  exact k_iret hx hb hr hlocks hP hS rfl d_Ph_dropAll_15

abbrev rm_Ph_hasChoice : Room := { frames := 0, cells := 0, slots := 0, locals := 0 }
set_option maxHeartbeats 4000000 in
set_option maxRecDepth 100000 in
theorem c_Ph_hasChoice (l : Launch) (D : va_G) (cI cR cG : ClassId) (h qo qs qp qc qt qf qn n sd lm : Nat) (sf st : Int) (hlm : lm ≤ 77) : k_M l y_Ph_hasChoice (.code y_Ph_hasChoice b_Ph_hasChoice 1 (some .boolean) :: kW) rm_Ph_hasChoice D k_cl (k_ty cI cR cG) [.ref h] ([(h, .inr (1, [.ref qo, .ref qs, .int (zI ↑n), .int (zI ↑sd), .ref qp, .ref qc, .ref qt, .ref qf, .ref qn, .int (zI ↑lm), .int (zI sf), .int (zI st)]))]) (k_Qi D k_cl (k_b (lm ≠ 77)) ([(h, .inr (1, [.ref qo, .ref qs, .int (zI ↑n), .int (zI ↑sd), .ref qp, .ref qc, .ref qt, .ref qf, .ref qn, .int (zI ↑lm), .int (zI sf), .int (zI st)]))])) := by
  refine k_start (cc := b_Ph_hasChoice) (maxL := 1) (ret := (some .boolean)) (by decide) rfl (Nat.le_of_ble_eq_true rfl) ?_
  intro p ev s m ar below meth c A ls Qf hQf hx hb hr hml hts hown hlocks hin hK hG hA hP hD hS hl
  replace hown : s.vm.findClass R_Ph = some m.cls := hown
  replace hl : lv_has ls 1 [(0, .ref h)] := hl
  have hkw : ∀ w ∈ kW, w.before ar s = true := fun w h => hts w (List.mem_cons_of_mem _ h)
  replace hP : va_P D k_cl ([(h, .inr (1, [.ref qo, .ref qs, .int (zI ↑n), .int (zI ↑sd), .ref qp, .ref qc, .ref qt, .ref qf, .ref qn, .int (zI ↑lm), .int (zI sf), .int (zI st)]))]) s.heap := hP
  replace hD : va_D A ([(h, .inr (1, [.ref qo, .ref qs, .int (zI ↑n), .int (zI ↑sd), .ref qp, .ref qc, .ref qt, .ref qf, .ref qn, .int (zI ↑lm), .int (zI sf), .int (zI st)]))]) := hD
  refine lv_aload_n hx hb d_Ph_hasChoice_0 rfl (lv_at hl 0 rfl) ?_
  refine va_get (D := D) (ci := 1) (v := .int (zI ↑lm)) (C := R_Ph) (T := T_Ph) (N := 12) hx hb hkw kin_Ph hown hK hP 0 rfl rfl 9 (by decide) (hkw _ kw_fieldLink_Ph_43) (fun _ h9 => h9) rfl d_Ph_hasChoice_1 ?_
  refine lv_bipush (v := zI 77) hx hb d_Ph_hasChoice_4 (by decide) ?_
  refine k_icmp_eq (tgt := 13) hx hb d_Ph_hasChoice_6 (by decide) ⟨by omega, by omega⟩ ⟨by omega, by omega⟩ (fun c_6 => ?_) (fun c_6 => ?_)
  · refine lv_iconst (v := zI 0) hx hb d_Ph_hasChoice_13 (by decide) ?_
    rw [← hQf]
    exact k_zret hx hb hr hlocks hP hS (k_bf (by omega)).symm d_Ph_hasChoice_14
  · refine lv_iconst (v := zI 1) hx hb d_Ph_hasChoice_9 (by decide) ?_
    refine lv_goto (tgt := 14) hx hb d_Ph_hasChoice_10 (by decide) ?_
    rw [← hQf]
    exact k_zret hx hb hr hlocks hP hS (k_bt (by omega)).symm d_Ph_hasChoice_14

abbrev rm_Ph_leastMoved : Room := { frames := 0, cells := 0, slots := 0, locals := 0 }
set_option maxHeartbeats 4000000 in
set_option maxRecDepth 100000 in
theorem c_Ph_leastMoved (l : Launch) (D : va_G) (cI cR cG : ClassId) (h qo qs qp qc qt qf qn n sd lm : Nat) (sf st : Int)  : k_M l y_Ph_leastMoved (.code y_Ph_leastMoved b_Ph_leastMoved 1 (some .int) :: kW) rm_Ph_leastMoved D k_cl (k_ty cI cR cG) [.ref h] ([(h, .inr (1, [.ref qo, .ref qs, .int (zI ↑n), .int (zI ↑sd), .ref qp, .ref qc, .ref qt, .ref qf, .ref qn, .int (zI ↑lm), .int (zI sf), .int (zI st)]))]) (k_Qi D k_cl (zI ↑lm) ([(h, .inr (1, [.ref qo, .ref qs, .int (zI ↑n), .int (zI ↑sd), .ref qp, .ref qc, .ref qt, .ref qf, .ref qn, .int (zI ↑lm), .int (zI sf), .int (zI st)]))])) := by
  refine k_start (cc := b_Ph_leastMoved) (maxL := 1) (ret := (some .int)) (by decide) rfl (Nat.le_of_ble_eq_true rfl) ?_
  intro p ev s m ar below meth c A ls Qf hQf hx hb hr hml hts hown hlocks hin hK hG hA hP hD hS hl
  replace hown : s.vm.findClass R_Ph = some m.cls := hown
  replace hl : lv_has ls 1 [(0, .ref h)] := hl
  have hkw : ∀ w ∈ kW, w.before ar s = true := fun w h => hts w (List.mem_cons_of_mem _ h)
  replace hP : va_P D k_cl ([(h, .inr (1, [.ref qo, .ref qs, .int (zI ↑n), .int (zI ↑sd), .ref qp, .ref qc, .ref qt, .ref qf, .ref qn, .int (zI ↑lm), .int (zI sf), .int (zI st)]))]) s.heap := hP
  replace hD : va_D A ([(h, .inr (1, [.ref qo, .ref qs, .int (zI ↑n), .int (zI ↑sd), .ref qp, .ref qc, .ref qt, .ref qf, .ref qn, .int (zI ↑lm), .int (zI sf), .int (zI st)]))]) := hD
  refine lv_aload_n hx hb d_Ph_leastMoved_0 rfl (lv_at hl 0 rfl) ?_
  refine va_get (D := D) (ci := 1) (v := .int (zI ↑lm)) (C := R_Ph) (T := T_Ph) (N := 12) hx hb hkw kin_Ph hown hK hP 0 rfl rfl 9 (by decide) (hkw _ kw_fieldLink_Ph_43) (fun _ h9 => h9) rfl d_Ph_leastMoved_1 ?_
  rw [← hQf]
  exact k_iret hx hb hr hlocks hP hS rfl d_Ph_leastMoved_4

abbrev rm_Ph_shortestBegin : Room := { frames := 0, cells := 0, slots := 0, locals := 0 }
set_option maxHeartbeats 4000000 in
set_option maxRecDepth 100000 in
theorem c_Ph_shortestBegin (l : Launch) (D : va_G) (cI cR cG : ClassId) (h qo qs qp qc qt qf qn n sd lm : Nat) (sf st : Int)  : k_M l y_Ph_shortestBegin (.code y_Ph_shortestBegin b_Ph_shortestBegin 1 (some .int) :: kW) rm_Ph_shortestBegin D k_cl (k_ty cI cR cG) [.ref h] ([(h, .inr (1, [.ref qo, .ref qs, .int (zI ↑n), .int (zI ↑sd), .ref qp, .ref qc, .ref qt, .ref qf, .ref qn, .int (zI ↑lm), .int (zI sf), .int (zI st)]))]) (k_Qi D k_cl (zI sf) ([(h, .inr (1, [.ref qo, .ref qs, .int (zI ↑n), .int (zI ↑sd), .ref qp, .ref qc, .ref qt, .ref qf, .ref qn, .int (zI ↑lm), .int (zI sf), .int (zI st)]))])) := by
  refine k_start (cc := b_Ph_shortestBegin) (maxL := 1) (ret := (some .int)) (by decide) rfl (Nat.le_of_ble_eq_true rfl) ?_
  intro p ev s m ar below meth c A ls Qf hQf hx hb hr hml hts hown hlocks hin hK hG hA hP hD hS hl
  replace hown : s.vm.findClass R_Ph = some m.cls := hown
  replace hl : lv_has ls 1 [(0, .ref h)] := hl
  have hkw : ∀ w ∈ kW, w.before ar s = true := fun w h => hts w (List.mem_cons_of_mem _ h)
  replace hP : va_P D k_cl ([(h, .inr (1, [.ref qo, .ref qs, .int (zI ↑n), .int (zI ↑sd), .ref qp, .ref qc, .ref qt, .ref qf, .ref qn, .int (zI ↑lm), .int (zI sf), .int (zI st)]))]) s.heap := hP
  replace hD : va_D A ([(h, .inr (1, [.ref qo, .ref qs, .int (zI ↑n), .int (zI ↑sd), .ref qp, .ref qc, .ref qt, .ref qf, .ref qn, .int (zI ↑lm), .int (zI sf), .int (zI st)]))]) := hD
  refine lv_aload_n hx hb d_Ph_shortestBegin_0 rfl (lv_at hl 0 rfl) ?_
  refine va_get (D := D) (ci := 1) (v := .int (zI sf)) (C := R_Ph) (T := T_Ph) (N := 12) hx hb hkw kin_Ph hown hK hP 0 rfl rfl 10 (by decide) (hkw _ kw_fieldLink_Ph_46) (fun _ h9 => h9) rfl d_Ph_shortestBegin_1 ?_
  rw [← hQf]
  exact k_iret hx hb hr hlocks hP hS rfl d_Ph_shortestBegin_4

abbrev rm_Ph_shortestEnd : Room := { frames := 0, cells := 0, slots := 0, locals := 0 }
set_option maxHeartbeats 4000000 in
set_option maxRecDepth 100000 in
theorem c_Ph_shortestEnd (l : Launch) (D : va_G) (cI cR cG : ClassId) (h qo qs qp qc qt qf qn n sd lm : Nat) (sf st : Int)  : k_M l y_Ph_shortestEnd (.code y_Ph_shortestEnd b_Ph_shortestEnd 1 (some .int) :: kW) rm_Ph_shortestEnd D k_cl (k_ty cI cR cG) [.ref h] ([(h, .inr (1, [.ref qo, .ref qs, .int (zI ↑n), .int (zI ↑sd), .ref qp, .ref qc, .ref qt, .ref qf, .ref qn, .int (zI ↑lm), .int (zI sf), .int (zI st)]))]) (k_Qi D k_cl (zI st) ([(h, .inr (1, [.ref qo, .ref qs, .int (zI ↑n), .int (zI ↑sd), .ref qp, .ref qc, .ref qt, .ref qf, .ref qn, .int (zI ↑lm), .int (zI sf), .int (zI st)]))])) := by
  refine k_start (cc := b_Ph_shortestEnd) (maxL := 1) (ret := (some .int)) (by decide) rfl (Nat.le_of_ble_eq_true rfl) ?_
  intro p ev s m ar below meth c A ls Qf hQf hx hb hr hml hts hown hlocks hin hK hG hA hP hD hS hl
  replace hown : s.vm.findClass R_Ph = some m.cls := hown
  replace hl : lv_has ls 1 [(0, .ref h)] := hl
  have hkw : ∀ w ∈ kW, w.before ar s = true := fun w h => hts w (List.mem_cons_of_mem _ h)
  replace hP : va_P D k_cl ([(h, .inr (1, [.ref qo, .ref qs, .int (zI ↑n), .int (zI ↑sd), .ref qp, .ref qc, .ref qt, .ref qf, .ref qn, .int (zI ↑lm), .int (zI sf), .int (zI st)]))]) s.heap := hP
  replace hD : va_D A ([(h, .inr (1, [.ref qo, .ref qs, .int (zI ↑n), .int (zI ↑sd), .ref qp, .ref qc, .ref qt, .ref qf, .ref qn, .int (zI ↑lm), .int (zI sf), .int (zI st)]))]) := hD
  refine lv_aload_n hx hb d_Ph_shortestEnd_0 rfl (lv_at hl 0 rfl) ?_
  refine va_get (D := D) (ci := 1) (v := .int (zI st)) (C := R_Ph) (T := T_Ph) (N := 12) hx hb hkw kin_Ph hown hK hP 0 rfl rfl 11 (by decide) (hkw _ kw_fieldLink_Ph_49) (fun _ h9 => h9) rfl d_Ph_shortestEnd_1 ?_
  rw [← hQf]
  exact k_iret hx hb hr hlocks hP hS rfl d_Ph_shortestEnd_4

abbrev rm_Ph_placeInFirst : Room := { frames := 1, cells := 0, slots := 0, locals := 21 }
set_option maxHeartbeats 4000000 in
set_option maxRecDepth 100000 in
theorem c_Ph_placeInFirst (l : Launch) (D : va_G) (cI cR cG : ClassId) (h qo qs qp qc qt qf qn n sd lm : Nat) (sf st : Int) (fc : Nat → Nat) (i : Nat) (hi : i < n) (hn : n ≤ 4) : k_M l y_Ph_placeInFirst (.code y_Ph_placeInFirst b_Ph_placeInFirst 2 (some .int) :: kW) rm_Ph_placeInFirst D k_cl (k_ty cI cR cG) [.ref h, .int (zI ↑i)] ([(h, .inr (1, [.ref qo, .ref qs, .int (zI ↑n), .int (zI ↑sd), .ref qp, .ref qc, .ref qt, .ref qf, .ref qn, .int (zI ↑lm), .int (zI sf), .int (zI st)])), (qf, .inl (cI, 4, .inl (kA fc)))]) (k_Qi D k_cl (zI ↑(fc i)) ([(h, .inr (1, [.ref qo, .ref qs, .int (zI ↑n), .int (zI ↑sd), .ref qp, .ref qc, .ref qt, .ref qf, .ref qn, .int (zI ↑lm), .int (zI sf), .int (zI st)])), (qf, .inl (cI, 4, .inl (kA fc)))])) := by
  refine k_start (cc := b_Ph_placeInFirst) (maxL := 2) (ret := (some .int)) (by decide) rfl (Nat.le_of_ble_eq_true rfl) ?_
  intro p ev s m ar below meth c A ls Qf hQf hx hb hr hml hts hown hlocks hin hK hG hA hP hD hS hl
  replace hown : s.vm.findClass R_Ph = some m.cls := hown
  replace hl : lv_has ls 2 [(0, .ref h), (1, .int (zI ↑i))] := hl
  have hkw : ∀ w ∈ kW, w.before ar s = true := fun w h => hts w (List.mem_cons_of_mem _ h)
  replace hP : va_P D k_cl ([(h, .inr (1, [.ref qo, .ref qs, .int (zI ↑n), .int (zI ↑sd), .ref qp, .ref qc, .ref qt, .ref qf, .ref qn, .int (zI ↑lm), .int (zI sf), .int (zI st)])), (qf, .inl (cI, 4, .inl (kA fc)))]) s.heap := hP
  replace hD : va_D A ([(h, .inr (1, [.ref qo, .ref qs, .int (zI ↑n), .int (zI ↑sd), .ref qp, .ref qc, .ref qt, .ref qf, .ref qn, .int (zI ↑lm), .int (zI sf), .int (zI st)])), (qf, .inl (cI, 4, .inl (kA fc)))]) := hD
  refine lv_aload_n hx hb d_Ph_placeInFirst_0 rfl (lv_at hl 0 rfl) ?_
  refine lv_iload_n hx hb d_Ph_placeInFirst_1 rfl (lv_at hl 1 rfl) ?_
  refine k_beI (va_runV (As := [.int (zI ↑i)]) (rest := []) ⟨hx, hb, hml, hown, hkw⟩ (c_Ph_has l D cI cR cG h qo qs qp qc qt qf qn n sd lm sf st ↑i ⟨by omega, by omega⟩ (by omega) _) (cwV 1 hkw (k_gV kw_methodLink_Ph_55 kw_instanceMethod_Ph_has kw_selects_Ph_has kw_initialized_Ph kw_code_Ph_has) rfl rfl rfl (by decide +kernel) ⟨(Nat.le_of_ble_eq_true rfl), (Nat.le_of_ble_eq_true rfl)⟩) (k_preV (q0 := 0) hK hG hP hD [0] rfl rfl rfl rfl) rfl rfl hl.1 rfl (lv_room (Nat.le_of_ble_eq_true rfl)) d_Ph_placeInFirst_2 ⟨Nat.zero_le _, Nat.zero_le _⟩) hP hD hS hA [0] rfl (Eq.trans (b := [h]) rfl rfl) ?_
  clear hP hD hS; intro H locs hP hD hS
  replace hP : va_P D k_cl ([(h, .inr (1, [.ref qo, .ref qs, .int (zI ↑n), .int (zI ↑sd), .ref qp, .ref qc, .ref qt, .ref qf, .ref qn, .int (zI ↑lm), .int (zI sf), .int (zI st)])), (qf, .inl (cI, 4, .inl (kA fc)))]) H := hP
  replace hD : va_D A ([(h, .inr (1, [.ref qo, .ref qs, .int (zI ↑n), .int (zI ↑sd), .ref qp, .ref qc, .ref qt, .ref qf, .ref qn, .int (zI ↑lm), .int (zI sf), .int (zI st)])), (qf, .inl (cI, 4, .inl (kA fc)))]) := hD
  refine k_bif_eq (tgt := 17) hx hb d_Ph_placeInFirst_5 (by decide) (fun c_5 => ?_) (fun c_5 => ?_)
  · exfalso; omega
  · refine lv_aload_n hx hb d_Ph_placeInFirst_8 rfl (lv_at hl 0 rfl) ?_
    refine va_get (D := D) (ci := 1) (v := .ref qf) (C := R_Ph) (T := T_Ph) (N := 12) hx hb hkw kin_Ph hown hK hP 0 rfl rfl 7 (by decide) (hkw _ kw_fieldLink_Ph_37) (fun _ h9 => h9) rfl d_Ph_placeInFirst_9 ?_
    refine lv_iload_n hx hb d_Ph_placeInFirst_12 rfl (lv_at hl 1 rfl) ?_
    refine k_ald hx hb hK hP 1 0 rfl rfl (i := i) (by omega) (by omega) (by omega) d_Ph_placeInFirst_13 ?_
    refine lv_goto (tgt := 18) hx hb d_Ph_placeInFirst_14 (by decide) ?_
    rw [← hQf]
    exact k_iret hx hb hr hlocks hP hS rfl d_Ph_placeInFirst_18

abbrev rm_Ph_choicesMovedBy : Room := { frames := 0, cells := 0, slots := 0, locals := 0 }
set_option maxHeartbeats 4000000 in
set_option maxRecDepth 100000 in
theorem c_Ph_choicesMovedBy (l : Launch) (D : va_G) (cI cR cG : ClassId) (h qo qs qp qc qt qf qn n sd lm : Nat) (sf st : Int) (cn : Nat → Nat) (i : Nat) (hi : i ≤ 76) : k_M l y_Ph_choicesMovedBy (.code y_Ph_choicesMovedBy b_Ph_choicesMovedBy 2 (some .int) :: kW) rm_Ph_choicesMovedBy D k_cl (k_ty cI cR cG) [.ref h, .int (zI ↑i)] ([(h, .inr (1, [.ref qo, .ref qs, .int (zI ↑n), .int (zI ↑sd), .ref qp, .ref qc, .ref qt, .ref qf, .ref qn, .int (zI ↑lm), .int (zI sf), .int (zI st)])), (qn, .inl (cI, 77, .inl (kA cn)))]) (k_Qi D k_cl (zI ↑(cn i)) ([(h, .inr (1, [.ref qo, .ref qs, .int (zI ↑n), .int (zI ↑sd), .ref qp, .ref qc, .ref qt, .ref qf, .ref qn, .int (zI ↑lm), .int (zI sf), .int (zI st)])), (qn, .inl (cI, 77, .inl (kA cn)))])) := by
  refine k_start (cc := b_Ph_choicesMovedBy) (maxL := 2) (ret := (some .int)) (by decide) rfl (Nat.le_of_ble_eq_true rfl) ?_
  intro p ev s m ar below meth c A ls Qf hQf hx hb hr hml hts hown hlocks hin hK hG hA hP hD hS hl
  replace hown : s.vm.findClass R_Ph = some m.cls := hown
  replace hl : lv_has ls 2 [(0, .ref h), (1, .int (zI ↑i))] := hl
  have hkw : ∀ w ∈ kW, w.before ar s = true := fun w h => hts w (List.mem_cons_of_mem _ h)
  replace hP : va_P D k_cl ([(h, .inr (1, [.ref qo, .ref qs, .int (zI ↑n), .int (zI ↑sd), .ref qp, .ref qc, .ref qt, .ref qf, .ref qn, .int (zI ↑lm), .int (zI sf), .int (zI st)])), (qn, .inl (cI, 77, .inl (kA cn)))]) s.heap := hP
  replace hD : va_D A ([(h, .inr (1, [.ref qo, .ref qs, .int (zI ↑n), .int (zI ↑sd), .ref qp, .ref qc, .ref qt, .ref qf, .ref qn, .int (zI ↑lm), .int (zI sf), .int (zI st)])), (qn, .inl (cI, 77, .inl (kA cn)))]) := hD
  refine lv_iload_n hx hb d_Ph_choicesMovedBy_0 rfl (lv_at hl 1 rfl) ?_
  refine k_if_lt (tgt := 19) hx hb d_Ph_choicesMovedBy_1 (by decide) ⟨by omega, by omega⟩ (fun c_1 => ?_) (fun c_1 => ?_)
  · exfalso; omega
  · refine lv_iload_n hx hb d_Ph_choicesMovedBy_4 rfl (lv_at hl 1 rfl) ?_
    refine lv_bipush (v := zI 76) hx hb d_Ph_choicesMovedBy_5 (by decide) ?_
    refine k_icmp_gt (tgt := 19) hx hb d_Ph_choicesMovedBy_7 (by decide) ⟨by omega, by omega⟩ ⟨by omega, by omega⟩ (fun c_7 => ?_) (fun c_7 => ?_)
    · exfalso; omega
    · refine lv_aload_n hx hb d_Ph_choicesMovedBy_10 rfl (lv_at hl 0 rfl) ?_
      refine va_get (D := D) (ci := 1) (v := .ref qn) (C := R_Ph) (T := T_Ph) (N := 12) hx hb hkw kin_Ph hown hK hP 0 rfl rfl 8 (by decide) (hkw _ kw_fieldLink_Ph_40) (fun _ h9 => h9) rfl d_Ph_choicesMovedBy_11 ?_
      refine lv_iload_n hx hb d_Ph_choicesMovedBy_14 rfl (lv_at hl 1 rfl) ?_
      refine k_ald hx hb hK hP 1 0 rfl rfl (i := i) (by omega) (by omega) (by omega) d_Ph_choicesMovedBy_15 ?_
      refine lv_goto (tgt := 20) hx hb d_Ph_choicesMovedBy_16 (by decide) ?_
      rw [← hQf]
      exact k_iret hx hb hr hlocks hP hS rfl d_Ph_choicesMovedBy_20

abbrev rm_Ph_choicesUpTo : Room := { frames := 0, cells := 0, slots := 0, locals := 0 }
set_option maxHeartbeats 4000000 in
set_option maxRecDepth 100000 in
theorem c_Ph_choicesUpTo (l : Launch) (D : va_G) (cI cR cG : ClassId) (h qo qs qp qc qt qf qn n sd lm : Nat) (sf st : Int) (cn : Nat → Nat) (sl : Nat) (hsl : sl ≤ 9) : k_M l y_Ph_choicesUpTo (.code y_Ph_choicesUpTo b_Ph_choicesUpTo 4 (some .int) :: kW) rm_Ph_choicesUpTo D k_cl (k_ty cI cR cG) [.ref h, .int (zI ↑sl)] ([(h, .inr (1, [.ref qo, .ref qs, .int (zI ↑n), .int (zI ↑sd), .ref qp, .ref qc, .ref qt, .ref qf, .ref qn, .int (zI ↑lm), .int (zI sf), .int (zI st)])), (qn, .inl (cI, 77, .inl (kA cn)))]) (k_Qi D k_cl (zI ↑(cSum cn (sl + 1) 0 0)) ([(h, .inr (1, [.ref qo, .ref qs, .int (zI ↑n), .int (zI ↑sd), .ref qp, .ref qc, .ref qt, .ref qf, .ref qn, .int (zI ↑lm), .int (zI sf), .int (zI st)])), (qn, .inl (cI, 77, .inl (kA cn)))])) := by
  refine k_start (cc := b_Ph_choicesUpTo) (maxL := 4) (ret := (some .int)) (by decide) rfl (Nat.le_of_ble_eq_true rfl) ?_
  intro p ev s m ar below meth c A ls Qf hQf hx hb hr hml hts hown hlocks hin hK hG hA hP hD hS hl
  replace hown : s.vm.findClass R_Ph = some m.cls := hown
  replace hl : lv_has ls 4 [(0, .ref h), (1, .int (zI ↑sl))] := hl
  have hkw : ∀ w ∈ kW, w.before ar s = true := fun w h => hts w (List.mem_cons_of_mem _ h)
  replace hP : va_P D k_cl ([(h, .inr (1, [.ref qo, .ref qs, .int (zI ↑n), .int (zI ↑sd), .ref qp, .ref qc, .ref qt, .ref qf, .ref qn, .int (zI ↑lm), .int (zI sf), .int (zI st)])), (qn, .inl (cI, 77, .inl (kA cn)))]) s.heap := hP
  replace hD : va_D A ([(h, .inr (1, [.ref qo, .ref qs, .int (zI ↑n), .int (zI ↑sd), .ref qp, .ref qc, .ref qt, .ref qf, .ref qn, .int (zI ↑lm), .int (zI sf), .int (zI st)])), (qn, .inl (cI, 77, .inl (kA cn)))]) := hD
  refine lv_iconst (v := zI 0) hx hb d_Ph_choicesUpTo_0 (by decide) ?_
  refine lv_istore_n (lv' := [(2, .int (zI 0)), (0, .ref h), (1, .int (zI ↑sl))]) hx hb d_Ph_choicesUpTo_1 rfl hl (by decide) rfl ?_
  clear hl; intro ls hl
  refine lv_iconst (v := zI 0) hx hb d_Ph_choicesUpTo_2 (by decide) ?_
  refine lv_istore_n (lv' := [(3, .int (zI 0)), (2, .int (zI 0)), (0, .ref h), (1, .int (zI ↑sl))]) hx hb d_Ph_choicesUpTo_3 rfl hl (by decide) rfl ?_
  clear hl; intro ls hl
  have loop_4 : ∀ (k : Nat) (i : Nat) (acc : Nat), (i + k = sl + 1) → (cSum cn k i acc = cSum cn (sl + 1) 0 0) → ∀ (H : Heap) (locs : List Loc) (ls : Array Slot), va_P D k_cl ([(h, .inr (1, [.ref qo, .ref qs, .int (zI ↑n), .int (zI ↑sd), .ref qp, .ref qc, .ref qt, .ref qf, .ref qn, .int (zI ↑lm), .int (zI sf), .int (zI st)])), (qn, .inl (cI, 77, .inl (kA cn)))]) H → va_D A ([(h, .inr (1, [.ref qo, .ref qs, .int (zI ↑n), .int (zI ↑sd), .ref qp, .ref qc, .ref qt, .ref qf, .ref qn, .int (zI ↑lm), .int (zI sf), .int (zI st)])), (qn, .inl (cI, 77, .inl (kA cn)))]) → va_S A s.heap H locs → lv_has ls 4 [(0, .ref h), (1, .int (zI ↑sl)), (2, .int (zI ↑acc)), (3, .int (zI ↑i))] → W p l ev rm_Ph_choicesUpTo s m ar below meth c H locs 0 0 Qf (F0 m 4 ls []) := by
    intro k
    induction k with
    | zero =>
      intro i acc hin hgo H locs ls hP hD hS hl
      refine lv_iload_n hx hb d_Ph_choicesUpTo_4 rfl (lv_at hl 3 rfl) ?_
      refine lv_iload_n hx hb d_Ph_choicesUpTo_5 rfl (lv_at hl 1 rfl) ?_
      refine k_icmp_gt (tgt := 30) hx hb d_Ph_choicesUpTo_6 (by decide) ⟨by omega, by omega⟩ ⟨by omega, by omega⟩ (fun c_6 => ?_) (fun c_6 => ?_)
      · refine lv_iload_n hx hb d_Ph_choicesUpTo_30 rfl (lv_at hl 2 rfl) ?_
        rw [← hQf]
        exact k_iret hx hb hr hlocks hP hS (by rw [← hgo]; rfl) d_Ph_choicesUpTo_31
      · exfalso; omega
    | succ k ih_4 =>
      intro i acc hin hgo H locs ls hP hD hS hl
      refine lv_iload_n hx hb d_Ph_choicesUpTo_4 rfl (lv_at hl 3 rfl) ?_
      refine lv_iload_n hx hb d_Ph_choicesUpTo_5 rfl (lv_at hl 1 rfl) ?_
      refine k_icmp_gt (tgt := 30) hx hb d_Ph_choicesUpTo_6 (by decide) ⟨by omega, by omega⟩ ⟨by omega, by omega⟩ (fun c_6 => ?_) (fun c_6 => ?_)
      · exfalso; omega
      · refine lv_iload_n hx hb d_Ph_choicesUpTo_9 rfl (lv_at hl 3 rfl) ?_
        refine lv_bipush (v := zI 9) hx hb d_Ph_choicesUpTo_10 (by decide) ?_
        refine k_icmp_gt (tgt := 30) hx hb d_Ph_choicesUpTo_12 (by decide) ⟨by omega, by omega⟩ ⟨by omega, by omega⟩ (fun c_12 => ?_) (fun c_12 => ?_)
        · exfalso; omega
        · refine lv_iload_n hx hb d_Ph_choicesUpTo_15 rfl (lv_at hl 2 rfl) ?_
          refine lv_aload_n hx hb d_Ph_choicesUpTo_16 rfl (lv_at hl 0 rfl) ?_
          refine va_get (D := D) (ci := 1) (v := .ref qn) (C := R_Ph) (T := T_Ph) (N := 12) hx hb hkw kin_Ph hown hK hP 0 rfl rfl 8 (by decide) (hkw _ kw_fieldLink_Ph_40) (fun _ h9 => h9) rfl d_Ph_choicesUpTo_17 ?_
          refine lv_iload_n hx hb d_Ph_choicesUpTo_20 rfl (lv_at hl 3 rfl) ?_
          refine k_ald hx hb hK hP 1 0 rfl rfl (i := i) (by omega) (by omega) (by omega) d_Ph_choicesUpTo_21 ?_
          refine k_iadd (v := ↑(acc + cn i)) hx hb d_Ph_choicesUpTo_22 (by omega) ?_
          refine lv_istore_n (lv' := [(2, .int (zI (↑(acc + cn i)))), (0, .ref h), (1, .int (zI ↑sl)), (3, .int (zI ↑i))]) hx hb d_Ph_choicesUpTo_23 rfl hl (by decide) rfl ?_
          clear hl; intro ls hl
          refine k_iinc (v := ↑(i + 1)) (lv' := [(3, .int (zI (↑(i + 1)))), (2, .int (zI (↑(acc + cn i)))), (0, .ref h), (1, .int (zI ↑sl))]) hx hb d_Ph_choicesUpTo_24 hl (k := 3) rfl (by omega) (by decide) rfl ?_
          clear hl; intro ls hl
          refine lv_goto (tgt := 4) hx hb d_Ph_choicesUpTo_27 (by decide) ?_
          exact ih_4 (i + 1) (acc + cn i) (by omega) hgo _ _ _ hP hD hS (lv_sub hl [2, 3, 1, 0] rfl)
  exact loop_4 (sl + 1) 0 0 (by omega) rfl _ _ _ hP hD hS (lv_sub hl [2, 3, 1, 0] rfl)

abbrev rm_Ph_weightUpTo : Room := { frames := 0, cells := 0, slots := 0, locals := 0 }
set_option maxHeartbeats 4000000 in
set_option maxRecDepth 100000 in
theorem c_Ph_weightUpTo (l : Launch) (D : va_G) (cI cR cG : ClassId) (h qo qs qp qc qt qf qn n sd lm : Nat) (sf st : Int) (cn : Nat → Nat) (sl : Nat) (hsl : sl ≤ 9) (hcn : ∀ j, cn j ≤ 1000000) : k_M l y_Ph_weightUpTo (.code y_Ph_weightUpTo b_Ph_weightUpTo 5 (some .long) :: kW) rm_Ph_weightUpTo D k_cl (k_ty cI cR cG) [.ref h, .int (zI ↑sl)] ([(h, .inr (1, [.ref qo, .ref qs, .int (zI ↑n), .int (zI ↑sd), .ref qp, .ref qc, .ref qt, .ref qf, .ref qn, .int (zI ↑lm), .int (zI sf), .int (zI st)])), (qn, .inl (cI, 77, .inl (kA cn)))]) (k_Ql D k_cl (lN (wSum cn (sl + 1) 0 0)) ([(h, .inr (1, [.ref qo, .ref qs, .int (zI ↑n), .int (zI ↑sd), .ref qp, .ref qc, .ref qt, .ref qf, .ref qn, .int (zI ↑lm), .int (zI sf), .int (zI st)])), (qn, .inl (cI, 77, .inl (kA cn)))])) := by
  refine k_start (cc := b_Ph_weightUpTo) (maxL := 5) (ret := (some .long)) (by decide) rfl (Nat.le_of_ble_eq_true rfl) ?_
  intro p ev s m ar below meth c A ls Qf hQf hx hb hr hml hts hown hlocks hin hK hG hA hP hD hS hl
  replace hown : s.vm.findClass R_Ph = some m.cls := hown
  replace hl : lv_has ls 5 [(0, .ref h), (1, .int (zI ↑sl))] := hl
  have hkw : ∀ w ∈ kW, w.before ar s = true := fun w h => hts w (List.mem_cons_of_mem _ h)
  replace hP : va_P D k_cl ([(h, .inr (1, [.ref qo, .ref qs, .int (zI ↑n), .int (zI ↑sd), .ref qp, .ref qc, .ref qt, .ref qf, .ref qn, .int (zI ↑lm), .int (zI sf), .int (zI st)])), (qn, .inl (cI, 77, .inl (kA cn)))]) s.heap := hP
  replace hD : va_D A ([(h, .inr (1, [.ref qo, .ref qs, .int (zI ↑n), .int (zI ↑sd), .ref qp, .ref qc, .ref qt, .ref qf, .ref qn, .int (zI ↑lm), .int (zI sf), .int (zI st)])), (qn, .inl (cI, 77, .inl (kA cn)))]) := hD
  refine lv_lconst (v := lN 0) hx hb d_Ph_weightUpTo_0 (by decide) ?_
  refine lv_lstore_n (lv' := [(2, .long (lN 0)), (0, .ref h), (1, .int (zI ↑sl))]) hx hb d_Ph_weightUpTo_1 rfl hl (by decide) rfl ?_
  clear hl; intro ls hl
  refine lv_iconst (v := zI 0) hx hb d_Ph_weightUpTo_2 (by decide) ?_
  refine lv_istore (lv' := [(4, .int (zI 0)), (2, .long (lN 0)), (0, .ref h), (1, .int (zI ↑sl))]) hx hb d_Ph_weightUpTo_3 hl (by decide) rfl ?_
  clear hl; intro ls hl
  have loop_5 : ∀ (k : Nat) (i : Nat) (acc : Nat), (i + k = sl + 1) → (wSum cn k i acc = wSum cn (sl + 1) 0 0) → ∀ (H : Heap) (locs : List Loc) (ls : Array Slot), va_P D k_cl ([(h, .inr (1, [.ref qo, .ref qs, .int (zI ↑n), .int (zI ↑sd), .ref qp, .ref qc, .ref qt, .ref qf, .ref qn, .int (zI ↑lm), .int (zI sf), .int (zI st)])), (qn, .inl (cI, 77, .inl (kA cn)))]) H → va_D A ([(h, .inr (1, [.ref qo, .ref qs, .int (zI ↑n), .int (zI ↑sd), .ref qp, .ref qc, .ref qt, .ref qf, .ref qn, .int (zI ↑lm), .int (zI sf), .int (zI st)])), (qn, .inl (cI, 77, .inl (kA cn)))]) → va_S A s.heap H locs → lv_has ls 5 [(0, .ref h), (1, .int (zI ↑sl)), (2, .long (lN acc)), (4, .int (zI ↑i))] → W p l ev rm_Ph_weightUpTo s m ar below meth c H locs 0 0 Qf (F0 m 5 ls []) := by
    intro k
    induction k with
    | zero =>
      intro i acc hin hgo H locs ls hP hD hS hl
      refine lv_iload hx hb d_Ph_weightUpTo_5 (lv_at hl 3 rfl) ?_
      refine lv_iload_n hx hb d_Ph_weightUpTo_7 rfl (lv_at hl 1 rfl) ?_
      refine k_icmp_gt (tgt := 45) hx hb d_Ph_weightUpTo_8 (by decide) ⟨by omega, by omega⟩ ⟨by omega, by omega⟩ (fun c_8 => ?_) (fun c_8 => ?_)
      · refine lv_lload_n hx hb d_Ph_weightUpTo_45 rfl (lv_at hl 2 rfl) ?_
        rw [← hQf]
        exact k_lret hx hb hr hlocks hP hS (by rw [← hgo]; rfl) d_Ph_weightUpTo_46
      · exfalso; omega
    | succ k ih_5 =>
      intro i acc hin hgo H locs ls hP hD hS hl
      refine lv_iload hx hb d_Ph_weightUpTo_5 (lv_at hl 3 rfl) ?_
      refine lv_iload_n hx hb d_Ph_weightUpTo_7 rfl (lv_at hl 1 rfl) ?_
      refine k_icmp_gt (tgt := 45) hx hb d_Ph_weightUpTo_8 (by decide) ⟨by omega, by omega⟩ ⟨by omega, by omega⟩ (fun c_8 => ?_) (fun c_8 => ?_)
      · exfalso; omega
      · refine lv_iload hx hb d_Ph_weightUpTo_11 (lv_at hl 3 rfl) ?_
        refine lv_bipush (v := zI 9) hx hb d_Ph_weightUpTo_13 (by decide) ?_
        refine k_icmp_gt (tgt := 45) hx hb d_Ph_weightUpTo_15 (by decide) ⟨by omega, by omega⟩ ⟨by omega, by omega⟩ (fun c_15 => ?_) (fun c_15 => ?_)
        · exfalso; omega
        · refine lv_lload_n hx hb d_Ph_weightUpTo_18 rfl (lv_at hl 2 rfl) ?_
          refine lv_aload_n hx hb d_Ph_weightUpTo_19 rfl (lv_at hl 0 rfl) ?_
          refine va_get (D := D) (ci := 1) (v := .ref qn) (C := R_Ph) (T := T_Ph) (N := 12) hx hb hkw kin_Ph hown hK hP 0 rfl rfl 8 (by decide) (hkw _ kw_fieldLink_Ph_40) (fun _ h9 => h9) rfl d_Ph_weightUpTo_20 ?_
          refine lv_iload hx hb d_Ph_weightUpTo_23 (lv_at hl 3 rfl) ?_
          refine k_ald hx hb hK hP 1 0 rfl rfl (i := i) (by omega) (by omega) (by omega) d_Ph_weightUpTo_25 ?_
          have hv_1 := hcn i
          refine k_i2l (v := (cn i)) hx hb (by omega) (by omega) d_Ph_weightUpTo_26 ?_
          refine lv_ldc2 (v := lN 2520) hx hb hown (hkw _ kw_constantLong_Ph_59) d_Ph_weightUpTo_27 ?_
          refine lv_iload hx hb d_Ph_weightUpTo_30 (lv_at hl 3 rfl) ?_
          refine lv_iconst (v := zI 1) hx hb d_Ph_weightUpTo_32 (by decide) ?_
          refine k_iadd (v := ↑(i + 1)) hx hb d_Ph_weightUpTo_33 (by omega) ?_
          refine k_i2l (v := (i + 1)) hx hb (by omega) (by omega) d_Ph_weightUpTo_34 ?_
          refine k_ldiv (x := 2520) (y := (i + 1)) hx hb rfl (by omega) (by omega) (by omega) d_Ph_weightUpTo_35 ?_
          refine k_lmul (x := (cn i)) (y := 2520 / (i + 1)) hx hb rfl d_Ph_weightUpTo_36 ?_
          refine k_ladd (x := acc) (y := (cn i) * (2520 / (i + 1))) hx hb rfl d_Ph_weightUpTo_37 ?_
          refine lv_lstore_n (lv' := [(2, .long (lN (acc + ((cn i) * (2520 / (i + 1)))))), (0, .ref h), (1, .int (zI ↑sl)), (4, .int (zI ↑i))]) hx hb d_Ph_weightUpTo_38 rfl hl (by decide) rfl ?_
          clear hl; intro ls hl
          refine k_iinc (v := ↑(i + 1)) (lv' := [(4, .int (zI (↑(i + 1)))), (2, .long (lN (acc + ((cn i) * (2520 / (i + 1)))))), (0, .ref h), (1, .int (zI ↑sl))]) hx hb d_Ph_weightUpTo_39 hl (k := 3) rfl (by omega) (by decide) rfl ?_
          clear hl; intro ls hl
          refine lv_goto (tgt := 5) hx hb d_Ph_weightUpTo_42 (by decide) ?_
          exact ih_5 (i + 1) _ (by omega) hgo _ _ _ hP hD hS (lv_sub hl [2, 3, 1, 0] rfl)
  exact loop_5 (sl + 1) 0 0 (by omega) rfl _ _ _ hP hD hS (lv_sub hl [2, 3, 1, 0] rfl)

abbrev rm_Ph_isFree : Room := { frames := 0, cells := 0, slots := 0, locals := 0 }
set_option maxHeartbeats 4000000 in
set_option maxRecDepth 100000 in
theorem c_Ph_isFree (l : Launch) (D : va_G) (cI cR cG : ClassId) (h qo qs qp qc qt qf qn n sd lm : Nat) (sf st : Int) (se tr : Nat → Nat) (s0 p0 : Nat) (hs : s0 < 4) (hp : p0 ≤ 30) (hse : ∀ j, se j ≤ 1023) (htr : ∀ j, tr j ≤ 30) : k_M l y_Ph_isFree (.code y_Ph_isFree b_Ph_isFree 4 (some .boolean) :: kW) rm_Ph_isFree D k_cl (k_ty cI cR cG) [.ref h, .int (zI ↑s0), .int (zI ↑p0)] ([(h, .inr (1, [.ref qo, .ref qs, .int (zI ↑n), .int (zI ↑sd), .ref qp, .ref qc, .ref qt, .ref qf, .ref qn, .int (zI ↑lm), .int (zI sf), .int (zI st)])), (qs, .inl (cI, 4, .inl (kA se))), (qt, .inl (cI, 4, .inl (kA tr)))]) (k_Qi D k_cl (k_b (fFree tr se s0 p0 s0 0 = true)) ([(h, .inr (1, [.ref qo, .ref qs, .int (zI ↑n), .int (zI ↑sd), .ref qp, .ref qc, .ref qt, .ref qf, .ref qn, .int (zI ↑lm), .int (zI sf), .int (zI st)])), (qs, .inl (cI, 4, .inl (kA se))), (qt, .inl (cI, 4, .inl (kA tr)))])) := by
  refine k_start (cc := b_Ph_isFree) (maxL := 4) (ret := (some .boolean)) (by decide) rfl (Nat.le_of_ble_eq_true rfl) ?_
  intro p ev s m ar below meth c A ls Qf hQf hx hb hr hml hts hown hlocks hin hK hG hA hP hD hS hl
  replace hown : s.vm.findClass R_Ph = some m.cls := hown
  replace hl : lv_has ls 4 [(0, .ref h), (1, .int (zI ↑s0)), (2, .int (zI ↑p0))] := hl
  have hkw : ∀ w ∈ kW, w.before ar s = true := fun w h => hts w (List.mem_cons_of_mem _ h)
  replace hP : va_P D k_cl ([(h, .inr (1, [.ref qo, .ref qs, .int (zI ↑n), .int (zI ↑sd), .ref qp, .ref qc, .ref qt, .ref qf, .ref qn, .int (zI ↑lm), .int (zI sf), .int (zI st)])), (qs, .inl (cI, 4, .inl (kA se))), (qt, .inl (cI, 4, .inl (kA tr)))]) s.heap := hP
  replace hD : va_D A ([(h, .inr (1, [.ref qo, .ref qs, .int (zI ↑n), .int (zI ↑sd), .ref qp, .ref qc, .ref qt, .ref qf, .ref qn, .int (zI ↑lm), .int (zI sf), .int (zI st)])), (qs, .inl (cI, 4, .inl (kA se))), (qt, .inl (cI, 4, .inl (kA tr)))]) := hD
  refine lv_iconst (v := zI 0) hx hb d_Ph_isFree_0 (by decide) ?_
  refine lv_istore_n (lv' := [(3, .int (zI 0)), (0, .ref h), (1, .int (zI ↑s0)), (2, .int (zI ↑p0))]) hx hb d_Ph_isFree_1 rfl hl (by decide) rfl ?_
  clear hl; intro ls hl
  have loop_2 : ∀ (k : Nat) (i : Nat), (i + k = s0) → (fFree tr se s0 p0 k i = fFree tr se s0 p0 s0 0) → ∀ (H : Heap) (locs : List Loc) (ls : Array Slot), va_P D k_cl ([(h, .inr (1, [.ref qo, .ref qs, .int (zI ↑n), .int (zI ↑sd), .ref qp, .ref qc, .ref qt, .ref qf, .ref qn, .int (zI ↑lm), .int (zI sf), .int (zI st)])), (qs, .inl (cI, 4, .inl (kA se))), (qt, .inl (cI, 4, .inl (kA tr)))]) H → va_D A ([(h, .inr (1, [.ref qo, .ref qs, .int (zI ↑n), .int (zI ↑sd), .ref qp, .ref qc, .ref qt, .ref qf, .ref qn, .int (zI ↑lm), .int (zI sf), .int (zI st)])), (qs, .inl (cI, 4, .inl (kA se))), (qt, .inl (cI, 4, .inl (kA tr)))]) → va_S A s.heap H locs → lv_has ls 4 [(0, .ref h), (1, .int (zI ↑s0)), (2, .int (zI ↑p0)), (3, .int (zI ↑i))] → W p l ev rm_Ph_isFree s m ar below meth c H locs 0 0 Qf (F0 m 2 ls []) := by
    intro k
    induction k with
    | zero =>
      intro i hin hgo H locs ls hP hD hS hl
      refine lv_iload_n hx hb d_Ph_isFree_2 rfl (lv_at hl 3 rfl) ?_
      refine lv_iload_n hx hb d_Ph_isFree_3 rfl (lv_at hl 1 rfl) ?_
      refine k_icmp_ge (tgt := 41) hx hb d_Ph_isFree_4 (by decide) ⟨by omega, by omega⟩ ⟨by omega, by omega⟩ (fun c_4 => ?_) (fun c_4 => ?_)
      · refine lv_iconst (v := zI 1) hx hb d_Ph_isFree_41 (by decide) ?_
        rw [← hQf]
        exact k_zret hx hb hr hlocks hP hS (k_bt (by rw [← hgo]; rfl)).symm d_Ph_isFree_42
      · exfalso; omega
    | succ k ih_2 =>
      intro i hin hgo H locs ls hP hD hS hl
      refine lv_iload_n hx hb d_Ph_isFree_2 rfl (lv_at hl 3 rfl) ?_
      refine lv_iload_n hx hb d_Ph_isFree_3 rfl (lv_at hl 1 rfl) ?_
      refine k_icmp_ge (tgt := 41) hx hb d_Ph_isFree_4 (by decide) ⟨by omega, by omega⟩ ⟨by omega, by omega⟩ (fun c_4 => ?_) (fun c_4 => ?_)
      · exfalso; omega
      · refine lv_aload_n hx hb d_Ph_isFree_7 rfl (lv_at hl 0 rfl) ?_
        refine va_get (D := D) (ci := 1) (v := .ref qt) (C := R_Ph) (T := T_Ph) (N := 12) hx hb hkw kin_Ph hown hK hP 0 rfl rfl 6 (by decide) (hkw _ kw_fieldLink_Ph_34) (fun _ h9 => h9) rfl d_Ph_isFree_8 ?_
        refine lv_iload_n hx hb d_Ph_isFree_11 rfl (lv_at hl 3 rfl) ?_
        refine k_ald hx hb hK hP 2 0 rfl rfl (i := i) (by omega) (by omega) (by omega) d_Ph_isFree_12 ?_
        have hv_1 := htr i
        refine lv_iload_n hx hb d_Ph_isFree_13 rfl (lv_at hl 2 rfl) ?_
        refine k_icmp_ne (tgt := 35) hx hb d_Ph_isFree_14 (by decide) ⟨by omega, by omega⟩ ⟨by omega, by omega⟩ (fun c_14 => ?_) (fun c_14 => ?_)
        · refine k_iinc (v := ↑(i + 1)) (lv' := [(3, .int (zI (↑(i + 1)))), (0, .ref h), (1, .int (zI ↑s0)), (2, .int (zI ↑p0))]) hx hb d_Ph_isFree_35 hl (k := 3) rfl (by omega) (by decide) rfl ?_
          clear hl; intro ls hl
          refine lv_goto (tgt := 2) hx hb d_Ph_isFree_38 (by decide) ?_
          exact ih_2 (i + 1) (by omega) (by rw [fFree] at hgo; (repeat' split at hgo); all_goals first | exact hgo | (exfalso; omega) | contradiction) _ _ _ hP hD hS (lv_sub hl [1, 2, 3, 0] rfl)
        · refine lv_aload_n hx hb d_Ph_isFree_17 rfl (lv_at hl 0 rfl) ?_
          refine va_get (D := D) (ci := 1) (v := .ref qs) (C := R_Ph) (T := T_Ph) (N := 12) hx hb hkw kin_Ph hown hK hP 0 rfl rfl 1 (by decide) (hkw _ kw_fieldLink_Ph_15) (fun _ h9 => h9) rfl d_Ph_isFree_18 ?_
          refine lv_iload_n hx hb d_Ph_isFree_21 rfl (lv_at hl 3 rfl) ?_
          refine k_ald hx hb hK hP 1 0 rfl rfl (i := i) (by omega) (by omega) (by omega) d_Ph_isFree_22 ?_
          have hv_2 := hse i
          refine lv_aload_n hx hb d_Ph_isFree_23 rfl (lv_at hl 0 rfl) ?_
          refine va_get (D := D) (ci := 1) (v := .ref qs) (C := R_Ph) (T := T_Ph) (N := 12) hx hb hkw kin_Ph hown hK hP 0 rfl rfl 1 (by decide) (hkw _ kw_fieldLink_Ph_15) (fun _ h9 => h9) rfl d_Ph_isFree_24 ?_
          refine lv_iload_n hx hb d_Ph_isFree_27 rfl (lv_at hl 1 rfl) ?_
          refine k_ald hx hb hK hP 1 0 rfl rfl (i := s0) (by omega) (by omega) (by omega) d_Ph_isFree_28 ?_
          have hv_3 := hse s0
          refine k_iand (a := (se i)) (b := (se s0)) hx hb d_Ph_isFree_29 ?_
          have hv_4 := k_and_le (se i) (se s0) 1023 (by omega)
          refine k_if_eq (tgt := 35) hx hb d_Ph_isFree_30 (by decide) ⟨by omega, by omega⟩ (fun c_30 => ?_) (fun c_30 => ?_)
          · refine k_iinc (v := ↑(i + 1)) (lv' := [(3, .int (zI (↑(i + 1)))), (0, .ref h), (1, .int (zI ↑s0)), (2, .int (zI ↑p0))]) hx hb d_Ph_isFree_35 hl (k := 3) rfl (by omega) (by decide) rfl ?_
            clear hl; intro ls hl
            refine lv_goto (tgt := 2) hx hb d_Ph_isFree_38 (by decide) ?_
            exact ih_2 (i + 1) (by omega) (by rw [fFree] at hgo; (repeat' split at hgo); all_goals first | exact hgo | (exfalso; omega) | contradiction) _ _ _ hP hD hS (lv_sub hl [1, 2, 3, 0] rfl)
          · refine lv_iconst (v := zI 0) hx hb d_Ph_isFree_33 (by decide) ?_
            rw [← hQf]
            exact k_zret hx hb hr hlocks hP hS (k_bf (by rw [← hgo, fFree]; (repeat' split); all_goals first | (exfalso; omega) | simp)).symm d_Ph_isFree_34
  exact loop_2 s0 0 (by omega) rfl _ _ _ hP hD hS (lv_sub hl [1, 2, 3, 0] rfl)

abbrev rm_Ph_isShorter : Room := { frames := 0, cells := 0, slots := 0, locals := 0 }
set_option maxHeartbeats 4000000 in
set_option maxRecDepth 100000 in
theorem c_Ph_isShorter (l : Launch) (D : va_G) (cI cR cG : ClassId) (h qo qs qp qc qt qf qn n sd lm : Nat) (sf st : Int) (lo hi : Int) (hlo : -1 ≤ lo ∧ lo ≤ 30) (hhi : -1 ≤ hi ∧ hi ≤ 30) (hsf : -1 ≤ sf ∧ sf ≤ 30) (hst : -1 ≤ st ∧ st ≤ 30) : k_M l y_Ph_isShorter (.code y_Ph_isShorter b_Ph_isShorter 5 (some .boolean) :: kW) rm_Ph_isShorter D k_cl (k_ty cI cR cG) [.ref h, .int (zI lo), .int (zI hi)] ([(h, .inr (1, [.ref qo, .ref qs, .int (zI ↑n), .int (zI ↑sd), .ref qp, .ref qc, .ref qt, .ref qf, .ref qn, .int (zI ↑lm), .int (zI sf), .int (zI st)]))]) (k_Qi D k_cl (k_b (sSh lo hi sf st = true)) ([(h, .inr (1, [.ref qo, .ref qs, .int (zI ↑n), .int (zI ↑sd), .ref qp, .ref qc, .ref qt, .ref qf, .ref qn, .int (zI ↑lm), .int (zI sf), .int (zI st)]))])) := by
  refine k_start (cc := b_Ph_isShorter) (maxL := 5) (ret := (some .boolean)) (by decide) rfl (Nat.le_of_ble_eq_true rfl) ?_
  intro p ev s m ar below meth c A ls Qf hQf hx hb hr hml hts hown hlocks hin hK hG hA hP hD hS hl
  replace hown : s.vm.findClass R_Ph = some m.cls := hown
  replace hl : lv_has ls 5 [(0, .ref h), (1, .int (zI lo)), (2, .int (zI hi))] := hl
  have hkw : ∀ w ∈ kW, w.before ar s = true := fun w h => hts w (List.mem_cons_of_mem _ h)
  replace hP : va_P D k_cl ([(h, .inr (1, [.ref qo, .ref qs, .int (zI ↑n), .int (zI ↑sd), .ref qp, .ref qc, .ref qt, .ref qf, .ref qn, .int (zI ↑lm), .int (zI sf), .int (zI st)]))]) s.heap := hP
  replace hD : va_D A ([(h, .inr (1, [.ref qo, .ref qs, .int (zI ↑n), .int (zI ↑sd), .ref qp, .ref qc, .ref qt, .ref qf, .ref qn, .int (zI ↑lm), .int (zI sf), .int (zI st)]))]) := hD
  refine lv_iload_n hx hb d_Ph_isShorter_0 rfl (lv_at hl 2 rfl) ?_
  refine lv_iload_n hx hb d_Ph_isShorter_1 rfl (lv_at hl 1 rfl) ?_
  refine k_isub hx hb d_Ph_isShorter_2 rfl ?_
  refine lv_istore_n (lv' := [(3, .int (zI (hi - lo))), (0, .ref h), (1, .int (zI lo)), (2, .int (zI hi))]) hx hb d_Ph_isShorter_3 rfl hl (by decide) rfl ?_
  clear hl; intro ls hl
  refine lv_aload_n hx hb d_Ph_isShorter_4 rfl (lv_at hl 1 rfl) ?_
  refine va_get (D := D) (ci := 1) (v := .int (zI st)) (C := R_Ph) (T := T_Ph) (N := 12) hx hb hkw kin_Ph hown hK hP 0 rfl rfl 11 (by decide) (hkw _ kw_fieldLink_Ph_49) (fun _ h9 => h9) rfl d_Ph_isShorter_5 ?_
  refine lv_aload_n hx hb d_Ph_isShorter_8 rfl (lv_at hl 1 rfl) ?_
  refine va_get (D := D) (ci := 1) (v := .int (zI sf)) (C := R_Ph) (T := T_Ph) (N := 12) hx hb hkw kin_Ph hown hK hP 0 rfl rfl 10 (by decide) (hkw _ kw_fieldLink_Ph_46) (fun _ h9 => h9) rfl d_Ph_isShorter_9 ?_
  refine k_isub hx hb d_Ph_isShorter_12 rfl ?_
  refine lv_istore (lv' := [(4, .int (zI (st - sf))), (3, .int (zI (hi - lo))), (0, .ref h), (1, .int (zI lo)), (2, .int (zI hi))]) hx hb d_Ph_isShorter_13 hl (by decide) rfl ?_
  clear hl; intro ls hl
  refine lv_iload_n hx hb d_Ph_isShorter_15 rfl (lv_at hl 1 rfl) ?_
  refine lv_iload hx hb d_Ph_isShorter_16 (lv_at hl 0 rfl) ?_
  refine k_icmp_lt (tgt := 35) hx hb d_Ph_isShorter_18 (by decide) ⟨by omega, by omega⟩ ⟨by omega, by omega⟩ (fun c_18 => ?_) (fun c_18 => ?_)
  · refine lv_iconst (v := zI 1) hx hb d_Ph_isShorter_35 (by decide) ?_
    refine lv_goto (tgt := 40) hx hb d_Ph_isShorter_36 (by decide) ?_
    rw [← hQf]
    exact k_zret hx hb hr hlocks hP hS (k_bt (by unfold sSh; simp only [Bool.or_eq_true, Bool.and_eq_true, decide_eq_true_eq]; omega)).symm d_Ph_isShorter_40
  · refine lv_iload_n hx hb d_Ph_isShorter_21 rfl (lv_at hl 1 rfl) ?_
    refine lv_iload hx hb d_Ph_isShorter_22 (lv_at hl 0 rfl) ?_
    refine k_icmp_ne (tgt := 39) hx hb d_Ph_isShorter_24 (by decide) ⟨by omega, by omega⟩ ⟨by omega, by omega⟩ (fun c_24 => ?_) (fun c_24 => ?_)
    · refine lv_iconst (v := zI 0) hx hb d_Ph_isShorter_39 (by decide) ?_
      rw [← hQf]
      exact k_zret hx hb hr hlocks hP hS (k_bf (by unfold sSh; simp only [Bool.or_eq_true, Bool.and_eq_true, decide_eq_true_eq]; omega)).symm d_Ph_isShorter_40
    · refine lv_iload_n hx hb d_Ph_isShorter_27 rfl (lv_at hl 3 rfl) ?_
      refine lv_aload_n hx hb d_Ph_isShorter_28 rfl (lv_at hl 2 rfl) ?_
      refine va_get (D := D) (ci := 1) (v := .int (zI sf)) (C := R_Ph) (T := T_Ph) (N := 12) hx hb hkw kin_Ph hown hK hP 0 rfl rfl 10 (by decide) (hkw _ kw_fieldLink_Ph_46) (fun _ h9 => h9) rfl d_Ph_isShorter_29 ?_
      refine k_icmp_ge (tgt := 39) hx hb d_Ph_isShorter_32 (by decide) ⟨by omega, by omega⟩ ⟨by omega, by omega⟩ (fun c_32 => ?_) (fun c_32 => ?_)
      · refine lv_iconst (v := zI 0) hx hb d_Ph_isShorter_39 (by decide) ?_
        rw [← hQf]
        exact k_zret hx hb hr hlocks hP hS (k_bf (by unfold sSh; simp only [Bool.or_eq_true, Bool.and_eq_true, decide_eq_true_eq]; omega)).symm d_Ph_isShorter_40
      · refine lv_iconst (v := zI 1) hx hb d_Ph_isShorter_35 (by decide) ?_
        refine lv_goto (tgt := 40) hx hb d_Ph_isShorter_36 (by decide) ?_
        rw [← hQf]
        exact k_zret hx hb hr hlocks hP hS (k_bt (by unfold sSh; simp only [Bool.or_eq_true, Bool.and_eq_true, decide_eq_true_eq]; omega)).symm d_Ph_isShorter_40

abbrev rm_Ph_noteChoice : Room := { frames := 1, cells := 0, slots := 0, locals := 60 }
set_option maxHeartbeats 4000000 in
set_option maxRecDepth 100000 in
theorem c_Ph_noteChoice (l : Launch) (D : va_G) (cI cR cG : ClassId) (h qo qs qp qc qt qf qn n sd lm : Nat) (sf st : Int) (tr fc cn : Nat → Nat) (mv : Nat) (hmv : mv ≤ 1000) (hlm : lm ≤ 77) : k_M l y_Ph_noteChoice (.code y_Ph_noteChoice b_Ph_noteChoice 2 none :: kW) rm_Ph_noteChoice D k_cl (k_ty cI cR cG) [.ref h, .int (zI ↑mv)] ([(h, .inr (1, [.ref qo, .ref qs, .int (zI ↑n), .int (zI ↑sd), .ref qp, .ref qc, .ref qt, .ref qf, .ref qn, .int (zI ↑lm), .int (zI sf), .int (zI st)])), (qt, .inl (cI, 4, .inl (kA tr))), (qf, .inl (cI, 4, .inl (kA fc))), (qn, .inl (cI, 77, .inl (kA cn)))]) (k_Qv D k_cl ([(h, .inr (1, [.ref qo, .ref qs, .int (zI ↑n), .int (zI ↑sd), .ref qp, .ref qc, .ref qt, .ref qf, .ref qn, .int (zI (↑((sNote mv (tr, fc, cn, lm)).2.2.2))), .int (zI sf), .int (zI st)])), (qt, .inl (cI, 4, .inl (kA ((sNote mv (tr, fc, cn, lm)).1)))), (qf, .inl (cI, 4, .inl (kA ((sNote mv (tr, fc, cn, lm)).2.1)))), (qn, .inl (cI, 77, .inl (kA ((sNote mv (tr, fc, cn, lm)).2.2.1))))])) := by
  refine k_start (cc := b_Ph_noteChoice) (maxL := 2) (ret := none) (by decide) rfl (Nat.le_of_ble_eq_true rfl) ?_
  intro p ev s m ar below meth c A ls Qf hQf hx hb hr hml hts hown hlocks hin hK hG hA hP hD hS hl
  replace hown : s.vm.findClass R_Ph = some m.cls := hown
  replace hl : lv_has ls 2 [(0, .ref h), (1, .int (zI ↑mv))] := hl
  have hkw : ∀ w ∈ kW, w.before ar s = true := fun w h => hts w (List.mem_cons_of_mem _ h)
  replace hP : va_P D k_cl ([(h, .inr (1, [.ref qo, .ref qs, .int (zI ↑n), .int (zI ↑sd), .ref qp, .ref qc, .ref qt, .ref qf, .ref qn, .int (zI ↑lm), .int (zI sf), .int (zI st)])), (qt, .inl (cI, 4, .inl (kA tr))), (qf, .inl (cI, 4, .inl (kA fc))), (qn, .inl (cI, 77, .inl (kA cn)))]) s.heap := hP
  replace hD : va_D A ([(h, .inr (1, [.ref qo, .ref qs, .int (zI ↑n), .int (zI ↑sd), .ref qp, .ref qc, .ref qt, .ref qf, .ref qn, .int (zI ↑lm), .int (zI sf), .int (zI st)])), (qt, .inl (cI, 4, .inl (kA tr))), (qf, .inl (cI, 4, .inl (kA fc))), (qn, .inl (cI, 77, .inl (kA cn)))]) := hD
  refine lv_iload_n hx hb d_Ph_noteChoice_0 rfl (lv_at hl 1 rfl) ?_
  refine k_if_lt (tgt := 10) hx hb d_Ph_noteChoice_1 (by decide) ⟨by omega, by omega⟩ (fun c_1 => ?_) (fun c_1 => ?_)
  · exfalso; omega
  · refine lv_iload_n hx hb d_Ph_noteChoice_4 rfl (lv_at hl 1 rfl) ?_
    refine lv_bipush (v := zI 76) hx hb d_Ph_noteChoice_5 (by decide) ?_
    refine k_icmp_le (tgt := 11) hx hb d_Ph_noteChoice_7 (by decide) ⟨by omega, by omega⟩ ⟨by omega, by omega⟩ (fun c_7 => ?_) (fun c_7 => ?_)
    · refine lv_aload_n hx hb d_Ph_noteChoice_11 rfl (lv_at hl 0 rfl) ?_
      refine va_get (D := D) (ci := 1) (v := .ref qn) (C := R_Ph) (T := T_Ph) (N := 12) hx hb hkw kin_Ph hown hK hP 0 rfl rfl 8 (by decide) (hkw _ kw_fieldLink_Ph_40) (fun _ h9 => h9) rfl d_Ph_noteChoice_12 ?_
      refine lv_iload_n hx hb d_Ph_noteChoice_15 rfl (lv_at hl 1 rfl) ?_
      refine lv_dup2_11 hx hb d_Ph_noteChoice_16 rfl rfl ?_
      refine k_ald hx hb hK hP 3 0 rfl rfl (i := mv) (by omega) (by omega) (by omega) d_Ph_noteChoice_17 ?_
      refine lv_iconst (v := zI 1) hx hb d_Ph_noteChoice_18 (by decide) ?_
      refine k_iadd (v := ↑(cn mv + 1)) hx hb d_Ph_noteChoice_19 (by omega) ?_
      refine k_ast hx hb hK hP hD hS 3 0 rfl rfl (i := mv) (v := (cn mv + 1)) (by omega) (by omega) (by omega) (by omega) d_Ph_noteChoice_20 ?_
      clear hP hD hS; intro H locs hP hD hS
      replace hP : va_P D k_cl ([(h, .inr (1, [.ref qo, .ref qs, .int (zI ↑n), .int (zI ↑sd), .ref qp, .ref qc, .ref qt, .ref qf, .ref qn, .int (zI ↑lm), .int (zI sf), .int (zI st)])), (qt, .inl (cI, 4, .inl (kA tr))), (qf, .inl (cI, 4, .inl (kA fc))), (qn, .inl (cI, 77, .inl (kA (va_up cn mv (cn mv + 1)))))]) H := hP
      replace hD : va_D A ([(h, .inr (1, [.ref qo, .ref qs, .int (zI ↑n), .int (zI ↑sd), .ref qp, .ref qc, .ref qt, .ref qf, .ref qn, .int (zI ↑lm), .int (zI sf), .int (zI st)])), (qt, .inl (cI, 4, .inl (kA tr))), (qf, .inl (cI, 4, .inl (kA fc))), (qn, .inl (cI, 77, .inl (kA (va_up cn mv (cn mv + 1)))))]) := hD
      refine lv_iload_n hx hb d_Ph_noteChoice_21 rfl (lv_at hl 1 rfl) ?_
      refine lv_aload_n hx hb d_Ph_noteChoice_22 rfl (lv_at hl 0 rfl) ?_
      refine va_get (D := D) (ci := 1) (v := .int (zI ↑lm)) (C := R_Ph) (T := T_Ph) (N := 12) hx hb hkw kin_Ph hown hK hP 0 rfl rfl 9 (by decide) (hkw _ kw_fieldLink_Ph_43) (fun _ h9 => h9) rfl d_Ph_noteChoice_23 ?_
      refine k_icmp_ge (tgt := 48) hx hb d_Ph_noteChoice_26 (by decide) ⟨by omega, by omega⟩ ⟨by omega, by omega⟩ (fun c_26 => ?_) (fun c_26 => ?_)
      · rw [← hQf]
        have e9 : sNote mv (tr, fc, cn, lm) = (tr, fc, (va_up cn mv (cn mv + 1)), lm) := by unfold sNote; (repeat' split); all_goals first | rfl | (exfalso; omega) | (exfalso; simp only at *; omega)
        replace hP : va_P D k_cl [(h, .inr (1, [.ref qo, .ref qs, .int (zI ↑n), .int (zI ↑sd), .ref qp, .ref qc, .ref qt, .ref qf, .ref qn, .int (zI (↑((sNote mv (tr, fc, cn, lm)).2.2.2))), .int (zI sf), .int (zI st)])), (qt, .inl (cI, 4, .inl (kA ((sNote mv (tr, fc, cn, lm)).1)))), (qf, .inl (cI, 4, .inl (kA ((sNote mv (tr, fc, cn, lm)).2.1)))), (qn, .inl (cI, 77, .inl (kA ((sNote mv (tr, fc, cn, lm)).2.2.1))))] H := by rw [e9]; exact hP
        exact k_vret hx hb hr hlocks hP hS d_Ph_noteChoice_48
      · refine lv_aload_n hx hb d_Ph_noteChoice_29 rfl (lv_at hl 0 rfl) ?_
        refine lv_iload_n hx hb d_Ph_noteChoice_30 rfl (lv_at hl 1 rfl) ?_
        refine va_put (D := D) (ci := 1) (v := .int (zI ↑mv)) (ty := .int) (C := R_Ph) (T := T_Ph) (N := 12) hx hb hkw kin_Ph ty_Ph ty_Ph_ok nm_Ph hown hK hP hD hS 0 rfl rfl 9 (by decide) (hkw _ kw_fieldLink_Ph_43) (fun _ h9 => h9) rfl (by decide +kernel) rfl rfl (Nat.le_of_ble_eq_true rfl) d_Ph_noteChoice_31 ?_
        clear hP hD hS; intro H locs hP hD hS
        replace hP : va_P D k_cl ([(h, .inr (1, [.ref qo, .ref qs, .int (zI ↑n), .int (zI ↑sd), .ref qp, .ref qc, .ref qt, .ref qf, .ref qn, .int (zI ↑mv), .int (zI sf), .int (zI st)])), (qt, .inl (cI, 4, .inl (kA tr))), (qf, .inl (cI, 4, .inl (kA fc))), (qn, .inl (cI, 77, .inl (kA (va_up cn mv (cn mv + 1)))))]) H := hP
        replace hD : va_D A ([(h, .inr (1, [.ref qo, .ref qs, .int (zI ↑n), .int (zI ↑sd), .ref qp, .ref qc, .ref qt, .ref qf, .ref qn, .int (zI ↑mv), .int (zI sf), .int (zI st)])), (qt, .inl (cI, 4, .inl (kA tr))), (qf, .inl (cI, 4, .inl (kA fc))), (qn, .inl (cI, 77, .inl (kA (va_up cn mv (cn mv + 1)))))]) := hD
        refine lv_aload_n hx hb d_Ph_noteChoice_34 rfl (lv_at hl 0 rfl) ?_
        refine va_get (D := D) (ci := 1) (v := .ref qt) (C := R_Ph) (T := T_Ph) (N := 12) hx hb hkw kin_Ph hown hK hP 0 rfl rfl 6 (by decide) (hkw _ kw_fieldLink_Ph_34) (fun _ h9 => h9) rfl d_Ph_noteChoice_35 ?_
        refine lv_iconst (v := zI 0) hx hb d_Ph_noteChoice_38 (by decide) ?_
        refine lv_aload_n hx hb d_Ph_noteChoice_39 rfl (lv_at hl 0 rfl) ?_
        refine va_get (D := D) (ci := 1) (v := .ref qf) (C := R_Ph) (T := T_Ph) (N := 12) hx hb hkw kin_Ph hown hK hP 0 rfl rfl 7 (by decide) (hkw _ kw_fieldLink_Ph_37) (fun _ h9 => h9) rfl d_Ph_noteChoice_40 ?_
        refine lv_iconst (v := zI 0) hx hb d_Ph_noteChoice_43 (by decide) ?_
        refine lv_iconst (v := zI 4) hx hb d_Ph_noteChoice_44 (by decide) ?_
        refine k_copy4 hx hb (hml.trans hl.1.symm) hown (hkw _ kw_methodLink_Ph_100) (hkw _ kw_native_System_arraycopy) (hkw _ kw_static_System_arraycopy) (hkw _ kw_initialized_System) hK hP hD hS 1 2 0 rfl rfl rfl (Nat.le_of_ble_eq_true rfl) (by decide +kernel) d_Ph_noteChoice_45 ?_
        clear hP hD hS; intro H locs hP hD hS
        replace hP : va_P D k_cl ([(h, .inr (1, [.ref qo, .ref qs, .int (zI ↑n), .int (zI ↑sd), .ref qp, .ref qc, .ref qt, .ref qf, .ref qn, .int (zI ↑mv), .int (zI sf), .int (zI st)])), (qt, .inl (cI, 4, .inl (kA tr))), (qf, .inl (cI, 4, .inl (kA tr))), (qn, .inl (cI, 77, .inl (kA (va_up cn mv (cn mv + 1)))))]) H := hP
        replace hD : va_D A ([(h, .inr (1, [.ref qo, .ref qs, .int (zI ↑n), .int (zI ↑sd), .ref qp, .ref qc, .ref qt, .ref qf, .ref qn, .int (zI ↑mv), .int (zI sf), .int (zI st)])), (qt, .inl (cI, 4, .inl (kA tr))), (qf, .inl (cI, 4, .inl (kA tr))), (qn, .inl (cI, 77, .inl (kA (va_up cn mv (cn mv + 1)))))]) := hD
        rw [← hQf]
        have e9 : sNote mv (tr, fc, cn, lm) = (tr, tr, (va_up cn mv (cn mv + 1)), mv) := by unfold sNote; (repeat' split); all_goals first | rfl | (exfalso; omega) | (exfalso; simp only at *; omega)
        replace hP : va_P D k_cl [(h, .inr (1, [.ref qo, .ref qs, .int (zI ↑n), .int (zI ↑sd), .ref qp, .ref qc, .ref qt, .ref qf, .ref qn, .int (zI (↑((sNote mv (tr, fc, cn, lm)).2.2.2))), .int (zI sf), .int (zI st)])), (qt, .inl (cI, 4, .inl (kA ((sNote mv (tr, fc, cn, lm)).1)))), (qf, .inl (cI, 4, .inl (kA ((sNote mv (tr, fc, cn, lm)).2.1)))), (qn, .inl (cI, 77, .inl (kA ((sNote mv (tr, fc, cn, lm)).2.2.1))))] H := by rw [e9]; exact hP
        exact k_vret hx hb hr hlocks hP hS d_Ph_noteChoice_48
    · rw [← hQf]
      have e9 : sNote mv (tr, fc, cn, lm) = (tr, fc, cn, lm) := by unfold sNote; (repeat' split); all_goals first | rfl | (exfalso; omega) | (exfalso; simp only at *; omega)
      replace hP : va_P D k_cl [(h, .inr (1, [.ref qo, .ref qs, .int (zI ↑n), .int (zI ↑sd), .ref qp, .ref qc, .ref qt, .ref qf, .ref qn, .int (zI (↑((sNote mv (tr, fc, cn, lm)).2.2.2))), .int (zI sf), .int (zI st)])), (qt, .inl (cI, 4, .inl (kA ((sNote mv (tr, fc, cn, lm)).1)))), (qf, .inl (cI, 4, .inl (kA ((sNote mv (tr, fc, cn, lm)).2.1)))), (qn, .inl (cI, 77, .inl (kA ((sNote mv (tr, fc, cn, lm)).2.2.1))))] s.heap := by rw [e9]; exact hP
      exact k_vret hx hb hr hlocks hP hS d_Ph_noteChoice_10
end
section
abbrev rm_Ph_findPlaces : Room := { frames := 0, cells := 0, slots := 0, locals := 0 }
set_option maxHeartbeats 4000000 in
set_option maxRecDepth 100000 in
theorem c_Ph_findPlaces (l : Launch) (D : va_G) (cI cR cG : ClassId) (tx h qo qs qp qc qt qf qn n sd lm : Nat) (sf st : Int) (gr t se pc0 : Nat → Nat) (Pl0 : Nat → Nat → Nat) (hn : n ≤ 4) (ht : ∀ j, t j ≤ 1023) (hse : ∀ j, se j ≤ 1023) (hpc : ∀ j, pc0 j ≤ 30) (hPl : ∀ j i, Pl0 j i ≤ 30) : k_M l y_Ph_findPlaces (.code y_Ph_findPlaces b_Ph_findPlaces 5 none :: kW) rm_Ph_findPlaces D k_cl (k_ty cI cR cG) [.ref h, .ref tx] ([(tx, .inl (cI, 30, .inl (kA t))), (h, .inr (1, [.ref qo, .ref qs, .int (zI ↑n), .int (zI ↑sd), .ref qp, .ref qc, .ref qt, .ref qf, .ref qn, .int (zI ↑lm), .int (zI sf), .int (zI st)])), (qs, .inl (cI, 4, .inl (kA se))), (qp, .inl (cG, 4, .inr (.inr (.inr (.inr (fun i => some (gr i))))))), (qc, .inl (cI, 4, .inl (kA pc0)))] ++ (k_p3 cI gr Pl0)) (k_Qv D k_cl ([(tx, .inl (cI, 30, .inl (kA t))), (h, .inr (1, [.ref qo, .ref qs, .int (zI ↑n), .int (zI ↑sd), .ref qp, .ref qc, .ref qt, .ref qf, .ref qn, .int (zI ↑lm), .int (zI sf), .int (zI st)])), (qs, .inl (cI, 4, .inl (kA se))), (qp, .inl (cG, 4, .inr (.inr (.inr (.inr (fun i => some (gr i))))))), (qc, .inl (cI, 4, .inl (kA ((fAll t se n 0 pc0 Pl0).1))))] ++ k_p3 cI gr (fAll t se n 0 pc0 Pl0).2)) := by
  refine k_start (cc := b_Ph_findPlaces) (maxL := 5) (ret := none) (by decide) rfl (Nat.le_of_ble_eq_true rfl) ?_
  intro p ev s m ar below meth c A ls Qf hQf hx hb hr hml hts hown hlocks hin hK hG hA hP hD hS hl
  replace hown : s.vm.findClass R_Ph = some m.cls := hown
  replace hl : lv_has ls 5 [(0, .ref h), (1, .ref tx)] := hl
  have hkw : ∀ w ∈ kW, w.before ar s = true := fun w h => hts w (List.mem_cons_of_mem _ h)
  replace hP : va_P D k_cl ([(tx, .inl (cI, 30, .inl (kA t))), (h, .inr (1, [.ref qo, .ref qs, .int (zI ↑n), .int (zI ↑sd), .ref qp, .ref qc, .ref qt, .ref qf, .ref qn, .int (zI ↑lm), .int (zI sf), .int (zI st)])), (qs, .inl (cI, 4, .inl (kA se))), (qp, .inl (cG, 4, .inr (.inr (.inr (.inr (fun i => some (gr i))))))), (qc, .inl (cI, 4, .inl (kA pc0)))] ++ (k_p3 cI gr Pl0)) s.heap := hP
  replace hD : va_D A ([(tx, .inl (cI, 30, .inl (kA t))), (h, .inr (1, [.ref qo, .ref qs, .int (zI ↑n), .int (zI ↑sd), .ref qp, .ref qc, .ref qt, .ref qf, .ref qn, .int (zI ↑lm), .int (zI sf), .int (zI st)])), (qs, .inl (cI, 4, .inl (kA se))), (qp, .inl (cG, 4, .inr (.inr (.inr (.inr (fun i => some (gr i))))))), (qc, .inl (cI, 4, .inl (kA pc0)))] ++ (k_p3 cI gr Pl0)) := hD
  refine lv_iconst (v := zI 0) hx hb d_Ph_findPlaces_0 (by decide) ?_
  refine lv_istore_n (lv' := [(2, .int (zI 0)), (0, .ref h), (1, .ref tx)]) hx hb d_Ph_findPlaces_1 rfl hl (by decide) rfl ?_
  clear hl; intro ls hl
  have loop_2 : ∀ (k : Nat) (sl : Nat) (pc : Nat → Nat) (Pl : Nat → Nat → Nat), (sl + k = n) → ((∀ j, pc j ≤ 30) ∧ ∀ j i, Pl j i ≤ 30) → (fAll t se k sl pc Pl = fAll t se n 0 pc0 Pl0) → ∀ (H : Heap) (locs : List Loc) (ls : Array Slot), va_P D k_cl ([(tx, .inl (cI, 30, .inl (kA t))), (h, .inr (1, [.ref qo, .ref qs, .int (zI ↑n), .int (zI ↑sd), .ref qp, .ref qc, .ref qt, .ref qf, .ref qn, .int (zI ↑lm), .int (zI sf), .int (zI st)])), (qs, .inl (cI, 4, .inl (kA se))), (qp, .inl (cG, 4, .inr (.inr (.inr (.inr (fun i => some (gr i))))))), (qc, .inl (cI, 4, .inl (kA pc)))] ++ (k_p3 cI gr Pl)) H → va_D A ([(tx, .inl (cI, 30, .inl (kA t))), (h, .inr (1, [.ref qo, .ref qs, .int (zI ↑n), .int (zI ↑sd), .ref qp, .ref qc, .ref qt, .ref qf, .ref qn, .int (zI ↑lm), .int (zI sf), .int (zI st)])), (qs, .inl (cI, 4, .inl (kA se))), (qp, .inl (cG, 4, .inr (.inr (.inr (.inr (fun i => some (gr i))))))), (qc, .inl (cI, 4, .inl (kA pc)))] ++ (k_p3 cI gr Pl)) → va_S A s.heap H locs → lv_has ls 5 [(0, .ref h), (1, .ref tx), (2, .int (zI ↑sl))] → W p l ev rm_Ph_findPlaces s m ar below meth c H locs 0 0 Qf (F0 m 2 ls []) := by
    intro k
    induction k with
    | zero =>
      intro sl pc Pl hin hbd hgo H locs ls hP hD hS hl
      refine lv_iload_n hx hb d_Ph_findPlaces_2 rfl (lv_at hl 2 rfl) ?_
      refine lv_aload_n hx hb d_Ph_findPlaces_3 rfl (lv_at hl 0 rfl) ?_
      refine va_get (D := D) (ci := 1) (v := .int (zI ↑n)) (C := R_Ph) (T := T_Ph) (N := 12) hx hb hkw kin_Ph hown hK hP 1 rfl rfl 2 (by decide) (hkw _ kw_fieldLink_Ph_18) (fun _ h9 => h9) rfl d_Ph_findPlaces_4 ?_
      refine k_icmp_ge (tgt := 68) hx hb d_Ph_findPlaces_7 (by decide) ⟨by omega, by omega⟩ ⟨by omega, by omega⟩ (fun c_7 => ?_) (fun c_7 => ?_)
      · rw [← hQf]
        replace hP : va_P D k_cl ([(tx, .inl (cI, 30, .inl (kA t))), (h, .inr (1, [.ref qo, .ref qs, .int (zI ↑n), .int (zI ↑sd), .ref qp, .ref qc, .ref qt, .ref qf, .ref qn, .int (zI ↑lm), .int (zI sf), .int (zI st)])), (qs, .inl (cI, 4, .inl (kA se))), (qp, .inl (cG, 4, .inr (.inr (.inr (.inr (fun i => some (gr i))))))), (qc, .inl (cI, 4, .inl (kA ((fAll t se n 0 pc0 Pl0).1))))] ++ k_p3 cI gr (fAll t se n 0 pc0 Pl0).2) H := by rw [← hgo]; exact hP
        exact k_vret hx hb hr hlocks hP hS d_Ph_findPlaces_68
      · exfalso; omega
    | succ k ih_2 =>
      intro sl pc Pl hin hbd hgo H locs ls hP hD hS hl
      refine lv_iload_n hx hb d_Ph_findPlaces_2 rfl (lv_at hl 2 rfl) ?_
      refine lv_aload_n hx hb d_Ph_findPlaces_3 rfl (lv_at hl 0 rfl) ?_
      refine va_get (D := D) (ci := 1) (v := .int (zI ↑n)) (C := R_Ph) (T := T_Ph) (N := 12) hx hb hkw kin_Ph hown hK hP 1 rfl rfl 2 (by decide) (hkw _ kw_fieldLink_Ph_18) (fun _ h9 => h9) rfl d_Ph_findPlaces_4 ?_
      refine k_icmp_ge (tgt := 68) hx hb d_Ph_findPlaces_7 (by decide) ⟨by omega, by omega⟩ ⟨by omega, by omega⟩ (fun c_7 => ?_) (fun c_7 => ?_)
      · exfalso; omega
      · refine lv_iconst (v := zI 0) hx hb d_Ph_findPlaces_10 (by decide) ?_
        refine lv_istore_n (lv' := [(3, .int (zI 0)), (0, .ref h), (1, .ref tx), (2, .int (zI ↑sl))]) hx hb d_Ph_findPlaces_11 rfl hl (by decide) rfl ?_
        clear hl; intro ls hl
        refine lv_iconst (v := zI 0) hx hb d_Ph_findPlaces_12 (by decide) ?_
        refine lv_istore (lv' := [(4, .int (zI 0)), (3, .int (zI 0)), (0, .ref h), (1, .ref tx), (2, .int (zI ↑sl))]) hx hb d_Ph_findPlaces_13 hl (by decide) rfl ?_
        clear hl; intro ls hl
        have loop_15 : ∀ (k2 : Nat) (i : Nat) (f : Nat) (F : Nat → Nat), (i + k2 = 30) → (f ≤ i) → (∀ j, F j ≤ 30) → (fFind t (se sl) k2 i f F = fFind t (se sl) 30 0 0 (Pl sl)) → ∀ (H : Heap) (locs : List Loc) (ls : Array Slot), va_P D k_cl ([(tx, .inl (cI, 30, .inl (kA t))), (h, .inr (1, [.ref qo, .ref qs, .int (zI ↑n), .int (zI ↑sd), .ref qp, .ref qc, .ref qt, .ref qf, .ref qn, .int (zI ↑lm), .int (zI sf), .int (zI st)])), (qs, .inl (cI, 4, .inl (kA se))), (qp, .inl (cG, 4, .inr (.inr (.inr (.inr (fun i => some (gr i))))))), (qc, .inl (cI, 4, .inl (kA pc)))] ++ (k_p3 cI gr (va_up Pl sl F))) H → va_D A ([(tx, .inl (cI, 30, .inl (kA t))), (h, .inr (1, [.ref qo, .ref qs, .int (zI ↑n), .int (zI ↑sd), .ref qp, .ref qc, .ref qt, .ref qf, .ref qn, .int (zI ↑lm), .int (zI sf), .int (zI st)])), (qs, .inl (cI, 4, .inl (kA se))), (qp, .inl (cG, 4, .inr (.inr (.inr (.inr (fun i => some (gr i))))))), (qc, .inl (cI, 4, .inl (kA pc)))] ++ (k_p3 cI gr (va_up Pl sl F))) → va_S A s.heap H locs → lv_has ls 5 [(0, .ref h), (1, .ref tx), (2, .int (zI ↑sl)), (3, .int (zI ↑f)), (4, .int (zI ↑i))] → W p l ev rm_Ph_findPlaces s m ar below meth c H locs 0 0 Qf (F0 m 15 ls []) := by
          intro k2
          induction k2 with
          | zero =>
            intro i f F hin2 hfi hF hgo2 H locs ls hP hD hS hl
            refine lv_iload hx hb d_Ph_findPlaces_15 (lv_at hl 4 rfl) ?_
            refine lv_bipush (v := zI 30) hx hb d_Ph_findPlaces_17 (by decide) ?_
            refine k_icmp_ge (tgt := 55) hx hb d_Ph_findPlaces_19 (by decide) ⟨by omega, by omega⟩ ⟨by omega, by omega⟩ (fun c_19 => ?_) (fun c_19 => ?_)
            · refine lv_aload_n hx hb d_Ph_findPlaces_55 rfl (lv_at hl 0 rfl) ?_
              refine va_get (D := D) (ci := 1) (v := .ref qc) (C := R_Ph) (T := T_Ph) (N := 12) hx hb hkw kin_Ph hown hK hP 1 rfl rfl 5 (by decide) (hkw _ kw_fieldLink_Ph_31) (fun _ h9 => h9) rfl d_Ph_findPlaces_56 ?_
              refine lv_iload_n hx hb d_Ph_findPlaces_59 rfl (lv_at hl 2 rfl) ?_
              refine lv_iload_n hx hb d_Ph_findPlaces_60 rfl (lv_at hl 3 rfl) ?_
              refine k_ast hx hb hK hP hD hS 4 0 rfl rfl (i := sl) (v := f) (by omega) (by omega) (by omega) (by omega) d_Ph_findPlaces_61 ?_
              clear hP hD hS; intro H locs hP hD hS
              replace hP : va_P D k_cl ([(tx, .inl (cI, 30, .inl (kA t))), (h, .inr (1, [.ref qo, .ref qs, .int (zI ↑n), .int (zI ↑sd), .ref qp, .ref qc, .ref qt, .ref qf, .ref qn, .int (zI ↑lm), .int (zI sf), .int (zI st)])), (qs, .inl (cI, 4, .inl (kA se))), (qp, .inl (cG, 4, .inr (.inr (.inr (.inr (fun i => some (gr i))))))), (qc, .inl (cI, 4, .inl (kA (va_up pc sl f))))] ++ (k_p3 cI gr (va_up Pl sl F))) H := hP
              replace hD : va_D A ([(tx, .inl (cI, 30, .inl (kA t))), (h, .inr (1, [.ref qo, .ref qs, .int (zI ↑n), .int (zI ↑sd), .ref qp, .ref qc, .ref qt, .ref qf, .ref qn, .int (zI ↑lm), .int (zI sf), .int (zI st)])), (qs, .inl (cI, 4, .inl (kA se))), (qp, .inl (cG, 4, .inr (.inr (.inr (.inr (fun i => some (gr i))))))), (qc, .inl (cI, 4, .inl (kA (va_up pc sl f))))] ++ (k_p3 cI gr (va_up Pl sl F))) := hD
              refine k_iinc (v := ↑(sl + 1)) (lv' := [(2, .int (zI (↑(sl + 1)))), (0, .ref h), (1, .ref tx), (3, .int (zI ↑f)), (4, .int (zI ↑i))]) hx hb d_Ph_findPlaces_62 hl (k := 2) rfl (by omega) (by decide) rfl ?_
              clear hl; intro ls hl
              refine lv_goto (tgt := 2) hx hb d_Ph_findPlaces_65 (by decide) ?_
              exact ih_2 (sl + 1) (va_up pc sl f) (va_up Pl sl F) (by omega) ⟨k_upB hbd.1 (by omega), k_upE hbd.2 hF⟩ (by rw [fAll, ← hgo2] at hgo; exact hgo) _ _ _ hP hD hS (lv_sub hl [1, 2, 0] rfl)
            · exfalso; omega
          | succ k2 ih_15 =>
            intro i f F hin2 hfi hF hgo2 H locs ls hP hD hS hl
            refine lv_iload hx hb d_Ph_findPlaces_15 (lv_at hl 4 rfl) ?_
            refine lv_bipush (v := zI 30) hx hb d_Ph_findPlaces_17 (by decide) ?_
            refine k_icmp_ge (tgt := 55) hx hb d_Ph_findPlaces_19 (by decide) ⟨by omega, by omega⟩ ⟨by omega, by omega⟩ (fun c_19 => ?_) (fun c_19 => ?_)
            · exfalso; omega
            · refine lv_aload_n hx hb d_Ph_findPlaces_22 rfl (lv_at hl 1 rfl) ?_
              refine lv_iload hx hb d_Ph_findPlaces_23 (lv_at hl 4 rfl) ?_
              refine k_ald hx hb hK hP 0 0 rfl rfl (i := i) (by omega) (by omega) (by omega) d_Ph_findPlaces_25 ?_
              have hv_1 := ht i
              refine lv_aload_n hx hb d_Ph_findPlaces_26 rfl (lv_at hl 0 rfl) ?_
              refine va_get (D := D) (ci := 1) (v := .ref qs) (C := R_Ph) (T := T_Ph) (N := 12) hx hb hkw kin_Ph hown hK hP 1 rfl rfl 1 (by decide) (hkw _ kw_fieldLink_Ph_15) (fun _ h9 => h9) rfl d_Ph_findPlaces_27 ?_
              refine lv_iload_n hx hb d_Ph_findPlaces_30 rfl (lv_at hl 2 rfl) ?_
              refine k_ald hx hb hK hP 2 0 rfl rfl (i := sl) (by omega) (by omega) (by omega) d_Ph_findPlaces_31 ?_
              have hv_2 := hse sl
              refine k_iand (a := (t i)) (b := (se sl)) hx hb d_Ph_findPlaces_32 ?_
              have hv_3 := k_and_le (t i) (se sl) 1023 (by omega)
              refine k_if_eq (tgt := 49) hx hb d_Ph_findPlaces_33 (by decide) ⟨by omega, by omega⟩ (fun c_33 => ?_) (fun c_33 => ?_)
              · refine k_iinc (v := ↑(i + 1)) (lv' := [(4, .int (zI (↑(i + 1)))), (0, .ref h), (1, .ref tx), (2, .int (zI ↑sl)), (3, .int (zI ↑f))]) hx hb d_Ph_findPlaces_49 hl (k := 4) rfl (by omega) (by decide) rfl ?_
                clear hl; intro ls hl
                refine lv_goto (tgt := 15) hx hb d_Ph_findPlaces_52 (by decide) ?_
                exact ih_15 (i + 1) f F (by omega) (by omega) hF (by rw [fFind] at hgo2; (repeat' split at hgo2); all_goals first | exact hgo2 | (exfalso; omega) | contradiction) _ _ _ hP hD hS (lv_sub hl [1, 2, 3, 4, 0] rfl)
              · refine lv_aload_n hx hb d_Ph_findPlaces_36 rfl (lv_at hl 0 rfl) ?_
                refine va_get (D := D) (ci := 1) (v := .ref qp) (C := R_Ph) (T := T_Ph) (N := 12) hx hb hkw kin_Ph hown hK hP 1 rfl rfl 4 (by decide) (hkw _ kw_fieldLink_Ph_28) (fun _ h9 => h9) rfl d_Ph_findPlaces_37 ?_
                refine lv_iload_n hx hb d_Ph_findPlaces_40 rfl (lv_at hl 2 rfl) ?_
                refine k_galdA hx hb hK hP 3 2 rfl rfl (i := sl) (by omega) (by omega) (by omega) d_Ph_findPlaces_41 ?_
                refine lv_iload_n hx hb d_Ph_findPlaces_42 rfl (lv_at hl 3 rfl) ?_
                refine lv_iload hx hb d_Ph_findPlaces_43 (lv_at hl 4 rfl) ?_
                refine k_ast (F := F) (n := 30) (cA := cI) (i := f) (v := i) hx hb hK hP hD hS (5 + sl) 0 ((k_grid (L := 5) rfl (by omega)).trans (by rw [va_up_self])) rfl (by omega) (by omega) (by omega) (by omega) d_Ph_findPlaces_45 ?_
                clear hP hD hS; intro H locs hP hD hS
                rw [k_grid_set (X := [(tx, .inl (cI, 30, .inl (kA t))), (h, .inr (1, [.ref qo, .ref qs, .int (zI ↑n), .int (zI ↑sd), .ref qp, .ref qc, .ref qt, .ref qf, .ref qn, .int (zI ↑lm), .int (zI sf), .int (zI st)])), (qs, .inl (cI, 4, .inl (kA se))), (qp, .inl (cG, 4, .inr (.inr (.inr (.inr (fun i => some (gr i))))))), (qc, .inl (cI, 4, .inl (kA pc)))]) (cI := cI) (gr := gr) (Pl := va_up Pl sl F) (j := sl) (L := 5) (v := va_up F f i) rfl, bx_uu] at hP hD
                replace hP : va_P D k_cl ([(tx, .inl (cI, 30, .inl (kA t))), (h, .inr (1, [.ref qo, .ref qs, .int (zI ↑n), .int (zI ↑sd), .ref qp, .ref qc, .ref qt, .ref qf, .ref qn, .int (zI ↑lm), .int (zI sf), .int (zI st)])), (qs, .inl (cI, 4, .inl (kA se))), (qp, .inl (cG, 4, .inr (.inr (.inr (.inr (fun i => some (gr i))))))), (qc, .inl (cI, 4, .inl (kA pc)))] ++ (k_p3 cI gr (va_up Pl sl (va_up F f i)))) H := hP
                replace hD : va_D A ([(tx, .inl (cI, 30, .inl (kA t))), (h, .inr (1, [.ref qo, .ref qs, .int (zI ↑n), .int (zI ↑sd), .ref qp, .ref qc, .ref qt, .ref qf, .ref qn, .int (zI ↑lm), .int (zI sf), .int (zI st)])), (qs, .inl (cI, 4, .inl (kA se))), (qp, .inl (cG, 4, .inr (.inr (.inr (.inr (fun i => some (gr i))))))), (qc, .inl (cI, 4, .inl (kA pc)))] ++ (k_p3 cI gr (va_up Pl sl (va_up F f i)))) := hD
                refine k_iinc (v := ↑(f + 1)) (lv' := [(3, .int (zI (↑(f + 1)))), (0, .ref h), (1, .ref tx), (2, .int (zI ↑sl)), (4, .int (zI ↑i))]) hx hb d_Ph_findPlaces_46 hl (k := 3) rfl (by omega) (by decide) rfl ?_
                clear hl; intro ls hl
                refine k_iinc (v := ↑(i + 1)) (lv' := [(4, .int (zI (↑(i + 1)))), (3, .int (zI (↑(f + 1)))), (0, .ref h), (1, .ref tx), (2, .int (zI ↑sl))]) hx hb d_Ph_findPlaces_49 hl (k := 4) rfl (by omega) (by decide) rfl ?_
                clear hl; intro ls hl
                refine lv_goto (tgt := 15) hx hb d_Ph_findPlaces_52 (by decide) ?_
                exact ih_15 (i + 1) (f + 1) (va_up F f i) (by omega) (by omega) (k_upB hF (by omega)) (by rw [fFind] at hgo2; (repeat' split at hgo2); all_goals first | exact hgo2 | (exfalso; omega) | contradiction) _ _ _ hP hD hS (lv_sub hl [2, 3, 4, 1, 0] rfl)
        exact loop_15 30 0 0 (Pl sl) (by omega) (by omega) (hbd.2 sl) rfl _ _ _ (by rw [k_up_id]; exact hP) (by rw [k_up_id]; exact hD) hS (lv_sub hl [2, 3, 4, 1, 0] rfl)
  exact loop_2 n 0 pc0 Pl0 (by omega) ⟨hpc, hPl⟩ rfl _ _ _ hP hD hS (lv_sub hl [1, 2, 0] rfl)

abbrev rm_Ph_searchMoved (d : Nat) : Room := { frames := d + 4, cells := 0, slots := 0, locals := 29 * d + 200 }
set_option maxHeartbeats 8000000 in
set_option maxRecDepth 100000 in
theorem c_Ph_searchMoved (l : Launch) (D : va_G) (cI cR cG : ClassId) (h qo qs qp qc qt qf qn n sd : Nat) (sf st : Int) (gr of se pc : Nat → Nat) (Pl : Nat → Nat → Nat) (hn : n ≤ 4) (hof : ∀ j, of j ≤ 9) (hse : ∀ j, se j ≤ 1023) (hpc : ∀ j, pc j ≤ 30) (hPl : ∀ j i, Pl j i ≤ 30) : ∀ (d : Nat) (sl mv : Nat) (lo hi : Int) (tr fc cn : Nat → Nat) (lm : Nat), (sl + d = n) → (mv + 100 * d ≤ 500) → (-9 ≤ lo ∧ lo ≤ 30) → (-9 ≤ hi ∧ hi ≤ 30) → (∀ j, tr j ≤ 30) → (lm ≤ 77) → k_M l y_Ph_searchMoved (.code y_Ph_searchMoved b_Ph_searchMoved 10 none :: kW) (rm_Ph_searchMoved d) D k_cl (k_ty cI cR cG) [.ref h, .int (zI ↑sl), .int (zI ↑mv), .int (zI lo), .int (zI hi)] ([(h, .inr (1, [.ref qo, .ref qs, .int (zI ↑n), .int (zI ↑sd), .ref qp, .ref qc, .ref qt, .ref qf, .ref qn, .int (zI ↑lm), .int (zI sf), .int (zI st)])), (qo, .inl (cI, 4, .inl (kA of))), (qs, .inl (cI, 4, .inl (kA se))), (qp, .inl (cG, 4, .inr (.inr (.inr (.inr (fun i => some (gr i))))))), (qc, .inl (cI, 4, .inl (kA pc))), (qt, .inl (cI, 4, .inl (kA tr))), (qf, .inl (cI, 4, .inl (kA fc))), (qn, .inl (cI, 77, .inl (kA cn)))] ++ (k_p3 cI gr Pl)) (k_Qv D k_cl ([(h, .inr (1, [.ref qo, .ref qs, .int (zI ↑n), .int (zI ↑sd), .ref qp, .ref qc, .ref qt, .ref qf, .ref qn, .int (zI (↑((sM of se pc Pl d sl mv lo hi (tr, fc, cn, lm)).2.2.2))), .int (zI sf), .int (zI st)])), (qo, .inl (cI, 4, .inl (kA of))), (qs, .inl (cI, 4, .inl (kA se))), (qp, .inl (cG, 4, .inr (.inr (.inr (.inr (fun i => some (gr i))))))), (qc, .inl (cI, 4, .inl (kA pc))), (qt, .inl (cI, 4, .inl (kA ((sM of se pc Pl d sl mv lo hi (tr, fc, cn, lm)).1)))), (qf, .inl (cI, 4, .inl (kA ((sM of se pc Pl d sl mv lo hi (tr, fc, cn, lm)).2.1)))), (qn, .inl (cI, 77, .inl (kA ((sM of se pc Pl d sl mv lo hi (tr, fc, cn, lm)).2.2.1))))] ++ k_p3 cI gr Pl)) := by
  intro d
  induction d with
  | zero =>
    intro sl mv lo hi tr fc cn lm hsl hmv hlo hhi htr hlm
    refine k_start (cc := b_Ph_searchMoved) (maxL := 10) (ret := none) (by decide) rfl (Nat.le_of_ble_eq_true rfl) ?_
    intro p ev s m ar below meth c A ls Qf hQf hx hb hr hml hts hown hlocks hin hK hG hA hP hD hS hl
    replace hown : s.vm.findClass R_Ph = some m.cls := hown
    replace hl : lv_has ls 10 [(0, .ref h), (1, .int (zI ↑sl)), (2, .int (zI ↑mv)), (3, .int (zI lo)), (4, .int (zI hi))] := hl
    have hkw : ∀ w ∈ kW, w.before ar s = true := fun w h => hts w (List.mem_cons_of_mem _ h)
    replace hP : va_P D k_cl ([(h, .inr (1, [.ref qo, .ref qs, .int (zI ↑n), .int (zI ↑sd), .ref qp, .ref qc, .ref qt, .ref qf, .ref qn, .int (zI ↑lm), .int (zI sf), .int (zI st)])), (qo, .inl (cI, 4, .inl (kA of))), (qs, .inl (cI, 4, .inl (kA se))), (qp, .inl (cG, 4, .inr (.inr (.inr (.inr (fun i => some (gr i))))))), (qc, .inl (cI, 4, .inl (kA pc))), (qt, .inl (cI, 4, .inl (kA tr))), (qf, .inl (cI, 4, .inl (kA fc))), (qn, .inl (cI, 77, .inl (kA cn)))] ++ (k_p3 cI gr Pl)) s.heap := hP
    replace hD : va_D A ([(h, .inr (1, [.ref qo, .ref qs, .int (zI ↑n), .int (zI ↑sd), .ref qp, .ref qc, .ref qt, .ref qf, .ref qn, .int (zI ↑lm), .int (zI sf), .int (zI st)])), (qo, .inl (cI, 4, .inl (kA of))), (qs, .inl (cI, 4, .inl (kA se))), (qp, .inl (cG, 4, .inr (.inr (.inr (.inr (fun i => some (gr i))))))), (qc, .inl (cI, 4, .inl (kA pc))), (qt, .inl (cI, 4, .inl (kA tr))), (qf, .inl (cI, 4, .inl (kA fc))), (qn, .inl (cI, 77, .inl (kA cn)))] ++ (k_p3 cI gr Pl)) := hD
    refine lv_iload_n hx hb d_Ph_searchMoved_0 rfl (lv_at hl 1 rfl) ?_
    refine lv_aload_n hx hb d_Ph_searchMoved_1 rfl (lv_at hl 0 rfl) ?_
    refine va_get (D := D) (ci := 1) (v := .int (zI ↑n)) (C := R_Ph) (T := T_Ph) (N := 12) hx hb hkw kin_Ph hown hK hP 0 rfl rfl 2 (by decide) (hkw _ kw_fieldLink_Ph_18) (fun _ h9 => h9) rfl d_Ph_searchMoved_2 ?_
    refine k_icmp_lt (tgt := 14) hx hb d_Ph_searchMoved_5 (by decide) ⟨by omega, by omega⟩ ⟨by omega, by omega⟩ (fun c_5 => ?_) (fun c_5 => ?_)
    · exfalso; omega
    · refine lv_aload_n hx hb d_Ph_searchMoved_8 rfl (lv_at hl 0 rfl) ?_
      refine lv_iload_n hx hb d_Ph_searchMoved_9 rfl (lv_at hl 2 rfl) ?_
      refine k_beV (va_runV (As := [.int (zI ↑mv)]) (rest := []) ⟨hx, hb, hml, hown, hkw⟩ (c_Ph_noteChoice l D cI cR cG h qo qs qp qc qt qf qn n sd lm sf st tr fc cn mv (by omega) (by omega) _) (cwV 1 hkw (k_gV kw_methodLink_Ph_79 kw_instanceMethod_Ph_noteChoice kw_selects_Ph_noteChoice kw_initialized_Ph kw_code_Ph_noteChoice) rfl rfl rfl (by decide +kernel) ⟨(by have h9 : (2 : Nat) ≤ 0 + 4 := (by omega); exact h9), (by have h9 : (81 : Nat) ≤ 29 * 0 + 200 := (by omega); exact h9)⟩) (k_preV (q0 := 0) hK hG hP hD [0, 5, 6, 7] rfl rfl rfl rfl) rfl rfl hl.1 rfl (lv_room (Nat.le_of_ble_eq_true rfl)) d_Ph_searchMoved_10 ⟨Nat.zero_le _, Nat.zero_le _⟩) hP hD hS hA [0, 5, 6, 7] rfl (Eq.trans (b := [h, qt, qf, qn]) rfl rfl) ?_
      clear hP hD hS; intro H locs hP hD hS
      replace hP : va_P D k_cl ([(h, .inr (1, [.ref qo, .ref qs, .int (zI ↑n), .int (zI ↑sd), .ref qp, .ref qc, .ref qt, .ref qf, .ref qn, .int (zI (↑((sNote mv (tr, fc, cn, lm)).2.2.2))), .int (zI sf), .int (zI st)])), (qo, .inl (cI, 4, .inl (kA of))), (qs, .inl (cI, 4, .inl (kA se))), (qp, .inl (cG, 4, .inr (.inr (.inr (.inr (fun i => some (gr i))))))), (qc, .inl (cI, 4, .inl (kA pc))), (qt, .inl (cI, 4, .inl (kA ((sNote mv (tr, fc, cn, lm)).1)))), (qf, .inl (cI, 4, .inl (kA ((sNote mv (tr, fc, cn, lm)).2.1)))), (qn, .inl (cI, 77, .inl (kA ((sNote mv (tr, fc, cn, lm)).2.2.1))))] ++ (k_p3 cI gr Pl)) H := hP
      replace hD : va_D A ([(h, .inr (1, [.ref qo, .ref qs, .int (zI ↑n), .int (zI ↑sd), .ref qp, .ref qc, .ref qt, .ref qf, .ref qn, .int (zI (↑((sNote mv (tr, fc, cn, lm)).2.2.2))), .int (zI sf), .int (zI st)])), (qo, .inl (cI, 4, .inl (kA of))), (qs, .inl (cI, 4, .inl (kA se))), (qp, .inl (cG, 4, .inr (.inr (.inr (.inr (fun i => some (gr i))))))), (qc, .inl (cI, 4, .inl (kA pc))), (qt, .inl (cI, 4, .inl (kA ((sNote mv (tr, fc, cn, lm)).1)))), (qf, .inl (cI, 4, .inl (kA ((sNote mv (tr, fc, cn, lm)).2.1)))), (qn, .inl (cI, 77, .inl (kA ((sNote mv (tr, fc, cn, lm)).2.2.1))))] ++ (k_p3 cI gr Pl)) := hD
      rw [← hQf]
      exact k_vret hx hb hr hlocks hP hS d_Ph_searchMoved_13
  | succ d ih =>
    intro sl mv lo hi tr fc cn lm hsl hmv hlo hhi htr hlm
    refine k_start (cc := b_Ph_searchMoved) (maxL := 10) (ret := none) (by decide) rfl (Nat.le_of_ble_eq_true rfl) ?_
    intro p ev s m ar below meth c A ls Qf hQf hx hb hr hml hts hown hlocks hin hK hG hA hP hD hS hl
    replace hown : s.vm.findClass R_Ph = some m.cls := hown
    replace hl : lv_has ls 10 [(0, .ref h), (1, .int (zI ↑sl)), (2, .int (zI ↑mv)), (3, .int (zI lo)), (4, .int (zI hi))] := hl
    have hkw : ∀ w ∈ kW, w.before ar s = true := fun w h => hts w (List.mem_cons_of_mem _ h)
    replace hP : va_P D k_cl ([(h, .inr (1, [.ref qo, .ref qs, .int (zI ↑n), .int (zI ↑sd), .ref qp, .ref qc, .ref qt, .ref qf, .ref qn, .int (zI ↑lm), .int (zI sf), .int (zI st)])), (qo, .inl (cI, 4, .inl (kA of))), (qs, .inl (cI, 4, .inl (kA se))), (qp, .inl (cG, 4, .inr (.inr (.inr (.inr (fun i => some (gr i))))))), (qc, .inl (cI, 4, .inl (kA pc))), (qt, .inl (cI, 4, .inl (kA tr))), (qf, .inl (cI, 4, .inl (kA fc))), (qn, .inl (cI, 77, .inl (kA cn)))] ++ (k_p3 cI gr Pl)) s.heap := hP
    replace hD : va_D A ([(h, .inr (1, [.ref qo, .ref qs, .int (zI ↑n), .int (zI ↑sd), .ref qp, .ref qc, .ref qt, .ref qf, .ref qn, .int (zI ↑lm), .int (zI sf), .int (zI st)])), (qo, .inl (cI, 4, .inl (kA of))), (qs, .inl (cI, 4, .inl (kA se))), (qp, .inl (cG, 4, .inr (.inr (.inr (.inr (fun i => some (gr i))))))), (qc, .inl (cI, 4, .inl (kA pc))), (qt, .inl (cI, 4, .inl (kA tr))), (qf, .inl (cI, 4, .inl (kA fc))), (qn, .inl (cI, 77, .inl (kA cn)))] ++ (k_p3 cI gr Pl)) := hD
    refine lv_iload_n hx hb d_Ph_searchMoved_0 rfl (lv_at hl 1 rfl) ?_
    refine lv_aload_n hx hb d_Ph_searchMoved_1 rfl (lv_at hl 0 rfl) ?_
    refine va_get (D := D) (ci := 1) (v := .int (zI ↑n)) (C := R_Ph) (T := T_Ph) (N := 12) hx hb hkw kin_Ph hown hK hP 0 rfl rfl 2 (by decide) (hkw _ kw_fieldLink_Ph_18) (fun _ h9 => h9) rfl d_Ph_searchMoved_2 ?_
    refine k_icmp_lt (tgt := 14) hx hb d_Ph_searchMoved_5 (by decide) ⟨by omega, by omega⟩ ⟨by omega, by omega⟩ (fun c_5 => ?_) (fun c_5 => ?_)
    · refine lv_iconst (v := zI 0) hx hb d_Ph_searchMoved_14 (by decide) ?_
      refine lv_istore (lv' := [(5, .int (zI 0)), (0, .ref h), (1, .int (zI ↑sl)), (2, .int (zI ↑mv)), (3, .int (zI lo)), (4, .int (zI hi))]) hx hb d_Ph_searchMoved_15 hl (by decide) rfl ?_
      clear hl; intro ls hl
      have loop_17 : ∀ (k : Nat) (i : Nat) (tr2 : Nat → Nat) (fc2 : Nat → Nat) (cn2 : Nat → Nat) (lm2 : Nat), (i + k = pc sl) → (∀ j, tr2 j ≤ 30) → (lm2 ≤ 77) → (kLoop (sStep of se Pl (sM of se pc Pl d (sl + 1)) sl mv lo hi) k i (tr2, fc2, cn2, lm2) = kLoop (sStep of se Pl (sM of se pc Pl d (sl + 1)) sl mv lo hi) (pc sl) 0 (tr, fc, cn, lm)) → ∀ (H : Heap) (locs : List Loc) (ls : Array Slot), va_P D k_cl ([(h, .inr (1, [.ref qo, .ref qs, .int (zI ↑n), .int (zI ↑sd), .ref qp, .ref qc, .ref qt, .ref qf, .ref qn, .int (zI ↑lm2), .int (zI sf), .int (zI st)])), (qo, .inl (cI, 4, .inl (kA of))), (qs, .inl (cI, 4, .inl (kA se))), (qp, .inl (cG, 4, .inr (.inr (.inr (.inr (fun i => some (gr i))))))), (qc, .inl (cI, 4, .inl (kA pc))), (qt, .inl (cI, 4, .inl (kA tr2))), (qf, .inl (cI, 4, .inl (kA fc2))), (qn, .inl (cI, 77, .inl (kA cn2)))] ++ (k_p3 cI gr Pl)) H → va_D A ([(h, .inr (1, [.ref qo, .ref qs, .int (zI ↑n), .int (zI ↑sd), .ref qp, .ref qc, .ref qt, .ref qf, .ref qn, .int (zI ↑lm2), .int (zI sf), .int (zI st)])), (qo, .inl (cI, 4, .inl (kA of))), (qs, .inl (cI, 4, .inl (kA se))), (qp, .inl (cG, 4, .inr (.inr (.inr (.inr (fun i => some (gr i))))))), (qc, .inl (cI, 4, .inl (kA pc))), (qt, .inl (cI, 4, .inl (kA tr2))), (qf, .inl (cI, 4, .inl (kA fc2))), (qn, .inl (cI, 77, .inl (kA cn2)))] ++ (k_p3 cI gr Pl)) → va_S A s.heap H locs → lv_has ls 10 [(0, .ref h), (1, .int (zI ↑sl)), (2, .int (zI ↑mv)), (3, .int (zI lo)), (4, .int (zI hi)), (5, .int (zI ↑i))] → W p l ev (rm_Ph_searchMoved (d + 1)) s m ar below meth c H locs 0 0 Qf (F0 m 17 ls []) := by
        intro k
        induction k with
        | zero =>
          intro i tr2 fc2 cn2 lm2 hin htr2 hlm2 hgo H locs ls hP hD hS hl
          have hpz := hpc sl
          refine lv_iload hx hb d_Ph_searchMoved_17 (lv_at hl 5 rfl) ?_
          refine lv_aload_n hx hb d_Ph_searchMoved_19 rfl (lv_at hl 0 rfl) ?_
          refine va_get (D := D) (ci := 1) (v := .ref qc) (C := R_Ph) (T := T_Ph) (N := 12) hx hb hkw kin_Ph hown hK hP 0 rfl rfl 5 (by decide) (hkw _ kw_fieldLink_Ph_31) (fun _ h9 => h9) rfl d_Ph_searchMoved_20 ?_
          refine lv_iload_n hx hb d_Ph_searchMoved_23 rfl (lv_at hl 1 rfl) ?_
          refine k_ald hx hb hK hP 4 0 rfl rfl (i := sl) (by omega) (by omega) (by omega) d_Ph_searchMoved_24 ?_
          have hv_1 := hpc sl
          refine k_icmp_ge (tgt := 156) hx hb d_Ph_searchMoved_25 (by decide) ⟨by omega, by omega⟩ ⟨by omega, by omega⟩ (fun c_25 => ?_) (fun c_25 => ?_)
          · have e9 : sM of se pc Pl (d + 1) sl mv lo hi (tr, fc, cn, lm) = (tr2, fc2, cn2, lm2) := hgo.symm
            replace hP : va_P D k_cl ([(h, .inr (1, [.ref qo, .ref qs, .int (zI ↑n), .int (zI ↑sd), .ref qp, .ref qc, .ref qt, .ref qf, .ref qn, .int (zI (↑((sM of se pc Pl (d + 1) sl mv lo hi (tr, fc, cn, lm)).2.2.2))), .int (zI sf), .int (zI st)])), (qo, .inl (cI, 4, .inl (kA of))), (qs, .inl (cI, 4, .inl (kA se))), (qp, .inl (cG, 4, .inr (.inr (.inr (.inr (fun i => some (gr i))))))), (qc, .inl (cI, 4, .inl (kA pc))), (qt, .inl (cI, 4, .inl (kA ((sM of se pc Pl (d + 1) sl mv lo hi (tr, fc, cn, lm)).1)))), (qf, .inl (cI, 4, .inl (kA ((sM of se pc Pl (d + 1) sl mv lo hi (tr, fc, cn, lm)).2.1)))), (qn, .inl (cI, 77, .inl (kA ((sM of se pc Pl (d + 1) sl mv lo hi (tr, fc, cn, lm)).2.2.1))))] ++ k_p3 cI gr Pl) H := by rw [e9]; exact hP
            rw [← hQf]
            exact k_vret hx hb hr hlocks hP hS d_Ph_searchMoved_156
          · exfalso; omega
        | succ k ih_17 =>
          intro i tr2 fc2 cn2 lm2 hin htr2 hlm2 hgo H locs ls hP hD hS hl
          have hpz := hpc sl
          have hV : sV of Pl sl i = (↑(Pl sl i) : Int) - ↑(of sl) := rfl
          have hN : sNr lo hi (sV of Pl sl i) = max lo (min hi (sV of Pl sl i)) := rfl
          have hM : sMn mv (sV of Pl sl i) (sNr lo hi (sV of Pl sl i)) = mv + (sV of Pl sl i - sNr lo hi (sV of Pl sl i)).natAbs := rfl
          have hb1 := hPl sl i
          have hb2 := hof sl
          have hd5 : sl < 4 := by omega
          refine lv_iload hx hb d_Ph_searchMoved_17 (lv_at hl 5 rfl) ?_
          refine lv_aload_n hx hb d_Ph_searchMoved_19 rfl (lv_at hl 0 rfl) ?_
          refine va_get (D := D) (ci := 1) (v := .ref qc) (C := R_Ph) (T := T_Ph) (N := 12) hx hb hkw kin_Ph hown hK hP 0 rfl rfl 5 (by decide) (hkw _ kw_fieldLink_Ph_31) (fun _ h9 => h9) rfl d_Ph_searchMoved_20 ?_
          refine lv_iload_n hx hb d_Ph_searchMoved_23 rfl (lv_at hl 1 rfl) ?_
          refine k_ald hx hb hK hP 4 0 rfl rfl (i := sl) (by omega) (by omega) (by omega) d_Ph_searchMoved_24 ?_
          have hv_2 := hpc sl
          refine k_icmp_ge (tgt := 156) hx hb d_Ph_searchMoved_25 (by decide) ⟨by omega, by omega⟩ ⟨by omega, by omega⟩ (fun c_25 => ?_) (fun c_25 => ?_)
          · exfalso; omega
          · refine lv_aload_n hx hb d_Ph_searchMoved_28 rfl (lv_at hl 0 rfl) ?_
            refine va_get (D := D) (ci := 1) (v := .ref qp) (C := R_Ph) (T := T_Ph) (N := 12) hx hb hkw kin_Ph hown hK hP 0 rfl rfl 4 (by decide) (hkw _ kw_fieldLink_Ph_28) (fun _ h9 => h9) rfl d_Ph_searchMoved_29 ?_
            refine lv_iload_n hx hb d_Ph_searchMoved_32 rfl (lv_at hl 1 rfl) ?_
            refine k_galdA hx hb hK hP 3 2 rfl rfl (i := sl) (by omega) (by omega) (by omega) d_Ph_searchMoved_33 ?_
            refine lv_iload hx hb d_Ph_searchMoved_34 (lv_at hl 5 rfl) ?_
            refine k_ald (i := i) hx hb hK hP (8 + sl) 0 (k_grid rfl (by omega)) rfl (by omega) (by omega) (by omega) d_Ph_searchMoved_36 ?_
            have hv_3 := hPl sl i
            refine lv_istore (lv' := [(6, .int (zI (↑(Pl sl i)))), (0, .ref h), (1, .int (zI ↑sl)), (2, .int (zI ↑mv)), (3, .int (zI lo)), (4, .int (zI hi)), (5, .int (zI ↑i))]) hx hb d_Ph_searchMoved_37 hl (by decide) rfl ?_
            clear hl; intro ls hl
            refine lv_iload hx hb d_Ph_searchMoved_39 (lv_at hl 0 rfl) ?_
            refine lv_aload_n hx hb d_Ph_searchMoved_41 rfl (lv_at hl 1 rfl) ?_
            refine va_get (D := D) (ci := 1) (v := .ref qo) (C := R_Ph) (T := T_Ph) (N := 12) hx hb hkw kin_Ph hown hK hP 0 rfl rfl 0 (by decide) (hkw _ kw_fieldLink_Ph_9) (fun _ h9 => h9) rfl d_Ph_searchMoved_42 ?_
            refine lv_iload_n hx hb d_Ph_searchMoved_45 rfl (lv_at hl 2 rfl) ?_
            refine k_ald hx hb hK hP 1 0 rfl rfl (i := sl) (by omega) (by omega) (by omega) d_Ph_searchMoved_46 ?_
            have hv_4 := hof sl
            refine k_isub (v := sV of Pl sl i) hx hb d_Ph_searchMoved_47 (by omega) ?_
            refine lv_istore (lv' := [(7, .int (zI (sV of Pl sl i))), (6, .int (zI (↑(Pl sl i)))), (0, .ref h), (1, .int (zI ↑sl)), (2, .int (zI ↑mv)), (3, .int (zI lo)), (4, .int (zI hi)), (5, .int (zI ↑i))]) hx hb d_Ph_searchMoved_48 hl (by decide) rfl ?_
            clear hl; intro ls hl
            refine lv_iload_n hx hb d_Ph_searchMoved_50 rfl (lv_at hl 5 rfl) ?_
            refine lv_iload hx hb d_Ph_searchMoved_51 (lv_at hl 6 rfl) ?_
            refine lv_iload hx hb d_Ph_searchMoved_53 (lv_at hl 0 rfl) ?_
            refine k_min (v := min hi (sV of Pl sl i)) hx hb (hml.trans hl.1.symm) hown (hkw _ kw_methodLink_Ph_83) (hkw _ kw_static_Math_min) (hkw _ kw_initialized_Math) (hkw _ kw_code_Math_min) (by have h9 : (1 : Nat) ≤ (d + 1) + 4 := (by omega); exact h9) (by have h9 : (14 : Nat) ≤ 29 * (d + 1) + 200 := (by omega); exact h9) (Nat.zero_le _) (Nat.zero_le _) d_Ph_searchMoved_55 ⟨by omega, by omega⟩ ⟨by omega, by omega⟩ (by omega) ?_
            refine k_max (v := sNr lo hi (sV of Pl sl i)) hx hb (hml.trans hl.1.symm) hown (hkw _ kw_methodLink_Ph_89) (hkw _ kw_static_Math_max) (hkw _ kw_initialized_Math) (hkw _ kw_code_Math_max) (by have h9 : (1 : Nat) ≤ (d + 1) + 4 := (by omega); exact h9) (by have h9 : (13 : Nat) ≤ 29 * (d + 1) + 200 := (by omega); exact h9) (Nat.zero_le _) (Nat.zero_le _) d_Ph_searchMoved_58 ⟨by omega, by omega⟩ ⟨by omega, by omega⟩ (by omega) ?_
            refine lv_istore (lv' := [(8, .int (zI (sNr lo hi (sV of Pl sl i)))), (7, .int (zI (sV of Pl sl i))), (6, .int (zI (↑(Pl sl i)))), (0, .ref h), (1, .int (zI ↑sl)), (2, .int (zI ↑mv)), (3, .int (zI lo)), (4, .int (zI hi)), (5, .int (zI ↑i))]) hx hb d_Ph_searchMoved_61 hl (by decide) rfl ?_
            clear hl; intro ls hl
            refine lv_iload_n hx hb d_Ph_searchMoved_63 rfl (lv_at hl 5 rfl) ?_
            refine lv_iload hx hb d_Ph_searchMoved_64 (lv_at hl 1 rfl) ?_
            refine lv_iload hx hb d_Ph_searchMoved_66 (lv_at hl 0 rfl) ?_
            refine k_isub hx hb d_Ph_searchMoved_68 rfl ?_
            refine k_abs (v := ↑((sV of Pl sl i - sNr lo hi (sV of Pl sl i)).natAbs)) hx hb (hml.trans hl.1.symm) hown (hkw _ kw_methodLink_Ph_92) (hkw _ kw_static_Math_abs) (hkw _ kw_initialized_Math) (hkw _ kw_code_Math_abs) (by have h9 : (1 : Nat) ≤ (d + 1) + 4 := (by omega); exact h9) (by have h9 : (14 : Nat) ≤ 29 * (d + 1) + 200 := (by omega); exact h9) (Nat.zero_le _) (Nat.zero_le _) d_Ph_searchMoved_69 ⟨by omega, by omega⟩ (k_natabs _) ?_
            refine k_iadd (v := ↑(sMn mv (sV of Pl sl i) (sNr lo hi (sV of Pl sl i)))) hx hb d_Ph_searchMoved_72 (by omega) ?_
            refine lv_istore (lv' := [(9, .int (zI (↑(sMn mv (sV of Pl sl i) (sNr lo hi (sV of Pl sl i)))))), (8, .int (zI (sNr lo hi (sV of Pl sl i)))), (7, .int (zI (sV of Pl sl i))), (6, .int (zI (↑(Pl sl i)))), (0, .ref h), (1, .int (zI ↑sl)), (2, .int (zI ↑mv)), (3, .int (zI lo)), (4, .int (zI hi)), (5, .int (zI ↑i))]) hx hb d_Ph_searchMoved_73 hl (by decide) rfl ?_
            clear hl; intro ls hl
            refine lv_iload hx hb d_Ph_searchMoved_75 (lv_at hl 0 rfl) ?_
            refine lv_bipush (v := zI 9) hx hb d_Ph_searchMoved_77 (by decide) ?_
            refine lv_aload_n hx hb d_Ph_searchMoved_79 rfl (lv_at hl 4 rfl) ?_
            refine va_get (D := D) (ci := 1) (v := .int (zI ↑lm2)) (C := R_Ph) (T := T_Ph) (N := 12) hx hb hkw kin_Ph hown hK hP 0 rfl rfl 9 (by decide) (hkw _ kw_fieldLink_Ph_43) (fun _ h9 => h9) rfl d_Ph_searchMoved_80 ?_
            refine k_max (v := max 9 ↑lm2) hx hb (hml.trans hl.1.symm) hown (hkw _ kw_methodLink_Ph_89) (hkw _ kw_static_Math_max) (hkw _ kw_initialized_Math) (hkw _ kw_code_Math_max) (by have h9 : (1 : Nat) ≤ (d + 1) + 4 := (by omega); exact h9) (by have h9 : (14 : Nat) ≤ 29 * (d + 1) + 200 := (by omega); exact h9) (Nat.zero_le _) (Nat.zero_le _) d_Ph_searchMoved_83 ⟨by omega, by omega⟩ ⟨by omega, by omega⟩ (by omega) ?_
            refine k_icmp_gt (tgt := 150) hx hb d_Ph_searchMoved_86 (by decide) ⟨by omega, by omega⟩ ⟨by omega, by omega⟩ (fun c_86 => ?_) (fun c_86 => ?_)
            · refine k_iinc (v := ↑(i + 1)) (lv' := [(5, .int (zI (↑(i + 1)))), (9, .int (zI (↑(sMn mv (sV of Pl sl i) (sNr lo hi (sV of Pl sl i)))))), (8, .int (zI (sNr lo hi (sV of Pl sl i)))), (7, .int (zI (sV of Pl sl i))), (6, .int (zI (↑(Pl sl i)))), (0, .ref h), (1, .int (zI ↑sl)), (2, .int (zI ↑mv)), (3, .int (zI lo)), (4, .int (zI hi))]) hx hb d_Ph_searchMoved_150 hl (k := 9) rfl (by omega) (by decide) rfl ?_
              clear hl; intro ls hl
              refine lv_goto (tgt := 17) hx hb d_Ph_searchMoved_153 (by decide) ?_
              exact ih_17 (i + 1) tr2 fc2 cn2 lm2 (by omega) htr2 hlm2 (by first | (rw [kLoop, sStep_0 (by omega)] at hgo; exact hgo) | (rw [kLoop, sStep_1 (by omega) c_96] at hgo; exact hgo) | (rw [kLoop, sStep_2 (by omega) c_96 (by omega)] at hgo; exact hgo) | (rw [kLoop, sStep_3 (by omega) c_96 (by omega)] at hgo; exact hgo)) _ _ _ hP hD hS (lv_sub hl [5, 6, 7, 8, 9, 0] rfl)
            · refine lv_aload_n hx hb d_Ph_searchMoved_89 rfl (lv_at hl 4 rfl) ?_
              refine lv_iload_n hx hb d_Ph_searchMoved_90 rfl (lv_at hl 5 rfl) ?_
              refine lv_iload hx hb d_Ph_searchMoved_91 (lv_at hl 3 rfl) ?_
              refine k_beI (va_runV (As := [.int (zI ↑sl), .int (zI (↑(Pl sl i)))]) (rest := []) ⟨hx, hb, hml, hown, hkw⟩ (c_Ph_isFree l D cI cR cG h qo qs qp qc qt qf qn n sd lm2 sf st se tr2 sl (Pl sl i) (by omega) (by omega) hse htr2 _) (cwV 2 hkw (k_gV kw_methodLink_Ph_96 kw_instanceMethod_Ph_isFree kw_selects_Ph_isFree kw_initialized_Ph kw_code_Ph_isFree) rfl rfl rfl (by decide +kernel) ⟨(by have h9 : (1 : Nat) ≤ (d + 1) + 4 := (by omega); exact h9), (by have h9 : (23 : Nat) ≤ 29 * (d + 1) + 200 := (by omega); exact h9)⟩) (k_preV (q0 := 0) hK hG hP hD [0, 2, 5] rfl rfl rfl rfl) rfl rfl hl.1 rfl (lv_room (Nat.le_of_ble_eq_true rfl)) d_Ph_searchMoved_93 ⟨Nat.zero_le _, Nat.zero_le _⟩) hP hD hS hA [0, 2, 5] rfl (Eq.trans (b := [h, qs, qt]) rfl rfl) ?_
              clear hP hD hS; intro H locs hP hD hS
              replace hP : va_P D k_cl ([(h, .inr (1, [.ref qo, .ref qs, .int (zI ↑n), .int (zI ↑sd), .ref qp, .ref qc, .ref qt, .ref qf, .ref qn, .int (zI ↑lm2), .int (zI sf), .int (zI st)])), (qo, .inl (cI, 4, .inl (kA of))), (qs, .inl (cI, 4, .inl (kA se))), (qp, .inl (cG, 4, .inr (.inr (.inr (.inr (fun i => some (gr i))))))), (qc, .inl (cI, 4, .inl (kA pc))), (qt, .inl (cI, 4, .inl (kA tr2))), (qf, .inl (cI, 4, .inl (kA fc2))), (qn, .inl (cI, 77, .inl (kA cn2)))] ++ (k_p3 cI gr Pl)) H := hP
              replace hD : va_D A ([(h, .inr (1, [.ref qo, .ref qs, .int (zI ↑n), .int (zI ↑sd), .ref qp, .ref qc, .ref qt, .ref qf, .ref qn, .int (zI ↑lm2), .int (zI sf), .int (zI st)])), (qo, .inl (cI, 4, .inl (kA of))), (qs, .inl (cI, 4, .inl (kA se))), (qp, .inl (cG, 4, .inr (.inr (.inr (.inr (fun i => some (gr i))))))), (qc, .inl (cI, 4, .inl (kA pc))), (qt, .inl (cI, 4, .inl (kA tr2))), (qf, .inl (cI, 4, .inl (kA fc2))), (qn, .inl (cI, 77, .inl (kA cn2)))] ++ (k_p3 cI gr Pl)) := hD
              refine k_bif_eq (tgt := 150) hx hb d_Ph_searchMoved_96 (by decide) (fun c_96 => ?_) (fun c_96 => ?_)
              · refine k_iinc (v := ↑(i + 1)) (lv' := [(5, .int (zI (↑(i + 1)))), (9, .int (zI (↑(sMn mv (sV of Pl sl i) (sNr lo hi (sV of Pl sl i)))))), (8, .int (zI (sNr lo hi (sV of Pl sl i)))), (7, .int (zI (sV of Pl sl i))), (6, .int (zI (↑(Pl sl i)))), (0, .ref h), (1, .int (zI ↑sl)), (2, .int (zI ↑mv)), (3, .int (zI lo)), (4, .int (zI hi))]) hx hb d_Ph_searchMoved_150 hl (k := 9) rfl (by omega) (by decide) rfl ?_
                clear hl; intro ls hl
                refine lv_goto (tgt := 17) hx hb d_Ph_searchMoved_153 (by decide) ?_
                exact ih_17 (i + 1) tr2 fc2 cn2 lm2 (by omega) htr2 hlm2 (by first | (rw [kLoop, sStep_0 (by omega)] at hgo; exact hgo) | (rw [kLoop, sStep_1 (by omega) c_96] at hgo; exact hgo) | (rw [kLoop, sStep_2 (by omega) c_96 (by omega)] at hgo; exact hgo) | (rw [kLoop, sStep_3 (by omega) c_96 (by omega)] at hgo; exact hgo)) _ _ _ hP hD hS (lv_sub hl [5, 6, 7, 8, 9, 0] rfl)
              · refine lv_aload_n hx hb d_Ph_searchMoved_99 rfl (lv_at hl 4 rfl) ?_
                refine va_get (D := D) (ci := 1) (v := .ref qt) (C := R_Ph) (T := T_Ph) (N := 12) hx hb hkw kin_Ph hown hK hP 0 rfl rfl 6 (by decide) (hkw _ kw_fieldLink_Ph_34) (fun _ h9 => h9) rfl d_Ph_searchMoved_100 ?_
                refine lv_iload_n hx hb d_Ph_searchMoved_103 rfl (lv_at hl 5 rfl) ?_
                refine lv_iload hx hb d_Ph_searchMoved_104 (lv_at hl 3 rfl) ?_
                refine k_ast hx hb hK hP hD hS 5 0 rfl rfl (i := sl) (v := (Pl sl i)) (by omega) (by omega) (by omega) (by omega) d_Ph_searchMoved_106 ?_
                clear hP hD hS; intro H locs hP hD hS
                replace hP : va_P D k_cl ([(h, .inr (1, [.ref qo, .ref qs, .int (zI ↑n), .int (zI ↑sd), .ref qp, .ref qc, .ref qt, .ref qf, .ref qn, .int (zI ↑lm2), .int (zI sf), .int (zI st)])), (qo, .inl (cI, 4, .inl (kA of))), (qs, .inl (cI, 4, .inl (kA se))), (qp, .inl (cG, 4, .inr (.inr (.inr (.inr (fun i => some (gr i))))))), (qc, .inl (cI, 4, .inl (kA pc))), (qt, .inl (cI, 4, .inl (kA (va_up tr2 sl (Pl sl i))))), (qf, .inl (cI, 4, .inl (kA fc2))), (qn, .inl (cI, 77, .inl (kA cn2)))] ++ (k_p3 cI gr Pl)) H := hP
                replace hD : va_D A ([(h, .inr (1, [.ref qo, .ref qs, .int (zI ↑n), .int (zI ↑sd), .ref qp, .ref qc, .ref qt, .ref qf, .ref qn, .int (zI ↑lm2), .int (zI sf), .int (zI st)])), (qo, .inl (cI, 4, .inl (kA of))), (qs, .inl (cI, 4, .inl (kA se))), (qp, .inl (cG, 4, .inr (.inr (.inr (.inr (fun i => some (gr i))))))), (qc, .inl (cI, 4, .inl (kA pc))), (qt, .inl (cI, 4, .inl (kA (va_up tr2 sl (Pl sl i))))), (qf, .inl (cI, 4, .inl (kA fc2))), (qn, .inl (cI, 77, .inl (kA cn2)))] ++ (k_p3 cI gr Pl)) := hD
                refine lv_iload_n hx hb d_Ph_searchMoved_107 rfl (lv_at hl 5 rfl) ?_
                refine lv_iconst (v := zI 1) hx hb d_Ph_searchMoved_108 (by decide) ?_
                refine k_icmp_ne (tgt := 137) hx hb d_Ph_searchMoved_109 (by decide) ⟨by omega, by omega⟩ ⟨by omega, by omega⟩ (fun c_109 => ?_) (fun c_109 => ?_)
                · refine lv_aload_n hx hb d_Ph_searchMoved_137 rfl (lv_at hl 4 rfl) ?_
                  refine lv_iload_n hx hb d_Ph_searchMoved_138 rfl (lv_at hl 5 rfl) ?_
                  refine lv_iconst (v := zI 1) hx hb d_Ph_searchMoved_139 (by decide) ?_
                  refine k_iadd (v := ↑(sl + 1)) hx hb d_Ph_searchMoved_140 (by omega) ?_
                  refine lv_iload hx hb d_Ph_searchMoved_141 (lv_at hl 0 rfl) ?_
                  refine lv_iload hx hb d_Ph_searchMoved_143 (lv_at hl 1 rfl) ?_
                  refine lv_iload hx hb d_Ph_searchMoved_145 (lv_at hl 1 rfl) ?_
                  have hbS := sM_bd (of := of) (se := se) (pc := pc) hPl d (sl + 1) (sMn mv (sV of Pl sl i) (sNr lo hi (sV of Pl sl i))) (sNr lo hi (sV of Pl sl i)) (sNr lo hi (sV of Pl sl i)) (va_up tr2 sl (Pl sl i), fc2, cn2, lm2) ⟨k_upB htr2 hb1, hlm2⟩
                  refine k_beVT (nx := [(h, .inr (1, [.ref qo, .ref qs, .int (zI ↑n), .int (zI ↑sd), .ref qp, .ref qc, .ref qt, .ref qf, .ref qn, .int (zI (↑((sM of se pc Pl d (sl + 1) (sMn mv (sV of Pl sl i) (sNr lo hi (sV of Pl sl i))) (sNr lo hi (sV of Pl sl i)) (sNr lo hi (sV of Pl sl i)) (va_up tr2 sl (Pl sl i), fc2, cn2, lm2)).2.2.2))), .int (zI sf), .int (zI st)])), (qo, .inl (cI, 4, .inl (kA of))), (qs, .inl (cI, 4, .inl (kA se))), (qp, .inl (cG, 4, .inr (.inr (.inr (.inr (fun i => some (gr i))))))), (qc, .inl (cI, 4, .inl (kA pc))), (qt, .inl (cI, 4, .inl (kA ((sM of se pc Pl d (sl + 1) (sMn mv (sV of Pl sl i) (sNr lo hi (sV of Pl sl i))) (sNr lo hi (sV of Pl sl i)) (sNr lo hi (sV of Pl sl i)) (va_up tr2 sl (Pl sl i), fc2, cn2, lm2)).1)))), (qf, .inl (cI, 4, .inl (kA ((sM of se pc Pl d (sl + 1) (sMn mv (sV of Pl sl i) (sNr lo hi (sV of Pl sl i))) (sNr lo hi (sV of Pl sl i)) (sNr lo hi (sV of Pl sl i)) (va_up tr2 sl (Pl sl i), fc2, cn2, lm2)).2.1)))), (qn, .inl (cI, 77, .inl (kA ((sM of se pc Pl d (sl + 1) (sMn mv (sV of Pl sl i) (sNr lo hi (sV of Pl sl i))) (sNr lo hi (sV of Pl sl i)) (sNr lo hi (sV of Pl sl i)) (va_up tr2 sl (Pl sl i), fc2, cn2, lm2)).2.2.1))))]) (tn := k_p3 cI gr Pl) (T1 := k_p3 cI gr Pl) (va_runV (As := [.int (zI ↑(sl + 1)), .int (zI (↑(sMn mv (sV of Pl sl i) (sNr lo hi (sV of Pl sl i))))), .int (zI (sNr lo hi (sV of Pl sl i))), .int (zI (sNr lo hi (sV of Pl sl i)))]) (rest := []) ⟨hx, hb, hml, hown, hkw⟩ (ih (sl + 1) (sMn mv (sV of Pl sl i) (sNr lo hi (sV of Pl sl i))) (sNr lo hi (sV of Pl sl i)) (sNr lo hi (sV of Pl sl i)) (va_up tr2 sl (Pl sl i)) fc2 cn2 lm2 (by omega) (by omega) (by omega) (by omega) (k_upB htr2 hb1) hlm2 _) (cwV 4 hkw (k_gV kw_methodLink_Ph_71 kw_instanceMethod_Ph_searchMoved kw_selects_Ph_searchMoved kw_initialized_Ph kw_code_Ph_searchMoved) rfl rfl rfl (by decide +kernel) ⟨(by have h9 : d + 4 + 1 ≤ d + 1 + 4 := (by omega); exact h9), (by have h9 : 8 + (10 + 11) + (29 * d + 200) ≤ 29 * (d + 1) + 200 := (by omega); exact h9)⟩) (k_preVT (px := [(h, .inr (1, [.ref qo, .ref qs, .int (zI ↑n), .int (zI ↑sd), .ref qp, .ref qc, .ref qt, .ref qf, .ref qn, .int (zI ↑lm2), .int (zI sf), .int (zI st)])), (qo, .inl (cI, 4, .inl (kA of))), (qs, .inl (cI, 4, .inl (kA se))), (qp, .inl (cG, 4, .inr (.inr (.inr (.inr (fun i => some (gr i))))))), (qc, .inl (cI, 4, .inl (kA pc))), (qt, .inl (cI, 4, .inl (kA (va_up tr2 sl (Pl sl i))))), (qf, .inl (cI, 4, .inl (kA fc2))), (qn, .inl (cI, 77, .inl (kA cn2)))]) (tc := k_p3 cI gr Pl) (q0 := 0) hK hG hP hD [0, 1, 2, 3, 4, 5, 6, 7] rfl rfl (fun _ h => h) ((k_D_right hD).weaken (fun _ _ _ _ => trivial)) rfl rfl) rfl rfl hl.1 rfl (lv_room (Nat.le_of_ble_eq_true rfl)) d_Ph_searchMoved_147 ⟨Nat.zero_le _, Nat.zero_le _⟩) hP hD hS hA [0, 1, 2, 3, 4, 5, 6, 7] rfl (Eq.trans (b := [h, qo, qs, qp, qc, qt, qf, qn]) rfl rfl) (fun _ h => h) rfl (fun _ h => Or.inl h) ?_
                  clear hP hD hS; intro H locs hP hD hS
                  replace hP : va_P D k_cl ([(h, .inr (1, [.ref qo, .ref qs, .int (zI ↑n), .int (zI ↑sd), .ref qp, .ref qc, .ref qt, .ref qf, .ref qn, .int (zI (↑((sM of se pc Pl d (sl + 1) (sMn mv (sV of Pl sl i) (sNr lo hi (sV of Pl sl i))) (sNr lo hi (sV of Pl sl i)) (sNr lo hi (sV of Pl sl i)) (va_up tr2 sl (Pl sl i), fc2, cn2, lm2)).2.2.2))), .int (zI sf), .int (zI st)])), (qo, .inl (cI, 4, .inl (kA of))), (qs, .inl (cI, 4, .inl (kA se))), (qp, .inl (cG, 4, .inr (.inr (.inr (.inr (fun i => some (gr i))))))), (qc, .inl (cI, 4, .inl (kA pc))), (qt, .inl (cI, 4, .inl (kA ((sM of se pc Pl d (sl + 1) (sMn mv (sV of Pl sl i) (sNr lo hi (sV of Pl sl i))) (sNr lo hi (sV of Pl sl i)) (sNr lo hi (sV of Pl sl i)) (va_up tr2 sl (Pl sl i), fc2, cn2, lm2)).1)))), (qf, .inl (cI, 4, .inl (kA ((sM of se pc Pl d (sl + 1) (sMn mv (sV of Pl sl i) (sNr lo hi (sV of Pl sl i))) (sNr lo hi (sV of Pl sl i)) (sNr lo hi (sV of Pl sl i)) (va_up tr2 sl (Pl sl i), fc2, cn2, lm2)).2.1)))), (qn, .inl (cI, 77, .inl (kA ((sM of se pc Pl d (sl + 1) (sMn mv (sV of Pl sl i) (sNr lo hi (sV of Pl sl i))) (sNr lo hi (sV of Pl sl i)) (sNr lo hi (sV of Pl sl i)) (va_up tr2 sl (Pl sl i), fc2, cn2, lm2)).2.2.1))))] ++ (k_p3 cI gr Pl)) H := hP
                  replace hD : va_D A ([(h, .inr (1, [.ref qo, .ref qs, .int (zI ↑n), .int (zI ↑sd), .ref qp, .ref qc, .ref qt, .ref qf, .ref qn, .int (zI (↑((sM of se pc Pl d (sl + 1) (sMn mv (sV of Pl sl i) (sNr lo hi (sV of Pl sl i))) (sNr lo hi (sV of Pl sl i)) (sNr lo hi (sV of Pl sl i)) (va_up tr2 sl (Pl sl i), fc2, cn2, lm2)).2.2.2))), .int (zI sf), .int (zI st)])), (qo, .inl (cI, 4, .inl (kA of))), (qs, .inl (cI, 4, .inl (kA se))), (qp, .inl (cG, 4, .inr (.inr (.inr (.inr (fun i => some (gr i))))))), (qc, .inl (cI, 4, .inl (kA pc))), (qt, .inl (cI, 4, .inl (kA ((sM of se pc Pl d (sl + 1) (sMn mv (sV of Pl sl i) (sNr lo hi (sV of Pl sl i))) (sNr lo hi (sV of Pl sl i)) (sNr lo hi (sV of Pl sl i)) (va_up tr2 sl (Pl sl i), fc2, cn2, lm2)).1)))), (qf, .inl (cI, 4, .inl (kA ((sM of se pc Pl d (sl + 1) (sMn mv (sV of Pl sl i) (sNr lo hi (sV of Pl sl i))) (sNr lo hi (sV of Pl sl i)) (sNr lo hi (sV of Pl sl i)) (va_up tr2 sl (Pl sl i), fc2, cn2, lm2)).2.1)))), (qn, .inl (cI, 77, .inl (kA ((sM of se pc Pl d (sl + 1) (sMn mv (sV of Pl sl i) (sNr lo hi (sV of Pl sl i))) (sNr lo hi (sV of Pl sl i)) (sNr lo hi (sV of Pl sl i)) (va_up tr2 sl (Pl sl i), fc2, cn2, lm2)).2.2.1))))] ++ (k_p3 cI gr Pl)) := hD
                  refine k_iinc (v := ↑(i + 1)) (lv' := [(5, .int (zI (↑(i + 1)))), (9, .int (zI (↑(sMn mv (sV of Pl sl i) (sNr lo hi (sV of Pl sl i)))))), (8, .int (zI (sNr lo hi (sV of Pl sl i)))), (7, .int (zI (sV of Pl sl i))), (6, .int (zI (↑(Pl sl i)))), (0, .ref h), (1, .int (zI ↑sl)), (2, .int (zI ↑mv)), (3, .int (zI lo)), (4, .int (zI hi))]) hx hb d_Ph_searchMoved_150 hl (k := 9) rfl (by omega) (by decide) rfl ?_
                  clear hl; intro ls hl
                  refine lv_goto (tgt := 17) hx hb d_Ph_searchMoved_153 (by decide) ?_
                  exact ih_17 (i + 1) ((sM of se pc Pl d (sl + 1) (sMn mv (sV of Pl sl i) (sNr lo hi (sV of Pl sl i))) (sNr lo hi (sV of Pl sl i)) (sNr lo hi (sV of Pl sl i)) (va_up tr2 sl (Pl sl i), fc2, cn2, lm2)).1) ((sM of se pc Pl d (sl + 1) (sMn mv (sV of Pl sl i) (sNr lo hi (sV of Pl sl i))) (sNr lo hi (sV of Pl sl i)) (sNr lo hi (sV of Pl sl i)) (va_up tr2 sl (Pl sl i), fc2, cn2, lm2)).2.1) ((sM of se pc Pl d (sl + 1) (sMn mv (sV of Pl sl i) (sNr lo hi (sV of Pl sl i))) (sNr lo hi (sV of Pl sl i)) (sNr lo hi (sV of Pl sl i)) (va_up tr2 sl (Pl sl i), fc2, cn2, lm2)).2.2.1) ((sM of se pc Pl d (sl + 1) (sMn mv (sV of Pl sl i) (sNr lo hi (sV of Pl sl i))) (sNr lo hi (sV of Pl sl i)) (sNr lo hi (sV of Pl sl i)) (va_up tr2 sl (Pl sl i), fc2, cn2, lm2)).2.2.2) (by omega) hbS.1 hbS.2 (by first | (rw [kLoop, sStep_0 (by omega)] at hgo; exact hgo) | (rw [kLoop, sStep_1 (by omega) c_96] at hgo; exact hgo) | (rw [kLoop, sStep_2 (by omega) c_96 (by omega)] at hgo; exact hgo) | (rw [kLoop, sStep_3 (by omega) c_96 (by omega)] at hgo; exact hgo)) _ _ _ hP hD hS (lv_sub hl [5, 6, 7, 8, 9, 0] rfl)
                · refine lv_aload_n hx hb d_Ph_searchMoved_112 rfl (lv_at hl 4 rfl) ?_
                  refine lv_iload_n hx hb d_Ph_searchMoved_113 rfl (lv_at hl 5 rfl) ?_
                  refine lv_iconst (v := zI 1) hx hb d_Ph_searchMoved_114 (by decide) ?_
                  refine k_iadd (v := ↑(sl + 1)) hx hb d_Ph_searchMoved_115 (by omega) ?_
                  refine lv_iload hx hb d_Ph_searchMoved_116 (lv_at hl 0 rfl) ?_
                  refine lv_iload_n hx hb d_Ph_searchMoved_118 rfl (lv_at hl 7 rfl) ?_
                  refine lv_iload hx hb d_Ph_searchMoved_119 (lv_at hl 2 rfl) ?_
                  refine k_min (v := min lo (sV of Pl sl i)) hx hb (hml.trans hl.1.symm) hown (hkw _ kw_methodLink_Ph_83) (hkw _ kw_static_Math_min) (hkw _ kw_initialized_Math) (hkw _ kw_code_Math_min) (by have h9 : (1 : Nat) ≤ (d + 1) + 4 := (by omega); exact h9) (by have h9 : (16 : Nat) ≤ 29 * (d + 1) + 200 := (by omega); exact h9) (Nat.zero_le _) (Nat.zero_le _) d_Ph_searchMoved_121 ⟨by omega, by omega⟩ ⟨by omega, by omega⟩ (by omega) ?_
                  refine lv_iload hx hb d_Ph_searchMoved_124 (lv_at hl 8 rfl) ?_
                  refine lv_iload hx hb d_Ph_searchMoved_126 (lv_at hl 2 rfl) ?_
                  refine k_max (v := max hi (sV of Pl sl i)) hx hb (hml.trans hl.1.symm) hown (hkw _ kw_methodLink_Ph_89) (hkw _ kw_static_Math_max) (hkw _ kw_initialized_Math) (hkw _ kw_code_Math_max) (by have h9 : (1 : Nat) ≤ (d + 1) + 4 := (by omega); exact h9) (by have h9 : (17 : Nat) ≤ 29 * (d + 1) + 200 := (by omega); exact h9) (Nat.zero_le _) (Nat.zero_le _) d_Ph_searchMoved_128 ⟨by omega, by omega⟩ ⟨by omega, by omega⟩ (by omega) ?_
                  have hbS := sM_bd (of := of) (se := se) (pc := pc) hPl d (sl + 1) (sMn mv (sV of Pl sl i) (sNr lo hi (sV of Pl sl i))) (min lo (sV of Pl sl i)) (max hi (sV of Pl sl i)) (va_up tr2 sl (Pl sl i), fc2, cn2, lm2) ⟨k_upB htr2 hb1, hlm2⟩
                  refine k_beVT (nx := [(h, .inr (1, [.ref qo, .ref qs, .int (zI ↑n), .int (zI ↑sd), .ref qp, .ref qc, .ref qt, .ref qf, .ref qn, .int (zI (↑((sM of se pc Pl d (sl + 1) (sMn mv (sV of Pl sl i) (sNr lo hi (sV of Pl sl i))) (min lo (sV of Pl sl i)) (max hi (sV of Pl sl i)) (va_up tr2 sl (Pl sl i), fc2, cn2, lm2)).2.2.2))), .int (zI sf), .int (zI st)])), (qo, .inl (cI, 4, .inl (kA of))), (qs, .inl (cI, 4, .inl (kA se))), (qp, .inl (cG, 4, .inr (.inr (.inr (.inr (fun i => some (gr i))))))), (qc, .inl (cI, 4, .inl (kA pc))), (qt, .inl (cI, 4, .inl (kA ((sM of se pc Pl d (sl + 1) (sMn mv (sV of Pl sl i) (sNr lo hi (sV of Pl sl i))) (min lo (sV of Pl sl i)) (max hi (sV of Pl sl i)) (va_up tr2 sl (Pl sl i), fc2, cn2, lm2)).1)))), (qf, .inl (cI, 4, .inl (kA ((sM of se pc Pl d (sl + 1) (sMn mv (sV of Pl sl i) (sNr lo hi (sV of Pl sl i))) (min lo (sV of Pl sl i)) (max hi (sV of Pl sl i)) (va_up tr2 sl (Pl sl i), fc2, cn2, lm2)).2.1)))), (qn, .inl (cI, 77, .inl (kA ((sM of se pc Pl d (sl + 1) (sMn mv (sV of Pl sl i) (sNr lo hi (sV of Pl sl i))) (min lo (sV of Pl sl i)) (max hi (sV of Pl sl i)) (va_up tr2 sl (Pl sl i), fc2, cn2, lm2)).2.2.1))))]) (tn := k_p3 cI gr Pl) (T1 := k_p3 cI gr Pl) (va_runV (As := [.int (zI ↑(sl + 1)), .int (zI (↑(sMn mv (sV of Pl sl i) (sNr lo hi (sV of Pl sl i))))), .int (zI (min lo (sV of Pl sl i))), .int (zI (max hi (sV of Pl sl i)))]) (rest := []) ⟨hx, hb, hml, hown, hkw⟩ (ih (sl + 1) (sMn mv (sV of Pl sl i) (sNr lo hi (sV of Pl sl i))) (min lo (sV of Pl sl i)) (max hi (sV of Pl sl i)) (va_up tr2 sl (Pl sl i)) fc2 cn2 lm2 (by omega) (by omega) (by omega) (by omega) (k_upB htr2 hb1) hlm2 _) (cwV 4 hkw (k_gV kw_methodLink_Ph_71 kw_instanceMethod_Ph_searchMoved kw_selects_Ph_searchMoved kw_initialized_Ph kw_code_Ph_searchMoved) rfl rfl rfl (by decide +kernel) ⟨(by have h9 : d + 4 + 1 ≤ d + 1 + 4 := (by omega); exact h9), (by have h9 : 8 + (10 + 11) + (29 * d + 200) ≤ 29 * (d + 1) + 200 := (by omega); exact h9)⟩) (k_preVT (px := [(h, .inr (1, [.ref qo, .ref qs, .int (zI ↑n), .int (zI ↑sd), .ref qp, .ref qc, .ref qt, .ref qf, .ref qn, .int (zI ↑lm2), .int (zI sf), .int (zI st)])), (qo, .inl (cI, 4, .inl (kA of))), (qs, .inl (cI, 4, .inl (kA se))), (qp, .inl (cG, 4, .inr (.inr (.inr (.inr (fun i => some (gr i))))))), (qc, .inl (cI, 4, .inl (kA pc))), (qt, .inl (cI, 4, .inl (kA (va_up tr2 sl (Pl sl i))))), (qf, .inl (cI, 4, .inl (kA fc2))), (qn, .inl (cI, 77, .inl (kA cn2)))]) (tc := k_p3 cI gr Pl) (q0 := 0) hK hG hP hD [0, 1, 2, 3, 4, 5, 6, 7] rfl rfl (fun _ h => h) ((k_D_right hD).weaken (fun _ _ _ _ => trivial)) rfl rfl) rfl rfl hl.1 rfl (lv_room (Nat.le_of_ble_eq_true rfl)) d_Ph_searchMoved_131 ⟨Nat.zero_le _, Nat.zero_le _⟩) hP hD hS hA [0, 1, 2, 3, 4, 5, 6, 7] rfl (Eq.trans (b := [h, qo, qs, qp, qc, qt, qf, qn]) rfl rfl) (fun _ h => h) rfl (fun _ h => Or.inl h) ?_
                  clear hP hD hS; intro H locs hP hD hS
                  replace hP : va_P D k_cl ([(h, .inr (1, [.ref qo, .ref qs, .int (zI ↑n), .int (zI ↑sd), .ref qp, .ref qc, .ref qt, .ref qf, .ref qn, .int (zI (↑((sM of se pc Pl d (sl + 1) (sMn mv (sV of Pl sl i) (sNr lo hi (sV of Pl sl i))) (min lo (sV of Pl sl i)) (max hi (sV of Pl sl i)) (va_up tr2 sl (Pl sl i), fc2, cn2, lm2)).2.2.2))), .int (zI sf), .int (zI st)])), (qo, .inl (cI, 4, .inl (kA of))), (qs, .inl (cI, 4, .inl (kA se))), (qp, .inl (cG, 4, .inr (.inr (.inr (.inr (fun i => some (gr i))))))), (qc, .inl (cI, 4, .inl (kA pc))), (qt, .inl (cI, 4, .inl (kA ((sM of se pc Pl d (sl + 1) (sMn mv (sV of Pl sl i) (sNr lo hi (sV of Pl sl i))) (min lo (sV of Pl sl i)) (max hi (sV of Pl sl i)) (va_up tr2 sl (Pl sl i), fc2, cn2, lm2)).1)))), (qf, .inl (cI, 4, .inl (kA ((sM of se pc Pl d (sl + 1) (sMn mv (sV of Pl sl i) (sNr lo hi (sV of Pl sl i))) (min lo (sV of Pl sl i)) (max hi (sV of Pl sl i)) (va_up tr2 sl (Pl sl i), fc2, cn2, lm2)).2.1)))), (qn, .inl (cI, 77, .inl (kA ((sM of se pc Pl d (sl + 1) (sMn mv (sV of Pl sl i) (sNr lo hi (sV of Pl sl i))) (min lo (sV of Pl sl i)) (max hi (sV of Pl sl i)) (va_up tr2 sl (Pl sl i), fc2, cn2, lm2)).2.2.1))))] ++ (k_p3 cI gr Pl)) H := hP
                  replace hD : va_D A ([(h, .inr (1, [.ref qo, .ref qs, .int (zI ↑n), .int (zI ↑sd), .ref qp, .ref qc, .ref qt, .ref qf, .ref qn, .int (zI (↑((sM of se pc Pl d (sl + 1) (sMn mv (sV of Pl sl i) (sNr lo hi (sV of Pl sl i))) (min lo (sV of Pl sl i)) (max hi (sV of Pl sl i)) (va_up tr2 sl (Pl sl i), fc2, cn2, lm2)).2.2.2))), .int (zI sf), .int (zI st)])), (qo, .inl (cI, 4, .inl (kA of))), (qs, .inl (cI, 4, .inl (kA se))), (qp, .inl (cG, 4, .inr (.inr (.inr (.inr (fun i => some (gr i))))))), (qc, .inl (cI, 4, .inl (kA pc))), (qt, .inl (cI, 4, .inl (kA ((sM of se pc Pl d (sl + 1) (sMn mv (sV of Pl sl i) (sNr lo hi (sV of Pl sl i))) (min lo (sV of Pl sl i)) (max hi (sV of Pl sl i)) (va_up tr2 sl (Pl sl i), fc2, cn2, lm2)).1)))), (qf, .inl (cI, 4, .inl (kA ((sM of se pc Pl d (sl + 1) (sMn mv (sV of Pl sl i) (sNr lo hi (sV of Pl sl i))) (min lo (sV of Pl sl i)) (max hi (sV of Pl sl i)) (va_up tr2 sl (Pl sl i), fc2, cn2, lm2)).2.1)))), (qn, .inl (cI, 77, .inl (kA ((sM of se pc Pl d (sl + 1) (sMn mv (sV of Pl sl i) (sNr lo hi (sV of Pl sl i))) (min lo (sV of Pl sl i)) (max hi (sV of Pl sl i)) (va_up tr2 sl (Pl sl i), fc2, cn2, lm2)).2.2.1))))] ++ (k_p3 cI gr Pl)) := hD
                  refine lv_goto (tgt := 150) hx hb d_Ph_searchMoved_134 (by decide) ?_
                  refine k_iinc (v := ↑(i + 1)) (lv' := [(5, .int (zI (↑(i + 1)))), (9, .int (zI (↑(sMn mv (sV of Pl sl i) (sNr lo hi (sV of Pl sl i)))))), (8, .int (zI (sNr lo hi (sV of Pl sl i)))), (7, .int (zI (sV of Pl sl i))), (6, .int (zI (↑(Pl sl i)))), (0, .ref h), (1, .int (zI ↑sl)), (2, .int (zI ↑mv)), (3, .int (zI lo)), (4, .int (zI hi))]) hx hb d_Ph_searchMoved_150 hl (k := 9) rfl (by omega) (by decide) rfl ?_
                  clear hl; intro ls hl
                  refine lv_goto (tgt := 17) hx hb d_Ph_searchMoved_153 (by decide) ?_
                  exact ih_17 (i + 1) ((sM of se pc Pl d (sl + 1) (sMn mv (sV of Pl sl i) (sNr lo hi (sV of Pl sl i))) (min lo (sV of Pl sl i)) (max hi (sV of Pl sl i)) (va_up tr2 sl (Pl sl i), fc2, cn2, lm2)).1) ((sM of se pc Pl d (sl + 1) (sMn mv (sV of Pl sl i) (sNr lo hi (sV of Pl sl i))) (min lo (sV of Pl sl i)) (max hi (sV of Pl sl i)) (va_up tr2 sl (Pl sl i), fc2, cn2, lm2)).2.1) ((sM of se pc Pl d (sl + 1) (sMn mv (sV of Pl sl i) (sNr lo hi (sV of Pl sl i))) (min lo (sV of Pl sl i)) (max hi (sV of Pl sl i)) (va_up tr2 sl (Pl sl i), fc2, cn2, lm2)).2.2.1) ((sM of se pc Pl d (sl + 1) (sMn mv (sV of Pl sl i) (sNr lo hi (sV of Pl sl i))) (min lo (sV of Pl sl i)) (max hi (sV of Pl sl i)) (va_up tr2 sl (Pl sl i), fc2, cn2, lm2)).2.2.2) (by omega) hbS.1 hbS.2 (by first | (rw [kLoop, sStep_0 (by omega)] at hgo; exact hgo) | (rw [kLoop, sStep_1 (by omega) c_96] at hgo; exact hgo) | (rw [kLoop, sStep_2 (by omega) c_96 (by omega)] at hgo; exact hgo) | (rw [kLoop, sStep_3 (by omega) c_96 (by omega)] at hgo; exact hgo)) _ _ _ hP hD hS (lv_sub hl [5, 6, 7, 8, 9, 0] rfl)
      exact loop_17 (pc sl) 0 tr fc cn lm (by omega) htr hlm rfl _ _ _ hP hD hS (lv_sub hl [1, 2, 3, 4, 5, 0] rfl)
    · exfalso; omega

abbrev rm_Ph_searchShortest (d : Nat) : Room := { frames := d + 4, cells := 0, slots := 0, locals := 29 * d + 200 }
set_option maxHeartbeats 8000000 in
set_option maxRecDepth 100000 in
theorem c_Ph_searchShortest (l : Launch) (D : va_G) (cI cR cG : ClassId) (h qo qs qp qc qt qf qn n sd lm : Nat) (gr se pc : Nat → Nat) (Pl : Nat → Nat → Nat) (hn : n ≤ 4) (hse : ∀ j, se j ≤ 1023) (hpc : ∀ j, pc j ≤ 30) (hPl : ∀ j i, Pl j i ≤ 30) : ∀ (d : Nat) (sl : Nat) (lo hi : Int) (tr : Nat → Nat) (sf st : Int), (sl + d = n) → (-1 ≤ lo ∧ lo ≤ 30) → (-1 ≤ hi ∧ hi ≤ 30) → (∀ j, tr j ≤ 30) → (-1 ≤ sf ∧ sf ≤ 30) → (-1 ≤ st ∧ st ≤ 30) → k_M l y_Ph_searchShortest (.code y_Ph_searchShortest b_Ph_searchShortest 8 none :: kW) (rm_Ph_searchShortest d) D k_cl (k_ty cI cR cG) [.ref h, .int (zI ↑sl), .int (zI lo), .int (zI hi)] ([(h, .inr (1, [.ref qo, .ref qs, .int (zI ↑n), .int (zI ↑sd), .ref qp, .ref qc, .ref qt, .ref qf, .ref qn, .int (zI ↑lm), .int (zI sf), .int (zI st)])), (qs, .inl (cI, 4, .inl (kA se))), (qp, .inl (cG, 4, .inr (.inr (.inr (.inr (fun i => some (gr i))))))), (qc, .inl (cI, 4, .inl (kA pc))), (qt, .inl (cI, 4, .inl (kA tr)))] ++ (k_p3 cI gr Pl)) (k_Qv D k_cl ([(h, .inr (1, [.ref qo, .ref qs, .int (zI ↑n), .int (zI ↑sd), .ref qp, .ref qc, .ref qt, .ref qf, .ref qn, .int (zI ↑lm), .int (zI ((sT se pc Pl d sl lo hi (tr, sf, st)).2.1)), .int (zI ((sT se pc Pl d sl lo hi (tr, sf, st)).2.2))])), (qs, .inl (cI, 4, .inl (kA se))), (qp, .inl (cG, 4, .inr (.inr (.inr (.inr (fun i => some (gr i))))))), (qc, .inl (cI, 4, .inl (kA pc))), (qt, .inl (cI, 4, .inl (kA ((sT se pc Pl d sl lo hi (tr, sf, st)).1))))] ++ k_p3 cI gr Pl)) := by
  intro d
  induction d with
  | zero =>
    intro sl lo hi tr sf st hsl hlo hhi htr hsf hst
    refine k_start (cc := b_Ph_searchShortest) (maxL := 8) (ret := none) (by decide) rfl (Nat.le_of_ble_eq_true rfl) ?_
    intro p ev s m ar below meth c A ls Qf hQf hx hb hr hml hts hown hlocks hin hK hG hA hP hD hS hl
    replace hown : s.vm.findClass R_Ph = some m.cls := hown
    replace hl : lv_has ls 8 [(0, .ref h), (1, .int (zI ↑sl)), (2, .int (zI lo)), (3, .int (zI hi))] := hl
    have hkw : ∀ w ∈ kW, w.before ar s = true := fun w h => hts w (List.mem_cons_of_mem _ h)
    replace hP : va_P D k_cl ([(h, .inr (1, [.ref qo, .ref qs, .int (zI ↑n), .int (zI ↑sd), .ref qp, .ref qc, .ref qt, .ref qf, .ref qn, .int (zI ↑lm), .int (zI sf), .int (zI st)])), (qs, .inl (cI, 4, .inl (kA se))), (qp, .inl (cG, 4, .inr (.inr (.inr (.inr (fun i => some (gr i))))))), (qc, .inl (cI, 4, .inl (kA pc))), (qt, .inl (cI, 4, .inl (kA tr)))] ++ (k_p3 cI gr Pl)) s.heap := hP
    replace hD : va_D A ([(h, .inr (1, [.ref qo, .ref qs, .int (zI ↑n), .int (zI ↑sd), .ref qp, .ref qc, .ref qt, .ref qf, .ref qn, .int (zI ↑lm), .int (zI sf), .int (zI st)])), (qs, .inl (cI, 4, .inl (kA se))), (qp, .inl (cG, 4, .inr (.inr (.inr (.inr (fun i => some (gr i))))))), (qc, .inl (cI, 4, .inl (kA pc))), (qt, .inl (cI, 4, .inl (kA tr)))] ++ (k_p3 cI gr Pl)) := hD
    refine lv_iload_n hx hb d_Ph_searchShortest_0 rfl (lv_at hl 1 rfl) ?_
    refine lv_aload_n hx hb d_Ph_searchShortest_1 rfl (lv_at hl 0 rfl) ?_
    refine va_get (D := D) (ci := 1) (v := .int (zI ↑n)) (C := R_Ph) (T := T_Ph) (N := 12) hx hb hkw kin_Ph hown hK hP 0 rfl rfl 2 (by decide) (hkw _ kw_fieldLink_Ph_18) (fun _ h9 => h9) rfl d_Ph_searchShortest_2 ?_
    refine k_icmp_lt (tgt := 19) hx hb d_Ph_searchShortest_5 (by decide) ⟨by omega, by omega⟩ ⟨by omega, by omega⟩ (fun c_5 => ?_) (fun c_5 => ?_)
    · exfalso; omega
    · refine lv_aload_n hx hb d_Ph_searchShortest_8 rfl (lv_at hl 0 rfl) ?_
      refine lv_iload_n hx hb d_Ph_searchShortest_9 rfl (lv_at hl 2 rfl) ?_
      refine va_put (D := D) (ci := 1) (v := .int (zI lo)) (ty := .int) (C := R_Ph) (T := T_Ph) (N := 12) hx hb hkw kin_Ph ty_Ph ty_Ph_ok nm_Ph hown hK hP hD hS 0 rfl rfl 10 (by decide) (hkw _ kw_fieldLink_Ph_46) (fun _ h9 => h9) rfl (by decide +kernel) rfl rfl (Nat.le_of_ble_eq_true rfl) d_Ph_searchShortest_10 ?_
      clear hP hD hS; intro H locs hP hD hS
      replace hP : va_P D k_cl ([(h, .inr (1, [.ref qo, .ref qs, .int (zI ↑n), .int (zI ↑sd), .ref qp, .ref qc, .ref qt, .ref qf, .ref qn, .int (zI ↑lm), .int (zI lo), .int (zI st)])), (qs, .inl (cI, 4, .inl (kA se))), (qp, .inl (cG, 4, .inr (.inr (.inr (.inr (fun i => some (gr i))))))), (qc, .inl (cI, 4, .inl (kA pc))), (qt, .inl (cI, 4, .inl (kA tr)))] ++ (k_p3 cI gr Pl)) H := hP
      replace hD : va_D A ([(h, .inr (1, [.ref qo, .ref qs, .int (zI ↑n), .int (zI ↑sd), .ref qp, .ref qc, .ref qt, .ref qf, .ref qn, .int (zI ↑lm), .int (zI lo), .int (zI st)])), (qs, .inl (cI, 4, .inl (kA se))), (qp, .inl (cG, 4, .inr (.inr (.inr (.inr (fun i => some (gr i))))))), (qc, .inl (cI, 4, .inl (kA pc))), (qt, .inl (cI, 4, .inl (kA tr)))] ++ (k_p3 cI gr Pl)) := hD
      refine lv_aload_n hx hb d_Ph_searchShortest_13 rfl (lv_at hl 0 rfl) ?_
      refine lv_iload_n hx hb d_Ph_searchShortest_14 rfl (lv_at hl 3 rfl) ?_
      refine va_put (D := D) (ci := 1) (v := .int (zI hi)) (ty := .int) (C := R_Ph) (T := T_Ph) (N := 12) hx hb hkw kin_Ph ty_Ph ty_Ph_ok nm_Ph hown hK hP hD hS 0 rfl rfl 11 (by decide) (hkw _ kw_fieldLink_Ph_49) (fun _ h9 => h9) rfl (by decide +kernel) rfl rfl (Nat.le_of_ble_eq_true rfl) d_Ph_searchShortest_15 ?_
      clear hP hD hS; intro H locs hP hD hS
      replace hP : va_P D k_cl ([(h, .inr (1, [.ref qo, .ref qs, .int (zI ↑n), .int (zI ↑sd), .ref qp, .ref qc, .ref qt, .ref qf, .ref qn, .int (zI ↑lm), .int (zI lo), .int (zI hi)])), (qs, .inl (cI, 4, .inl (kA se))), (qp, .inl (cG, 4, .inr (.inr (.inr (.inr (fun i => some (gr i))))))), (qc, .inl (cI, 4, .inl (kA pc))), (qt, .inl (cI, 4, .inl (kA tr)))] ++ (k_p3 cI gr Pl)) H := hP
      replace hD : va_D A ([(h, .inr (1, [.ref qo, .ref qs, .int (zI ↑n), .int (zI ↑sd), .ref qp, .ref qc, .ref qt, .ref qf, .ref qn, .int (zI ↑lm), .int (zI lo), .int (zI hi)])), (qs, .inl (cI, 4, .inl (kA se))), (qp, .inl (cG, 4, .inr (.inr (.inr (.inr (fun i => some (gr i))))))), (qc, .inl (cI, 4, .inl (kA pc))), (qt, .inl (cI, 4, .inl (kA tr)))] ++ (k_p3 cI gr Pl)) := hD
      rw [← hQf]
      exact k_vret hx hb hr hlocks hP hS d_Ph_searchShortest_18
  | succ d ih =>
    intro sl lo hi tr sf st hsl hlo hhi htr hsf hst
    refine k_start (cc := b_Ph_searchShortest) (maxL := 8) (ret := none) (by decide) rfl (Nat.le_of_ble_eq_true rfl) ?_
    intro p ev s m ar below meth c A ls Qf hQf hx hb hr hml hts hown hlocks hin hK hG hA hP hD hS hl
    replace hown : s.vm.findClass R_Ph = some m.cls := hown
    replace hl : lv_has ls 8 [(0, .ref h), (1, .int (zI ↑sl)), (2, .int (zI lo)), (3, .int (zI hi))] := hl
    have hkw : ∀ w ∈ kW, w.before ar s = true := fun w h => hts w (List.mem_cons_of_mem _ h)
    replace hP : va_P D k_cl ([(h, .inr (1, [.ref qo, .ref qs, .int (zI ↑n), .int (zI ↑sd), .ref qp, .ref qc, .ref qt, .ref qf, .ref qn, .int (zI ↑lm), .int (zI sf), .int (zI st)])), (qs, .inl (cI, 4, .inl (kA se))), (qp, .inl (cG, 4, .inr (.inr (.inr (.inr (fun i => some (gr i))))))), (qc, .inl (cI, 4, .inl (kA pc))), (qt, .inl (cI, 4, .inl (kA tr)))] ++ (k_p3 cI gr Pl)) s.heap := hP
    replace hD : va_D A ([(h, .inr (1, [.ref qo, .ref qs, .int (zI ↑n), .int (zI ↑sd), .ref qp, .ref qc, .ref qt, .ref qf, .ref qn, .int (zI ↑lm), .int (zI sf), .int (zI st)])), (qs, .inl (cI, 4, .inl (kA se))), (qp, .inl (cG, 4, .inr (.inr (.inr (.inr (fun i => some (gr i))))))), (qc, .inl (cI, 4, .inl (kA pc))), (qt, .inl (cI, 4, .inl (kA tr)))] ++ (k_p3 cI gr Pl)) := hD
    refine lv_iload_n hx hb d_Ph_searchShortest_0 rfl (lv_at hl 1 rfl) ?_
    refine lv_aload_n hx hb d_Ph_searchShortest_1 rfl (lv_at hl 0 rfl) ?_
    refine va_get (D := D) (ci := 1) (v := .int (zI ↑n)) (C := R_Ph) (T := T_Ph) (N := 12) hx hb hkw kin_Ph hown hK hP 0 rfl rfl 2 (by decide) (hkw _ kw_fieldLink_Ph_18) (fun _ h9 => h9) rfl d_Ph_searchShortest_2 ?_
    refine k_icmp_lt (tgt := 19) hx hb d_Ph_searchShortest_5 (by decide) ⟨by omega, by omega⟩ ⟨by omega, by omega⟩ (fun c_5 => ?_) (fun c_5 => ?_)
    · refine lv_iconst (v := zI 0) hx hb d_Ph_searchShortest_19 (by decide) ?_
      refine lv_istore (lv' := [(4, .int (zI 0)), (0, .ref h), (1, .int (zI ↑sl)), (2, .int (zI lo)), (3, .int (zI hi))]) hx hb d_Ph_searchShortest_20 hl (by decide) rfl ?_
      clear hl; intro ls hl
      have loop_22 : ∀ (k : Nat) (i : Nat) (tr2 : Nat → Nat) (sf2 : Int) (st2 : Int), (i + k = pc sl) → (∀ j, tr2 j ≤ 30) → (-1 ≤ sf2 ∧ sf2 ≤ 30) → (-1 ≤ st2 ∧ st2 ≤ 30) → (kLoop (tStep se Pl (sT se pc Pl d (sl + 1)) sl lo hi) k i (tr2, sf2, st2) = kLoop (tStep se Pl (sT se pc Pl d (sl + 1)) sl lo hi) (pc sl) 0 (tr, sf, st)) → ∀ (H : Heap) (locs : List Loc) (ls : Array Slot), va_P D k_cl ([(h, .inr (1, [.ref qo, .ref qs, .int (zI ↑n), .int (zI ↑sd), .ref qp, .ref qc, .ref qt, .ref qf, .ref qn, .int (zI ↑lm), .int (zI sf2), .int (zI st2)])), (qs, .inl (cI, 4, .inl (kA se))), (qp, .inl (cG, 4, .inr (.inr (.inr (.inr (fun i => some (gr i))))))), (qc, .inl (cI, 4, .inl (kA pc))), (qt, .inl (cI, 4, .inl (kA tr2)))] ++ (k_p3 cI gr Pl)) H → va_D A ([(h, .inr (1, [.ref qo, .ref qs, .int (zI ↑n), .int (zI ↑sd), .ref qp, .ref qc, .ref qt, .ref qf, .ref qn, .int (zI ↑lm), .int (zI sf2), .int (zI st2)])), (qs, .inl (cI, 4, .inl (kA se))), (qp, .inl (cG, 4, .inr (.inr (.inr (.inr (fun i => some (gr i))))))), (qc, .inl (cI, 4, .inl (kA pc))), (qt, .inl (cI, 4, .inl (kA tr2)))] ++ (k_p3 cI gr Pl)) → va_S A s.heap H locs → lv_has ls 8 [(0, .ref h), (1, .int (zI ↑sl)), (2, .int (zI lo)), (3, .int (zI hi)), (4, .int (zI ↑i))] → W p l ev (rm_Ph_searchShortest (d + 1)) s m ar below meth c H locs 0 0 Qf (F0 m 22 ls []) := by
        intro k
        induction k with
        | zero =>
          intro i tr2 sf2 st2 hin htr2 hsf2 hst2 hgo H locs ls hP hD hS hl
          have hpz := hpc sl
          refine lv_iload hx hb d_Ph_searchShortest_22 (lv_at hl 4 rfl) ?_
          refine lv_aload_n hx hb d_Ph_searchShortest_24 rfl (lv_at hl 0 rfl) ?_
          refine va_get (D := D) (ci := 1) (v := .ref qc) (C := R_Ph) (T := T_Ph) (N := 12) hx hb hkw kin_Ph hown hK hP 0 rfl rfl 5 (by decide) (hkw _ kw_fieldLink_Ph_31) (fun _ h9 => h9) rfl d_Ph_searchShortest_25 ?_
          refine lv_iload_n hx hb d_Ph_searchShortest_28 rfl (lv_at hl 1 rfl) ?_
          refine k_ald hx hb hK hP 3 0 rfl rfl (i := sl) (by omega) (by omega) (by omega) d_Ph_searchShortest_29 ?_
          have hv_1 := hpc sl
          refine k_icmp_ge (tgt := 106) hx hb d_Ph_searchShortest_30 (by decide) ⟨by omega, by omega⟩ ⟨by omega, by omega⟩ (fun c_30 => ?_) (fun c_30 => ?_)
          · have e9 : sT se pc Pl (d + 1) sl lo hi (tr, sf, st) = (tr2, sf2, st2) := hgo.symm
            replace hP : va_P D k_cl ([(h, .inr (1, [.ref qo, .ref qs, .int (zI ↑n), .int (zI ↑sd), .ref qp, .ref qc, .ref qt, .ref qf, .ref qn, .int (zI ↑lm), .int (zI ((sT se pc Pl (d + 1) sl lo hi (tr, sf, st)).2.1)), .int (zI ((sT se pc Pl (d + 1) sl lo hi (tr, sf, st)).2.2))])), (qs, .inl (cI, 4, .inl (kA se))), (qp, .inl (cG, 4, .inr (.inr (.inr (.inr (fun i => some (gr i))))))), (qc, .inl (cI, 4, .inl (kA pc))), (qt, .inl (cI, 4, .inl (kA ((sT se pc Pl (d + 1) sl lo hi (tr, sf, st)).1))))] ++ k_p3 cI gr Pl) H := by rw [e9]; exact hP
            rw [← hQf]
            exact k_vret hx hb hr hlocks hP hS d_Ph_searchShortest_106
          · exfalso; omega
        | succ k ih_22 =>
          intro i tr2 sf2 st2 hin htr2 hsf2 hst2 hgo H locs ls hP hD hS hl
          have hpz := hpc sl
          have hb1 := hPl sl i
          have hd5 : sl < 4 := by omega
          refine lv_iload hx hb d_Ph_searchShortest_22 (lv_at hl 4 rfl) ?_
          refine lv_aload_n hx hb d_Ph_searchShortest_24 rfl (lv_at hl 0 rfl) ?_
          refine va_get (D := D) (ci := 1) (v := .ref qc) (C := R_Ph) (T := T_Ph) (N := 12) hx hb hkw kin_Ph hown hK hP 0 rfl rfl 5 (by decide) (hkw _ kw_fieldLink_Ph_31) (fun _ h9 => h9) rfl d_Ph_searchShortest_25 ?_
          refine lv_iload_n hx hb d_Ph_searchShortest_28 rfl (lv_at hl 1 rfl) ?_
          refine k_ald hx hb hK hP 3 0 rfl rfl (i := sl) (by omega) (by omega) (by omega) d_Ph_searchShortest_29 ?_
          have hv_2 := hpc sl
          refine k_icmp_ge (tgt := 106) hx hb d_Ph_searchShortest_30 (by decide) ⟨by omega, by omega⟩ ⟨by omega, by omega⟩ (fun c_30 => ?_) (fun c_30 => ?_)
          · exfalso; omega
          · refine lv_aload_n hx hb d_Ph_searchShortest_33 rfl (lv_at hl 0 rfl) ?_
            refine va_get (D := D) (ci := 1) (v := .ref qp) (C := R_Ph) (T := T_Ph) (N := 12) hx hb hkw kin_Ph hown hK hP 0 rfl rfl 4 (by decide) (hkw _ kw_fieldLink_Ph_28) (fun _ h9 => h9) rfl d_Ph_searchShortest_34 ?_
            refine lv_iload_n hx hb d_Ph_searchShortest_37 rfl (lv_at hl 1 rfl) ?_
            refine k_galdA hx hb hK hP 2 2 rfl rfl (i := sl) (by omega) (by omega) (by omega) d_Ph_searchShortest_38 ?_
            refine lv_iload hx hb d_Ph_searchShortest_39 (lv_at hl 4 rfl) ?_
            refine k_ald (i := i) hx hb hK hP (5 + sl) 0 (k_grid rfl (by omega)) rfl (by omega) (by omega) (by omega) d_Ph_searchShortest_41 ?_
            have hv_3 := hPl sl i
            refine lv_istore (lv' := [(5, .int (zI (↑(Pl sl i)))), (0, .ref h), (1, .int (zI ↑sl)), (2, .int (zI lo)), (3, .int (zI hi)), (4, .int (zI ↑i))]) hx hb d_Ph_searchShortest_42 hl (by decide) rfl ?_
            clear hl; intro ls hl
            refine lv_iload_n hx hb d_Ph_searchShortest_44 rfl (lv_at hl 3 rfl) ?_
            refine lv_iload hx hb d_Ph_searchShortest_45 (lv_at hl 0 rfl) ?_
            refine k_min (v := min lo ↑(Pl sl i)) hx hb (hml.trans hl.1.symm) hown (hkw _ kw_methodLink_Ph_83) (hkw _ kw_static_Math_min) (hkw _ kw_initialized_Math) (hkw _ kw_code_Math_min) (by have h9 : (1 : Nat) ≤ (d + 1) + 4 := (by omega); exact h9) (by have h9 : (13 : Nat) ≤ 29 * (d + 1) + 200 := (by omega); exact h9) (Nat.zero_le _) (Nat.zero_le _) d_Ph_searchShortest_47 ⟨by omega, by omega⟩ ⟨by omega, by omega⟩ (by omega) ?_
            refine lv_istore (lv' := [(6, .int (zI (min lo ↑(Pl sl i)))), (5, .int (zI (↑(Pl sl i)))), (0, .ref h), (1, .int (zI ↑sl)), (2, .int (zI lo)), (3, .int (zI hi)), (4, .int (zI ↑i))]) hx hb d_Ph_searchShortest_50 hl (by decide) rfl ?_
            clear hl; intro ls hl
            refine lv_iload_n hx hb d_Ph_searchShortest_52 rfl (lv_at hl 5 rfl) ?_
            refine lv_iload hx hb d_Ph_searchShortest_53 (lv_at hl 1 rfl) ?_
            refine k_max (v := max hi ↑(Pl sl i)) hx hb (hml.trans hl.1.symm) hown (hkw _ kw_methodLink_Ph_89) (hkw _ kw_static_Math_max) (hkw _ kw_initialized_Math) (hkw _ kw_code_Math_max) (by have h9 : (1 : Nat) ≤ (d + 1) + 4 := (by omega); exact h9) (by have h9 : (13 : Nat) ≤ 29 * (d + 1) + 200 := (by omega); exact h9) (Nat.zero_le _) (Nat.zero_le _) d_Ph_searchShortest_55 ⟨by omega, by omega⟩ ⟨by omega, by omega⟩ (by omega) ?_
            refine lv_istore (lv' := [(7, .int (zI (max hi ↑(Pl sl i)))), (6, .int (zI (min lo ↑(Pl sl i)))), (5, .int (zI (↑(Pl sl i)))), (0, .ref h), (1, .int (zI ↑sl)), (2, .int (zI lo)), (3, .int (zI hi)), (4, .int (zI ↑i))]) hx hb d_Ph_searchShortest_58 hl (by decide) rfl ?_
            clear hl; intro ls hl
            refine lv_aload_n hx hb d_Ph_searchShortest_60 rfl (lv_at hl 3 rfl) ?_
            refine lv_iload hx hb d_Ph_searchShortest_61 (lv_at hl 1 rfl) ?_
            refine lv_iload hx hb d_Ph_searchShortest_63 (lv_at hl 0 rfl) ?_
            refine k_beI (va_runV (As := [.int (zI (min lo ↑(Pl sl i))), .int (zI (max hi ↑(Pl sl i)))]) (rest := []) ⟨hx, hb, hml, hown, hkw⟩ (c_Ph_isShorter l D cI cR cG h qo qs qp qc qt qf qn n sd lm sf2 st2 (min lo ↑(Pl sl i)) (max hi ↑(Pl sl i)) (by omega) (by omega) (by omega) (by omega) _) (cwV 2 hkw (k_gV kw_methodLink_Ph_106 kw_instanceMethod_Ph_isShorter kw_selects_Ph_isShorter kw_initialized_Ph kw_code_Ph_isShorter) rfl rfl rfl (by decide +kernel) ⟨(by have h9 : (1 : Nat) ≤ (d + 1) + 4 := (by omega); exact h9), (by have h9 : (24 : Nat) ≤ 29 * (d + 1) + 200 := (by omega); exact h9)⟩) (k_preV (q0 := 0) hK hG hP hD [0] rfl rfl rfl rfl) rfl rfl hl.1 rfl (lv_room (Nat.le_of_ble_eq_true rfl)) d_Ph_searchShortest_65 ⟨Nat.zero_le _, Nat.zero_le _⟩) hP hD hS hA [0] rfl (Eq.trans (b := [h]) rfl rfl) ?_
            clear hP hD hS; intro H locs hP hD hS
            replace hP : va_P D k_cl ([(h, .inr (1, [.ref qo, .ref qs, .int (zI ↑n), .int (zI ↑sd), .ref qp, .ref qc, .ref qt, .ref qf, .ref qn, .int (zI ↑lm), .int (zI sf2), .int (zI st2)])), (qs, .inl (cI, 4, .inl (kA se))), (qp, .inl (cG, 4, .inr (.inr (.inr (.inr (fun i => some (gr i))))))), (qc, .inl (cI, 4, .inl (kA pc))), (qt, .inl (cI, 4, .inl (kA tr2)))] ++ (k_p3 cI gr Pl)) H := hP
            replace hD : va_D A ([(h, .inr (1, [.ref qo, .ref qs, .int (zI ↑n), .int (zI ↑sd), .ref qp, .ref qc, .ref qt, .ref qf, .ref qn, .int (zI ↑lm), .int (zI sf2), .int (zI st2)])), (qs, .inl (cI, 4, .inl (kA se))), (qp, .inl (cG, 4, .inr (.inr (.inr (.inr (fun i => some (gr i))))))), (qc, .inl (cI, 4, .inl (kA pc))), (qt, .inl (cI, 4, .inl (kA tr2)))] ++ (k_p3 cI gr Pl)) := hD
            refine k_bif_eq (tgt := 100) hx hb d_Ph_searchShortest_68 (by decide) (fun c_68 => ?_) (fun c_68 => ?_)
            · refine k_iinc (v := ↑(i + 1)) (lv' := [(4, .int (zI (↑(i + 1)))), (7, .int (zI (max hi ↑(Pl sl i)))), (6, .int (zI (min lo ↑(Pl sl i)))), (5, .int (zI (↑(Pl sl i)))), (0, .ref h), (1, .int (zI ↑sl)), (2, .int (zI lo)), (3, .int (zI hi))]) hx hb d_Ph_searchShortest_100 hl (k := 7) rfl (by omega) (by decide) rfl ?_
              clear hl; intro ls hl
              refine lv_goto (tgt := 22) hx hb d_Ph_searchShortest_103 (by decide) ?_
              exact ih_22 (i + 1) tr2 sf2 st2 (by omega) htr2 hsf2 hst2 (by first | (rw [kLoop, tStep_0 c_68] at hgo; exact hgo) | (rw [kLoop, tStep_1 c_68 c_78] at hgo; exact hgo) | (rw [kLoop, tStep_2 c_68 c_78] at hgo; exact hgo)) _ _ _ hP hD hS (lv_sub hl [4, 5, 6, 7, 0] rfl)
            · refine lv_aload_n hx hb d_Ph_searchShortest_71 rfl (lv_at hl 3 rfl) ?_
              refine lv_iload_n hx hb d_Ph_searchShortest_72 rfl (lv_at hl 4 rfl) ?_
              refine lv_iload hx hb d_Ph_searchShortest_73 (lv_at hl 2 rfl) ?_
              refine k_beI (va_runV (As := [.int (zI ↑sl), .int (zI (↑(Pl sl i)))]) (rest := []) ⟨hx, hb, hml, hown, hkw⟩ (c_Ph_isFree l D cI cR cG h qo qs qp qc qt qf qn n sd lm sf2 st2 se tr2 sl (Pl sl i) (by omega) (by omega) hse htr2 _) (cwV 2 hkw (k_gV kw_methodLink_Ph_96 kw_instanceMethod_Ph_isFree kw_selects_Ph_isFree kw_initialized_Ph kw_code_Ph_isFree) rfl rfl rfl (by decide +kernel) ⟨(by have h9 : (1 : Nat) ≤ (d + 1) + 4 := (by omega); exact h9), (by have h9 : (23 : Nat) ≤ 29 * (d + 1) + 200 := (by omega); exact h9)⟩) (k_preV (q0 := 0) hK hG hP hD [0, 1, 4] rfl rfl rfl rfl) rfl rfl hl.1 rfl (lv_room (Nat.le_of_ble_eq_true rfl)) d_Ph_searchShortest_75 ⟨Nat.zero_le _, Nat.zero_le _⟩) hP hD hS hA [0, 1, 4] rfl (Eq.trans (b := [h, qs, qt]) rfl rfl) ?_
              clear hP hD hS; intro H locs hP hD hS
              replace hP : va_P D k_cl ([(h, .inr (1, [.ref qo, .ref qs, .int (zI ↑n), .int (zI ↑sd), .ref qp, .ref qc, .ref qt, .ref qf, .ref qn, .int (zI ↑lm), .int (zI sf2), .int (zI st2)])), (qs, .inl (cI, 4, .inl (kA se))), (qp, .inl (cG, 4, .inr (.inr (.inr (.inr (fun i => some (gr i))))))), (qc, .inl (cI, 4, .inl (kA pc))), (qt, .inl (cI, 4, .inl (kA tr2)))] ++ (k_p3 cI gr Pl)) H := hP
              replace hD : va_D A ([(h, .inr (1, [.ref qo, .ref qs, .int (zI ↑n), .int (zI ↑sd), .ref qp, .ref qc, .ref qt, .ref qf, .ref qn, .int (zI ↑lm), .int (zI sf2), .int (zI st2)])), (qs, .inl (cI, 4, .inl (kA se))), (qp, .inl (cG, 4, .inr (.inr (.inr (.inr (fun i => some (gr i))))))), (qc, .inl (cI, 4, .inl (kA pc))), (qt, .inl (cI, 4, .inl (kA tr2)))] ++ (k_p3 cI gr Pl)) := hD
              refine k_bif_eq (tgt := 100) hx hb d_Ph_searchShortest_78 (by decide) (fun c_78 => ?_) (fun c_78 => ?_)
              · refine k_iinc (v := ↑(i + 1)) (lv' := [(4, .int (zI (↑(i + 1)))), (7, .int (zI (max hi ↑(Pl sl i)))), (6, .int (zI (min lo ↑(Pl sl i)))), (5, .int (zI (↑(Pl sl i)))), (0, .ref h), (1, .int (zI ↑sl)), (2, .int (zI lo)), (3, .int (zI hi))]) hx hb d_Ph_searchShortest_100 hl (k := 7) rfl (by omega) (by decide) rfl ?_
                clear hl; intro ls hl
                refine lv_goto (tgt := 22) hx hb d_Ph_searchShortest_103 (by decide) ?_
                exact ih_22 (i + 1) tr2 sf2 st2 (by omega) htr2 hsf2 hst2 (by first | (rw [kLoop, tStep_0 c_68] at hgo; exact hgo) | (rw [kLoop, tStep_1 c_68 c_78] at hgo; exact hgo) | (rw [kLoop, tStep_2 c_68 c_78] at hgo; exact hgo)) _ _ _ hP hD hS (lv_sub hl [4, 5, 6, 7, 0] rfl)
              · refine lv_aload_n hx hb d_Ph_searchShortest_81 rfl (lv_at hl 3 rfl) ?_
                refine va_get (D := D) (ci := 1) (v := .ref qt) (C := R_Ph) (T := T_Ph) (N := 12) hx hb hkw kin_Ph hown hK hP 0 rfl rfl 6 (by decide) (hkw _ kw_fieldLink_Ph_34) (fun _ h9 => h9) rfl d_Ph_searchShortest_82 ?_
                refine lv_iload_n hx hb d_Ph_searchShortest_85 rfl (lv_at hl 4 rfl) ?_
                refine lv_iload hx hb d_Ph_searchShortest_86 (lv_at hl 2 rfl) ?_
                refine k_ast hx hb hK hP hD hS 4 0 rfl rfl (i := sl) (v := (Pl sl i)) (by omega) (by omega) (by omega) (by omega) d_Ph_searchShortest_88 ?_
                clear hP hD hS; intro H locs hP hD hS
                replace hP : va_P D k_cl ([(h, .inr (1, [.ref qo, .ref qs, .int (zI ↑n), .int (zI ↑sd), .ref qp, .ref qc, .ref qt, .ref qf, .ref qn, .int (zI ↑lm), .int (zI sf2), .int (zI st2)])), (qs, .inl (cI, 4, .inl (kA se))), (qp, .inl (cG, 4, .inr (.inr (.inr (.inr (fun i => some (gr i))))))), (qc, .inl (cI, 4, .inl (kA pc))), (qt, .inl (cI, 4, .inl (kA (va_up tr2 sl (Pl sl i)))))] ++ (k_p3 cI gr Pl)) H := hP
                replace hD : va_D A ([(h, .inr (1, [.ref qo, .ref qs, .int (zI ↑n), .int (zI ↑sd), .ref qp, .ref qc, .ref qt, .ref qf, .ref qn, .int (zI ↑lm), .int (zI sf2), .int (zI st2)])), (qs, .inl (cI, 4, .inl (kA se))), (qp, .inl (cG, 4, .inr (.inr (.inr (.inr (fun i => some (gr i))))))), (qc, .inl (cI, 4, .inl (kA pc))), (qt, .inl (cI, 4, .inl (kA (va_up tr2 sl (Pl sl i)))))] ++ (k_p3 cI gr Pl)) := hD
                refine lv_aload_n hx hb d_Ph_searchShortest_89 rfl (lv_at hl 3 rfl) ?_
                refine lv_iload_n hx hb d_Ph_searchShortest_90 rfl (lv_at hl 4 rfl) ?_
                refine lv_iconst (v := zI 1) hx hb d_Ph_searchShortest_91 (by decide) ?_
                refine k_iadd (v := ↑(sl + 1)) hx hb d_Ph_searchShortest_92 (by omega) ?_
                refine lv_iload hx hb d_Ph_searchShortest_93 (lv_at hl 1 rfl) ?_
                refine lv_iload hx hb d_Ph_searchShortest_95 (lv_at hl 0 rfl) ?_
                have hbS := sT_bd (se := se) (pc := pc) hPl d (sl + 1) (min lo ↑(Pl sl i)) (max hi ↑(Pl sl i)) (va_up tr2 sl (Pl sl i), sf2, st2) (by omega) (by omega) ⟨k_upB htr2 hb1, hsf2, hst2⟩
                refine k_beVT (nx := [(h, .inr (1, [.ref qo, .ref qs, .int (zI ↑n), .int (zI ↑sd), .ref qp, .ref qc, .ref qt, .ref qf, .ref qn, .int (zI ↑lm), .int (zI ((sT se pc Pl d (sl + 1) (min lo ↑(Pl sl i)) (max hi ↑(Pl sl i)) (va_up tr2 sl (Pl sl i), sf2, st2)).2.1)), .int (zI ((sT se pc Pl d (sl + 1) (min lo ↑(Pl sl i)) (max hi ↑(Pl sl i)) (va_up tr2 sl (Pl sl i), sf2, st2)).2.2))])), (qs, .inl (cI, 4, .inl (kA se))), (qp, .inl (cG, 4, .inr (.inr (.inr (.inr (fun i => some (gr i))))))), (qc, .inl (cI, 4, .inl (kA pc))), (qt, .inl (cI, 4, .inl (kA ((sT se pc Pl d (sl + 1) (min lo ↑(Pl sl i)) (max hi ↑(Pl sl i)) (va_up tr2 sl (Pl sl i), sf2, st2)).1))))]) (tn := k_p3 cI gr Pl) (T1 := k_p3 cI gr Pl) (va_runV (As := [.int (zI ↑(sl + 1)), .int (zI (min lo ↑(Pl sl i))), .int (zI (max hi ↑(Pl sl i)))]) (rest := []) ⟨hx, hb, hml, hown, hkw⟩ (ih (sl + 1) (min lo ↑(Pl sl i)) (max hi ↑(Pl sl i)) (va_up tr2 sl (Pl sl i)) sf2 st2 (by omega) (by omega) (by omega) (k_upB htr2 hb1) hsf2 hst2 _) (cwV 3 hkw (k_gV kw_methodLink_Ph_75 kw_instanceMethod_Ph_searchShortest kw_selects_Ph_searchShortest kw_initialized_Ph kw_code_Ph_searchShortest) rfl rfl rfl (by decide +kernel) ⟨(by have h9 : d + 4 + 1 ≤ d + 1 + 4 := (by omega); exact h9), (by have h9 : 8 + (8 + 11) + (29 * d + 200) ≤ 29 * (d + 1) + 200 := (by omega); exact h9)⟩) (k_preVT (px := [(h, .inr (1, [.ref qo, .ref qs, .int (zI ↑n), .int (zI ↑sd), .ref qp, .ref qc, .ref qt, .ref qf, .ref qn, .int (zI ↑lm), .int (zI sf2), .int (zI st2)])), (qs, .inl (cI, 4, .inl (kA se))), (qp, .inl (cG, 4, .inr (.inr (.inr (.inr (fun i => some (gr i))))))), (qc, .inl (cI, 4, .inl (kA pc))), (qt, .inl (cI, 4, .inl (kA (va_up tr2 sl (Pl sl i)))))]) (tc := k_p3 cI gr Pl) (q0 := 0) hK hG hP hD [0, 1, 2, 3, 4] rfl rfl (fun _ h => h) ((k_D_right hD).weaken (fun _ _ _ _ => trivial)) rfl rfl) rfl rfl hl.1 rfl (lv_room (Nat.le_of_ble_eq_true rfl)) d_Ph_searchShortest_97 ⟨Nat.zero_le _, Nat.zero_le _⟩) hP hD hS hA [0, 1, 2, 3, 4] rfl (Eq.trans (b := [h, qs, qp, qc, qt]) rfl rfl) (fun _ h => h) rfl (fun _ h => Or.inl h) ?_
                clear hP hD hS; intro H locs hP hD hS
                replace hP : va_P D k_cl ([(h, .inr (1, [.ref qo, .ref qs, .int (zI ↑n), .int (zI ↑sd), .ref qp, .ref qc, .ref qt, .ref qf, .ref qn, .int (zI ↑lm), .int (zI ((sT se pc Pl d (sl + 1) (min lo ↑(Pl sl i)) (max hi ↑(Pl sl i)) (va_up tr2 sl (Pl sl i), sf2, st2)).2.1)), .int (zI ((sT se pc Pl d (sl + 1) (min lo ↑(Pl sl i)) (max hi ↑(Pl sl i)) (va_up tr2 sl (Pl sl i), sf2, st2)).2.2))])), (qs, .inl (cI, 4, .inl (kA se))), (qp, .inl (cG, 4, .inr (.inr (.inr (.inr (fun i => some (gr i))))))), (qc, .inl (cI, 4, .inl (kA pc))), (qt, .inl (cI, 4, .inl (kA ((sT se pc Pl d (sl + 1) (min lo ↑(Pl sl i)) (max hi ↑(Pl sl i)) (va_up tr2 sl (Pl sl i), sf2, st2)).1))))] ++ (k_p3 cI gr Pl)) H := hP
                replace hD : va_D A ([(h, .inr (1, [.ref qo, .ref qs, .int (zI ↑n), .int (zI ↑sd), .ref qp, .ref qc, .ref qt, .ref qf, .ref qn, .int (zI ↑lm), .int (zI ((sT se pc Pl d (sl + 1) (min lo ↑(Pl sl i)) (max hi ↑(Pl sl i)) (va_up tr2 sl (Pl sl i), sf2, st2)).2.1)), .int (zI ((sT se pc Pl d (sl + 1) (min lo ↑(Pl sl i)) (max hi ↑(Pl sl i)) (va_up tr2 sl (Pl sl i), sf2, st2)).2.2))])), (qs, .inl (cI, 4, .inl (kA se))), (qp, .inl (cG, 4, .inr (.inr (.inr (.inr (fun i => some (gr i))))))), (qc, .inl (cI, 4, .inl (kA pc))), (qt, .inl (cI, 4, .inl (kA ((sT se pc Pl d (sl + 1) (min lo ↑(Pl sl i)) (max hi ↑(Pl sl i)) (va_up tr2 sl (Pl sl i), sf2, st2)).1))))] ++ (k_p3 cI gr Pl)) := hD
                refine k_iinc (v := ↑(i + 1)) (lv' := [(4, .int (zI (↑(i + 1)))), (7, .int (zI (max hi ↑(Pl sl i)))), (6, .int (zI (min lo ↑(Pl sl i)))), (5, .int (zI (↑(Pl sl i)))), (0, .ref h), (1, .int (zI ↑sl)), (2, .int (zI lo)), (3, .int (zI hi))]) hx hb d_Ph_searchShortest_100 hl (k := 7) rfl (by omega) (by decide) rfl ?_
                clear hl; intro ls hl
                refine lv_goto (tgt := 22) hx hb d_Ph_searchShortest_103 (by decide) ?_
                exact ih_22 (i + 1) ((sT se pc Pl d (sl + 1) (min lo ↑(Pl sl i)) (max hi ↑(Pl sl i)) (va_up tr2 sl (Pl sl i), sf2, st2)).1) ((sT se pc Pl d (sl + 1) (min lo ↑(Pl sl i)) (max hi ↑(Pl sl i)) (va_up tr2 sl (Pl sl i), sf2, st2)).2.1) ((sT se pc Pl d (sl + 1) (min lo ↑(Pl sl i)) (max hi ↑(Pl sl i)) (va_up tr2 sl (Pl sl i), sf2, st2)).2.2) (by omega) hbS.1 hbS.2.1 hbS.2.2 (by first | (rw [kLoop, tStep_0 c_68] at hgo; exact hgo) | (rw [kLoop, tStep_1 c_68 c_78] at hgo; exact hgo) | (rw [kLoop, tStep_2 c_68 c_78] at hgo; exact hgo)) _ _ _ hP hD hS (lv_sub hl [4, 5, 6, 7, 0] rfl)
      exact loop_22 (pc sl) 0 tr sf st (by omega) htr hsf hst rfl _ _ _ hP hD hS (lv_sub hl [1, 2, 3, 4, 0] rfl)
    · exfalso; omega
end
section
/-- what settle leaves: places of each slot, tried, first choice, counts, least, shortest -/
abbrev SET : Type := (Nat → Nat) × (Nat → Nat → Nat) × (Nat → Nat) × (Nat → Nat) × (Nat → Nat) × Nat × Int × Int
def setGo (np : Nat) (t of se : Nat → Nat) (Z : SET) : SET :=
  ((fAll t se np 0 Z.1 Z.2.1).1, (fAll t se np 0 Z.1 Z.2.1).2,
   (sT se (fAll t se np 0 Z.1 Z.2.1).1 (fAll t se np 0 Z.1 Z.2.1).2 np 0 30 (-1) ((sM of se (fAll t se np 0 Z.1 Z.2.1).1 (fAll t se np 0 Z.1 Z.2.1).2 np 0 0 (-9) 29 (Z.2.2.1, Z.2.2.2.1, fun _ => 0, 77)).1, 0, 30)).1,
   (sM of se (fAll t se np 0 Z.1 Z.2.1).1 (fAll t se np 0 Z.1 Z.2.1).2 np 0 0 (-9) 29 (Z.2.2.1, Z.2.2.2.1, fun _ => 0, 77)).2.1,
   (sM of se (fAll t se np 0 Z.1 Z.2.1).1 (fAll t se np 0 Z.1 Z.2.1).2 np 0 0 (-9) 29 (Z.2.2.1, Z.2.2.2.1, fun _ => 0, 77)).2.2.1,
   (sM of se (fAll t se np 0 Z.1 Z.2.1).1 (fAll t se np 0 Z.1 Z.2.1).2 np 0 0 (-9) 29 (Z.2.2.1, Z.2.2.2.1, fun _ => 0, 77)).2.2.2,
   (sT se (fAll t se np 0 Z.1 Z.2.1).1 (fAll t se np 0 Z.1 Z.2.1).2 np 0 30 (-1) ((sM of se (fAll t se np 0 Z.1 Z.2.1).1 (fAll t se np 0 Z.1 Z.2.1).2 np 0 0 (-9) 29 (Z.2.2.1, Z.2.2.2.1, fun _ => 0, 77)).1, 0, 30)).2.1,
   (sT se (fAll t se np 0 Z.1 Z.2.1).1 (fAll t se np 0 Z.1 Z.2.1).2 np 0 30 (-1) ((sM of se (fAll t se np 0 Z.1 Z.2.1).1 (fAll t se np 0 Z.1 Z.2.1).2 np 0 0 (-9) 29 (Z.2.2.1, Z.2.2.2.1, fun _ => 0, 77)).1, 0, 30)).2.2)
def settleF (sd np : Nat) (t of se : Nat → Nat) (Z : SET) : SET :=
  if sd ≠ 0 then Z else if np = 0 then (Z.1, Z.2.1, Z.2.2.1, Z.2.2.2.1, fun _ => 0, 77, 0, 30) else setGo np t of se Z
/-- what holds of these numbers at any time -/
def setOK (Z : SET) : Prop := (∀ j, Z.1 j ≤ 30) ∧ (∀ j i, Z.2.1 j i ≤ 30) ∧ (∀ j, Z.2.2.1 j ≤ 30) ∧ Z.2.2.2.2.2.1 ≤ 77 ∧ (-1 ≤ Z.2.2.2.2.2.2.1 ∧ Z.2.2.2.2.2.2.1 ≤ 30) ∧ (-1 ≤ Z.2.2.2.2.2.2.2 ∧ Z.2.2.2.2.2.2.2 ≤ 30)
theorem settleF_ok {sd np : Nat} {t of se : Nat → Nat} {Z : SET} (h : setOK Z) : setOK (settleF sd np t of se Z) := by
  unfold settleF
  repeat' split
  · exact h
  · exact ⟨h.1, h.2.1, h.2.2.1, by dsimp only; omega, by dsimp only; omega, by dsimp only; omega⟩
  · have h1 := fAll_bd (t := t) (se := se) np 0 Z.1 Z.2.1 ⟨h.1, h.2.1⟩
    have h2 := sM_bd (of := of) (se := se) (pc := (fAll t se np 0 Z.1 Z.2.1).1) h1.2 np 0 0 (-9) 29 (Z.2.2.1, Z.2.2.2.1, fun _ => 0, 77) ⟨h.2.2.1, by dsimp only; omega⟩
    have h3 := sT_bd (se := se) (pc := (fAll t se np 0 Z.1 Z.2.1).1) h1.2 np 0 30 (-1) ((sM of se (fAll t se np 0 Z.1 Z.2.1).1 (fAll t se np 0 Z.1 Z.2.1).2 np 0 0 (-9) 29 (Z.2.2.1, Z.2.2.2.1, fun _ => 0, 77)).1, 0, 30) (by omega) (by omega) ⟨h2.1, by dsimp only; omega, by dsimp only; omega⟩
    exact ⟨h1.1, h1.2, h3.1, h2.2, h3.2.1, h3.2.2⟩
/-- the answer of ask -/
def askR (n : Nat) (kind a b k : Int) : Int :=
  if ¬ (0 ≤ kind ∧ kind ≤ 10) then -2 else
  if (kind ≠ 1 ∧ kind ≠ 5 ∧ kind ≠ 6 ∧ kind ≠ 7) ∧ ¬ (0 ≤ k ∧ (kind = 0 ∧ k < 10 ∨ kind ≠ 0 ∧ k ≤ 30)) then -2 else
  if kind ≠ 0 ∧ ¬ (0 ≤ a ∧ a < n) then -1 else
  if (1 ≤ kind ∧ kind ≤ 8) ∧ ¬ (0 ≤ b ∧ b < n) then -1 else
  if n = 30 then -4 else n
def cFil (t : Nat → Nat) : Nat → Nat → Nat → Nat
  | 0, _, acc => acc
  | k + 1, i, acc => if t i ≠ 0 then cFil t k (i + 1) (acc + 1) else cFil t k (i + 1) acc
end
section
abbrev rm_Ph_settle : Room := { frames := 12, cells := 0, slots := 0, locals := 600 }
set_option maxHeartbeats 4000000 in
set_option maxRecDepth 100000 in
theorem c_Ph_settle_done (l : Launch) (D : va_G) (cI cR cG : ClassId) (tx h qo qs qp qc qt qf qn n sd lm : Nat) (sf st : Int) (gr t of se pc tr fc cn : Nat → Nat) (Pl : Nat → Nat → Nat) (hsd : sd = 1) : k_M l y_Ph_settle (.code y_Ph_settle b_Ph_settle 2 none :: kW) rm_Ph_settle D k_cl (k_ty cI cR cG) [.ref h, .ref tx] ([(tx, .inl (cI, 30, .inl (kA t))), (h, .inr (1, [.ref qo, .ref qs, .int (zI ↑n), .int (zI ↑sd), .ref qp, .ref qc, .ref qt, .ref qf, .ref qn, .int (zI ↑lm), .int (zI sf), .int (zI st)])), (qo, .inl (cI, 4, .inl (kA of))), (qs, .inl (cI, 4, .inl (kA se))), (qp, .inl (cG, 4, .inr (.inr (.inr (.inr (fun i => some (gr i))))))), (qc, .inl (cI, 4, .inl (kA pc))), (qt, .inl (cI, 4, .inl (kA tr))), (qf, .inl (cI, 4, .inl (kA fc))), (qn, .inl (cI, 77, .inl (kA cn)))] ++ (k_p3 cI gr Pl)) (k_Qv D k_cl ([(tx, .inl (cI, 30, .inl (kA t))), (h, .inr (1, [.ref qo, .ref qs, .int (zI ↑n), .int (zI ↑sd), .ref qp, .ref qc, .ref qt, .ref qf, .ref qn, .int (zI ↑lm), .int (zI sf), .int (zI st)])), (qo, .inl (cI, 4, .inl (kA of))), (qs, .inl (cI, 4, .inl (kA se))), (qp, .inl (cG, 4, .inr (.inr (.inr (.inr (fun i => some (gr i))))))), (qc, .inl (cI, 4, .inl (kA pc))), (qt, .inl (cI, 4, .inl (kA tr))), (qf, .inl (cI, 4, .inl (kA fc))), (qn, .inl (cI, 77, .inl (kA cn)))] ++ k_p3 cI gr Pl)) := by
  refine k_start (cc := b_Ph_settle) (maxL := 2) (ret := none) (by decide) rfl (Nat.le_of_ble_eq_true rfl) ?_
  intro p ev s m ar below meth c A ls Qf hQf hx hb hr hml hts hown hlocks hin hK hG hA hP hD hS hl
  replace hown : s.vm.findClass R_Ph = some m.cls := hown
  replace hl : lv_has ls 2 [(0, .ref h), (1, .ref tx)] := hl
  have hkw : ∀ w ∈ kW, w.before ar s = true := fun w h => hts w (List.mem_cons_of_mem _ h)
  replace hP : va_P D k_cl ([(tx, .inl (cI, 30, .inl (kA t))), (h, .inr (1, [.ref qo, .ref qs, .int (zI ↑n), .int (zI ↑sd), .ref qp, .ref qc, .ref qt, .ref qf, .ref qn, .int (zI ↑lm), .int (zI sf), .int (zI st)])), (qo, .inl (cI, 4, .inl (kA of))), (qs, .inl (cI, 4, .inl (kA se))), (qp, .inl (cG, 4, .inr (.inr (.inr (.inr (fun i => some (gr i))))))), (qc, .inl (cI, 4, .inl (kA pc))), (qt, .inl (cI, 4, .inl (kA tr))), (qf, .inl (cI, 4, .inl (kA fc))), (qn, .inl (cI, 77, .inl (kA cn)))] ++ (k_p3 cI gr Pl)) s.heap := hP
  replace hD : va_D A ([(tx, .inl (cI, 30, .inl (kA t))), (h, .inr (1, [.ref qo, .ref qs, .int (zI ↑n), .int (zI ↑sd), .ref qp, .ref qc, .ref qt, .ref qf, .ref qn, .int (zI ↑lm), .int (zI sf), .int (zI st)])), (qo, .inl (cI, 4, .inl (kA of))), (qs, .inl (cI, 4, .inl (kA se))), (qp, .inl (cG, 4, .inr (.inr (.inr (.inr (fun i => some (gr i))))))), (qc, .inl (cI, 4, .inl (kA pc))), (qt, .inl (cI, 4, .inl (kA tr))), (qf, .inl (cI, 4, .inl (kA fc))), (qn, .inl (cI, 77, .inl (kA cn)))] ++ (k_p3 cI gr Pl)) := hD
  refine lv_aload_n hx hb d_Ph_settle_0 rfl (lv_at hl 0 rfl) ?_
  refine va_get (D := D) (ci := 1) (v := .int (zI ↑sd)) (C := R_Ph) (T := T_Ph) (N := 12) hx hb hkw kin_Ph hown hK hP 1 rfl rfl 3 (by decide) (hkw _ kw_fieldLink_Ph_22) (fun _ h9 => h9) rfl d_Ph_settle_1 ?_
  refine k_if_eq (tgt := 8) hx hb d_Ph_settle_4 (by decide) ⟨by omega, by omega⟩ (fun c_4 => ?_) (fun c_4 => ?_)
  · exfalso; omega
  · rw [← hQf]
    exact k_vret hx hb hr hlocks hP hS d_Ph_settle_7

set_option maxHeartbeats 4000000 in
set_option maxRecDepth 100000 in
theorem c_Ph_settle_none (l : Launch) (D : va_G) (cI cR cG : ClassId) (tx h qo qs qp qc qt qf qn n sd lm : Nat) (sf st : Int) (gr t of se pc tr fc cn : Nat → Nat) (Pl : Nat → Nat → Nat) (hsd : sd = 0) (hn : n = 0) : k_M l y_Ph_settle (.code y_Ph_settle b_Ph_settle 2 none :: kW) rm_Ph_settle D k_cl (k_ty cI cR cG) [.ref h, .ref tx] ([(tx, .inl (cI, 30, .inl (kA t))), (h, .inr (1, [.ref qo, .ref qs, .int (zI ↑n), .int (zI ↑sd), .ref qp, .ref qc, .ref qt, .ref qf, .ref qn, .int (zI ↑lm), .int (zI sf), .int (zI st)])), (qo, .inl (cI, 4, .inl (kA of))), (qs, .inl (cI, 4, .inl (kA se))), (qp, .inl (cG, 4, .inr (.inr (.inr (.inr (fun i => some (gr i))))))), (qc, .inl (cI, 4, .inl (kA pc))), (qt, .inl (cI, 4, .inl (kA tr))), (qf, .inl (cI, 4, .inl (kA fc))), (qn, .inl (cI, 77, .inl (kA cn)))] ++ (k_p3 cI gr Pl)) (k_Qv D k_cl ([(tx, .inl (cI, 30, .inl (kA t))), (h, .inr (1, [.ref qo, .ref qs, .int (zI ↑n), .int (zI 1), .ref qp, .ref qc, .ref qt, .ref qf, .ref qn, .int (zI 77), .int (zI 0), .int (zI 30)])), (qo, .inl (cI, 4, .inl (kA of))), (qs, .inl (cI, 4, .inl (kA se))), (qp, .inl (cG, 4, .inr (.inr (.inr (.inr (fun i => some (gr i))))))), (qc, .inl (cI, 4, .inl (kA pc))), (qt, .inl (cI, 4, .inl (kA tr))), (qf, .inl (cI, 4, .inl (kA fc))), (qn, .inl (cI, 77, .inl (kA (fun _ => 0))))] ++ k_p3 cI gr Pl)) := by
  refine k_start (cc := b_Ph_settle) (maxL := 2) (ret := none) (by decide) rfl (Nat.le_of_ble_eq_true rfl) ?_
  intro p ev s m ar below meth c A ls Qf hQf hx hb hr hml hts hown hlocks hin hK hG hA hP hD hS hl
  replace hown : s.vm.findClass R_Ph = some m.cls := hown
  replace hl : lv_has ls 2 [(0, .ref h), (1, .ref tx)] := hl
  have hkw : ∀ w ∈ kW, w.before ar s = true := fun w h => hts w (List.mem_cons_of_mem _ h)
  replace hP : va_P D k_cl ([(tx, .inl (cI, 30, .inl (kA t))), (h, .inr (1, [.ref qo, .ref qs, .int (zI ↑n), .int (zI ↑sd), .ref qp, .ref qc, .ref qt, .ref qf, .ref qn, .int (zI ↑lm), .int (zI sf), .int (zI st)])), (qo, .inl (cI, 4, .inl (kA of))), (qs, .inl (cI, 4, .inl (kA se))), (qp, .inl (cG, 4, .inr (.inr (.inr (.inr (fun i => some (gr i))))))), (qc, .inl (cI, 4, .inl (kA pc))), (qt, .inl (cI, 4, .inl (kA tr))), (qf, .inl (cI, 4, .inl (kA fc))), (qn, .inl (cI, 77, .inl (kA cn)))] ++ (k_p3 cI gr Pl)) s.heap := hP
  replace hD : va_D A ([(tx, .inl (cI, 30, .inl (kA t))), (h, .inr (1, [.ref qo, .ref qs, .int (zI ↑n), .int (zI ↑sd), .ref qp, .ref qc, .ref qt, .ref qf, .ref qn, .int (zI ↑lm), .int (zI sf), .int (zI st)])), (qo, .inl (cI, 4, .inl (kA of))), (qs, .inl (cI, 4, .inl (kA se))), (qp, .inl (cG, 4, .inr (.inr (.inr (.inr (fun i => some (gr i))))))), (qc, .inl (cI, 4, .inl (kA pc))), (qt, .inl (cI, 4, .inl (kA tr))), (qf, .inl (cI, 4, .inl (kA fc))), (qn, .inl (cI, 77, .inl (kA cn)))] ++ (k_p3 cI gr Pl)) := hD
  refine lv_aload_n hx hb d_Ph_settle_0 rfl (lv_at hl 0 rfl) ?_
  refine va_get (D := D) (ci := 1) (v := .int (zI ↑sd)) (C := R_Ph) (T := T_Ph) (N := 12) hx hb hkw kin_Ph hown hK hP 1 rfl rfl 3 (by decide) (hkw _ kw_fieldLink_Ph_22) (fun _ h9 => h9) rfl d_Ph_settle_1 ?_
  refine k_if_eq (tgt := 8) hx hb d_Ph_settle_4 (by decide) ⟨by omega, by omega⟩ (fun c_4 => ?_) (fun c_4 => ?_)
  · refine lv_aload_n hx hb d_Ph_settle_8 rfl (lv_at hl 0 rfl) ?_
    refine va_get (D := D) (ci := 1) (v := .ref qn) (C := R_Ph) (T := T_Ph) (N := 12) hx hb hkw kin_Ph hown hK hP 1 rfl rfl 8 (by decide) (hkw _ kw_fieldLink_Ph_40) (fun _ h9 => h9) rfl d_Ph_settle_9 ?_
    refine lv_iconst (v := zI 0) hx hb d_Ph_settle_12 (by decide) ?_
    refine k_beV (va_runS (As := [.ref qn, .int (zI 0)]) (rest := []) ⟨hx, hb, hml, hown, hkw⟩ (c_Ja_fill l D cI cR cG qn 77 0 cn (by decide) _) (va_cwS 2 hkw (k_gS kw_methodLink_Ph_61 kw_static_Arrays_fill kw_initialized_Arrays kw_code_Arrays_fill) rfl rfl rfl (by decide +kernel) ⟨(Nat.le_of_ble_eq_true rfl), (Nat.le_of_ble_eq_true rfl)⟩) (k_preS hK hG hP hD [8] rfl rfl) rfl rfl hl.1 rfl (lv_room (Nat.le_of_ble_eq_true rfl)) d_Ph_settle_13 ⟨Nat.zero_le _, Nat.zero_le _⟩) hP hD hS hA [8] rfl (Eq.trans (b := [qn]) rfl rfl) ?_
    clear hP hD hS; intro H locs hP hD hS
    replace hP : va_P D k_cl ([(tx, .inl (cI, 30, .inl (kA t))), (h, .inr (1, [.ref qo, .ref qs, .int (zI ↑n), .int (zI ↑sd), .ref qp, .ref qc, .ref qt, .ref qf, .ref qn, .int (zI ↑lm), .int (zI sf), .int (zI st)])), (qo, .inl (cI, 4, .inl (kA of))), (qs, .inl (cI, 4, .inl (kA se))), (qp, .inl (cG, 4, .inr (.inr (.inr (.inr (fun i => some (gr i))))))), (qc, .inl (cI, 4, .inl (kA pc))), (qt, .inl (cI, 4, .inl (kA tr))), (qf, .inl (cI, 4, .inl (kA fc))), (qn, .inl (cI, 77, .inl (kA (fun _ => 0))))] ++ (k_p3 cI gr Pl)) H := hP
    replace hD : va_D A ([(tx, .inl (cI, 30, .inl (kA t))), (h, .inr (1, [.ref qo, .ref qs, .int (zI ↑n), .int (zI ↑sd), .ref qp, .ref qc, .ref qt, .ref qf, .ref qn, .int (zI ↑lm), .int (zI sf), .int (zI st)])), (qo, .inl (cI, 4, .inl (kA of))), (qs, .inl (cI, 4, .inl (kA se))), (qp, .inl (cG, 4, .inr (.inr (.inr (.inr (fun i => some (gr i))))))), (qc, .inl (cI, 4, .inl (kA pc))), (qt, .inl (cI, 4, .inl (kA tr))), (qf, .inl (cI, 4, .inl (kA fc))), (qn, .inl (cI, 77, .inl (kA (fun _ => 0))))] ++ (k_p3 cI gr Pl)) := hD
    refine lv_aload_n hx hb d_Ph_settle_16 rfl (lv_at hl 0 rfl) ?_
    refine lv_bipush (v := zI 77) hx hb d_Ph_settle_17 (by decide) ?_
    refine va_put (D := D) (ci := 1) (v := .int (zI 77)) (ty := .int) (C := R_Ph) (T := T_Ph) (N := 12) hx hb hkw kin_Ph ty_Ph ty_Ph_ok nm_Ph hown hK hP hD hS 1 rfl rfl 9 (by decide) (hkw _ kw_fieldLink_Ph_43) (fun _ h9 => h9) rfl (by decide +kernel) rfl rfl (Nat.le_of_ble_eq_true rfl) d_Ph_settle_19 ?_
    clear hP hD hS; intro H locs hP hD hS
    replace hP : va_P D k_cl ([(tx, .inl (cI, 30, .inl (kA t))), (h, .inr (1, [.ref qo, .ref qs, .int (zI ↑n), .int (zI ↑sd), .ref qp, .ref qc, .ref qt, .ref qf, .ref qn, .int (zI 77), .int (zI sf), .int (zI st)])), (qo, .inl (cI, 4, .inl (kA of))), (qs, .inl (cI, 4, .inl (kA se))), (qp, .inl (cG, 4, .inr (.inr (.inr (.inr (fun i => some (gr i))))))), (qc, .inl (cI, 4, .inl (kA pc))), (qt, .inl (cI, 4, .inl (kA tr))), (qf, .inl (cI, 4, .inl (kA fc))), (qn, .inl (cI, 77, .inl (kA (fun _ => 0))))] ++ (k_p3 cI gr Pl)) H := hP
    replace hD : va_D A ([(tx, .inl (cI, 30, .inl (kA t))), (h, .inr (1, [.ref qo, .ref qs, .int (zI ↑n), .int (zI ↑sd), .ref qp, .ref qc, .ref qt, .ref qf, .ref qn, .int (zI 77), .int (zI sf), .int (zI st)])), (qo, .inl (cI, 4, .inl (kA of))), (qs, .inl (cI, 4, .inl (kA se))), (qp, .inl (cG, 4, .inr (.inr (.inr (.inr (fun i => some (gr i))))))), (qc, .inl (cI, 4, .inl (kA pc))), (qt, .inl (cI, 4, .inl (kA tr))), (qf, .inl (cI, 4, .inl (kA fc))), (qn, .inl (cI, 77, .inl (kA (fun _ => 0))))] ++ (k_p3 cI gr Pl)) := hD
    refine lv_aload_n hx hb d_Ph_settle_22 rfl (lv_at hl 0 rfl) ?_
    refine lv_iconst (v := zI 0) hx hb d_Ph_settle_23 (by decide) ?_
    refine va_put (D := D) (ci := 1) (v := .int (zI 0)) (ty := .int) (C := R_Ph) (T := T_Ph) (N := 12) hx hb hkw kin_Ph ty_Ph ty_Ph_ok nm_Ph hown hK hP hD hS 1 rfl rfl 10 (by decide) (hkw _ kw_fieldLink_Ph_46) (fun _ h9 => h9) rfl (by decide +kernel) rfl rfl (Nat.le_of_ble_eq_true rfl) d_Ph_settle_24 ?_
    clear hP hD hS; intro H locs hP hD hS
    replace hP : va_P D k_cl ([(tx, .inl (cI, 30, .inl (kA t))), (h, .inr (1, [.ref qo, .ref qs, .int (zI ↑n), .int (zI ↑sd), .ref qp, .ref qc, .ref qt, .ref qf, .ref qn, .int (zI 77), .int (zI 0), .int (zI st)])), (qo, .inl (cI, 4, .inl (kA of))), (qs, .inl (cI, 4, .inl (kA se))), (qp, .inl (cG, 4, .inr (.inr (.inr (.inr (fun i => some (gr i))))))), (qc, .inl (cI, 4, .inl (kA pc))), (qt, .inl (cI, 4, .inl (kA tr))), (qf, .inl (cI, 4, .inl (kA fc))), (qn, .inl (cI, 77, .inl (kA (fun _ => 0))))] ++ (k_p3 cI gr Pl)) H := hP
    replace hD : va_D A ([(tx, .inl (cI, 30, .inl (kA t))), (h, .inr (1, [.ref qo, .ref qs, .int (zI ↑n), .int (zI ↑sd), .ref qp, .ref qc, .ref qt, .ref qf, .ref qn, .int (zI 77), .int (zI 0), .int (zI st)])), (qo, .inl (cI, 4, .inl (kA of))), (qs, .inl (cI, 4, .inl (kA se))), (qp, .inl (cG, 4, .inr (.inr (.inr (.inr (fun i => some (gr i))))))), (qc, .inl (cI, 4, .inl (kA pc))), (qt, .inl (cI, 4, .inl (kA tr))), (qf, .inl (cI, 4, .inl (kA fc))), (qn, .inl (cI, 77, .inl (kA (fun _ => 0))))] ++ (k_p3 cI gr Pl)) := hD
    refine lv_aload_n hx hb d_Ph_settle_27 rfl (lv_at hl 0 rfl) ?_
    refine lv_bipush (v := zI 30) hx hb d_Ph_settle_28 (by decide) ?_
    refine va_put (D := D) (ci := 1) (v := .int (zI 30)) (ty := .int) (C := R_Ph) (T := T_Ph) (N := 12) hx hb hkw kin_Ph ty_Ph ty_Ph_ok nm_Ph hown hK hP hD hS 1 rfl rfl 11 (by decide) (hkw _ kw_fieldLink_Ph_49) (fun _ h9 => h9) rfl (by decide +kernel) rfl rfl (Nat.le_of_ble_eq_true rfl) d_Ph_settle_30 ?_
    clear hP hD hS; intro H locs hP hD hS
    replace hP : va_P D k_cl ([(tx, .inl (cI, 30, .inl (kA t))), (h, .inr (1, [.ref qo, .ref qs, .int (zI ↑n), .int (zI ↑sd), .ref qp, .ref qc, .ref qt, .ref qf, .ref qn, .int (zI 77), .int (zI 0), .int (zI 30)])), (qo, .inl (cI, 4, .inl (kA of))), (qs, .inl (cI, 4, .inl (kA se))), (qp, .inl (cG, 4, .inr (.inr (.inr (.inr (fun i => some (gr i))))))), (qc, .inl (cI, 4, .inl (kA pc))), (qt, .inl (cI, 4, .inl (kA tr))), (qf, .inl (cI, 4, .inl (kA fc))), (qn, .inl (cI, 77, .inl (kA (fun _ => 0))))] ++ (k_p3 cI gr Pl)) H := hP
    replace hD : va_D A ([(tx, .inl (cI, 30, .inl (kA t))), (h, .inr (1, [.ref qo, .ref qs, .int (zI ↑n), .int (zI ↑sd), .ref qp, .ref qc, .ref qt, .ref qf, .ref qn, .int (zI 77), .int (zI 0), .int (zI 30)])), (qo, .inl (cI, 4, .inl (kA of))), (qs, .inl (cI, 4, .inl (kA se))), (qp, .inl (cG, 4, .inr (.inr (.inr (.inr (fun i => some (gr i))))))), (qc, .inl (cI, 4, .inl (kA pc))), (qt, .inl (cI, 4, .inl (kA tr))), (qf, .inl (cI, 4, .inl (kA fc))), (qn, .inl (cI, 77, .inl (kA (fun _ => 0))))] ++ (k_p3 cI gr Pl)) := hD
    refine lv_aload_n hx hb d_Ph_settle_33 rfl (lv_at hl 0 rfl) ?_
    refine va_get (D := D) (ci := 1) (v := .int (zI ↑n)) (C := R_Ph) (T := T_Ph) (N := 12) hx hb hkw kin_Ph hown hK hP 1 rfl rfl 2 (by decide) (hkw _ kw_fieldLink_Ph_18) (fun _ h9 => h9) rfl d_Ph_settle_34 ?_
    refine k_if_le (tgt := 63) hx hb d_Ph_settle_37 (by decide) ⟨by omega, by omega⟩ (fun c_37 => ?_) (fun c_37 => ?_)
    · refine lv_aload_n hx hb d_Ph_settle_63 rfl (lv_at hl 0 rfl) ?_
      refine lv_iconst (v := zI 1) hx hb d_Ph_settle_64 (by decide) ?_
      refine va_put (D := D) (ci := 1) (v := .int (zI 1)) (ty := .boolean) (C := R_Ph) (T := T_Ph) (N := 12) hx hb hkw kin_Ph ty_Ph ty_Ph_ok nm_Ph hown hK hP hD hS 1 rfl rfl 3 (by decide) (hkw _ kw_fieldLink_Ph_22) (fun _ h9 => h9) rfl (by decide +kernel) (by decide) (by decide) (Nat.le_of_ble_eq_true rfl) d_Ph_settle_65 ?_
      clear hP hD hS; intro H locs hP hD hS
      replace hP : va_P D k_cl ([(tx, .inl (cI, 30, .inl (kA t))), (h, .inr (1, [.ref qo, .ref qs, .int (zI ↑n), .int (zI 1), .ref qp, .ref qc, .ref qt, .ref qf, .ref qn, .int (zI 77), .int (zI 0), .int (zI 30)])), (qo, .inl (cI, 4, .inl (kA of))), (qs, .inl (cI, 4, .inl (kA se))), (qp, .inl (cG, 4, .inr (.inr (.inr (.inr (fun i => some (gr i))))))), (qc, .inl (cI, 4, .inl (kA pc))), (qt, .inl (cI, 4, .inl (kA tr))), (qf, .inl (cI, 4, .inl (kA fc))), (qn, .inl (cI, 77, .inl (kA (fun _ => 0))))] ++ (k_p3 cI gr Pl)) H := hP
      replace hD : va_D A ([(tx, .inl (cI, 30, .inl (kA t))), (h, .inr (1, [.ref qo, .ref qs, .int (zI ↑n), .int (zI 1), .ref qp, .ref qc, .ref qt, .ref qf, .ref qn, .int (zI 77), .int (zI 0), .int (zI 30)])), (qo, .inl (cI, 4, .inl (kA of))), (qs, .inl (cI, 4, .inl (kA se))), (qp, .inl (cG, 4, .inr (.inr (.inr (.inr (fun i => some (gr i))))))), (qc, .inl (cI, 4, .inl (kA pc))), (qt, .inl (cI, 4, .inl (kA tr))), (qf, .inl (cI, 4, .inl (kA fc))), (qn, .inl (cI, 77, .inl (kA (fun _ => 0))))] ++ (k_p3 cI gr Pl)) := hD
      rw [← hQf]
      exact k_vret hx hb hr hlocks hP hS d_Ph_settle_68
    · exfalso; omega
  · exfalso; omega

set_option maxHeartbeats 4000000 in
set_option maxRecDepth 100000 in
theorem c_Ph_settle_go (l : Launch) (D : va_G) (cI cR cG : ClassId) (tx h qo qs qp qc qt qf qn n sd lm : Nat) (sf st : Int) (gr t of se pc tr fc cn : Nat → Nat) (Pl : Nat → Nat → Nat) (hsd : sd = 0) (hn : 0 < n) (hn4 : n ≤ 4) (ht : ∀ j, t j ≤ 1023) (hof : ∀ j, of j ≤ 9) (hse : ∀ j, se j ≤ 1023) (hZ : setOK (pc, Pl, tr, fc, cn, lm, sf, st)) : k_M l y_Ph_settle (.code y_Ph_settle b_Ph_settle 2 none :: kW) rm_Ph_settle D k_cl (k_ty cI cR cG) [.ref h, .ref tx] ([(tx, .inl (cI, 30, .inl (kA t))), (h, .inr (1, [.ref qo, .ref qs, .int (zI ↑n), .int (zI ↑sd), .ref qp, .ref qc, .ref qt, .ref qf, .ref qn, .int (zI ↑lm), .int (zI sf), .int (zI st)])), (qo, .inl (cI, 4, .inl (kA of))), (qs, .inl (cI, 4, .inl (kA se))), (qp, .inl (cG, 4, .inr (.inr (.inr (.inr (fun i => some (gr i))))))), (qc, .inl (cI, 4, .inl (kA pc))), (qt, .inl (cI, 4, .inl (kA tr))), (qf, .inl (cI, 4, .inl (kA fc))), (qn, .inl (cI, 77, .inl (kA cn)))] ++ (k_p3 cI gr Pl)) (k_Qv D k_cl ([(tx, .inl (cI, 30, .inl (kA t))), (h, .inr (1, [.ref qo, .ref qs, .int (zI ↑n), .int (zI 1), .ref qp, .ref qc, .ref qt, .ref qf, .ref qn, .int (zI (↑((setGo n t of se (pc, Pl, tr, fc, cn, lm, sf, st)).2.2.2.2.2.1))), .int (zI ((setGo n t of se (pc, Pl, tr, fc, cn, lm, sf, st)).2.2.2.2.2.2.1)), .int (zI ((setGo n t of se (pc, Pl, tr, fc, cn, lm, sf, st)).2.2.2.2.2.2.2))])), (qo, .inl (cI, 4, .inl (kA of))), (qs, .inl (cI, 4, .inl (kA se))), (qp, .inl (cG, 4, .inr (.inr (.inr (.inr (fun i => some (gr i))))))), (qc, .inl (cI, 4, .inl (kA ((setGo n t of se (pc, Pl, tr, fc, cn, lm, sf, st)).1)))), (qt, .inl (cI, 4, .inl (kA ((setGo n t of se (pc, Pl, tr, fc, cn, lm, sf, st)).2.2.1)))), (qf, .inl (cI, 4, .inl (kA ((setGo n t of se (pc, Pl, tr, fc, cn, lm, sf, st)).2.2.2.1)))), (qn, .inl (cI, 77, .inl (kA ((setGo n t of se (pc, Pl, tr, fc, cn, lm, sf, st)).2.2.2.2.1))))] ++ k_p3 cI gr (setGo n t of se (pc, Pl, tr, fc, cn, lm, sf, st)).2.1)) := by
  refine k_start (cc := b_Ph_settle) (maxL := 2) (ret := none) (by decide) rfl (Nat.le_of_ble_eq_true rfl) ?_
  intro p ev s m ar below meth c A ls Qf hQf hx hb hr hml hts hown hlocks hin hK hG hA hP hD hS hl
  replace hown : s.vm.findClass R_Ph = some m.cls := hown
  replace hl : lv_has ls 2 [(0, .ref h), (1, .ref tx)] := hl
  have hkw : ∀ w ∈ kW, w.before ar s = true := fun w h => hts w (List.mem_cons_of_mem _ h)
  replace hP : va_P D k_cl ([(tx, .inl (cI, 30, .inl (kA t))), (h, .inr (1, [.ref qo, .ref qs, .int (zI ↑n), .int (zI ↑sd), .ref qp, .ref qc, .ref qt, .ref qf, .ref qn, .int (zI ↑lm), .int (zI sf), .int (zI st)])), (qo, .inl (cI, 4, .inl (kA of))), (qs, .inl (cI, 4, .inl (kA se))), (qp, .inl (cG, 4, .inr (.inr (.inr (.inr (fun i => some (gr i))))))), (qc, .inl (cI, 4, .inl (kA pc))), (qt, .inl (cI, 4, .inl (kA tr))), (qf, .inl (cI, 4, .inl (kA fc))), (qn, .inl (cI, 77, .inl (kA cn)))] ++ (k_p3 cI gr Pl)) s.heap := hP
  replace hD : va_D A ([(tx, .inl (cI, 30, .inl (kA t))), (h, .inr (1, [.ref qo, .ref qs, .int (zI ↑n), .int (zI ↑sd), .ref qp, .ref qc, .ref qt, .ref qf, .ref qn, .int (zI ↑lm), .int (zI sf), .int (zI st)])), (qo, .inl (cI, 4, .inl (kA of))), (qs, .inl (cI, 4, .inl (kA se))), (qp, .inl (cG, 4, .inr (.inr (.inr (.inr (fun i => some (gr i))))))), (qc, .inl (cI, 4, .inl (kA pc))), (qt, .inl (cI, 4, .inl (kA tr))), (qf, .inl (cI, 4, .inl (kA fc))), (qn, .inl (cI, 77, .inl (kA cn)))] ++ (k_p3 cI gr Pl)) := hD
  obtain ⟨hpc, hPl, htr, -, -, -⟩ := hZ
  dsimp only at hpc hPl htr
  refine lv_aload_n hx hb d_Ph_settle_0 rfl (lv_at hl 0 rfl) ?_
  refine va_get (D := D) (ci := 1) (v := .int (zI ↑sd)) (C := R_Ph) (T := T_Ph) (N := 12) hx hb hkw kin_Ph hown hK hP 1 rfl rfl 3 (by decide) (hkw _ kw_fieldLink_Ph_22) (fun _ h9 => h9) rfl d_Ph_settle_1 ?_
  refine k_if_eq (tgt := 8) hx hb d_Ph_settle_4 (by decide) ⟨by omega, by omega⟩ (fun c_4 => ?_) (fun c_4 => ?_)
  · refine lv_aload_n hx hb d_Ph_settle_8 rfl (lv_at hl 0 rfl) ?_
    refine va_get (D := D) (ci := 1) (v := .ref qn) (C := R_Ph) (T := T_Ph) (N := 12) hx hb hkw kin_Ph hown hK hP 1 rfl rfl 8 (by decide) (hkw _ kw_fieldLink_Ph_40) (fun _ h9 => h9) rfl d_Ph_settle_9 ?_
    refine lv_iconst (v := zI 0) hx hb d_Ph_settle_12 (by decide) ?_
    refine k_beV (va_runS (As := [.ref qn, .int (zI 0)]) (rest := []) ⟨hx, hb, hml, hown, hkw⟩ (c_Ja_fill l D cI cR cG qn 77 0 cn (by decide) _) (va_cwS 2 hkw (k_gS kw_methodLink_Ph_61 kw_static_Arrays_fill kw_initialized_Arrays kw_code_Arrays_fill) rfl rfl rfl (by decide +kernel) ⟨(Nat.le_of_ble_eq_true rfl), (Nat.le_of_ble_eq_true rfl)⟩) (k_preS hK hG hP hD [8] rfl rfl) rfl rfl hl.1 rfl (lv_room (Nat.le_of_ble_eq_true rfl)) d_Ph_settle_13 ⟨Nat.zero_le _, Nat.zero_le _⟩) hP hD hS hA [8] rfl (Eq.trans (b := [qn]) rfl rfl) ?_
    clear hP hD hS; intro H locs hP hD hS
    replace hP : va_P D k_cl ([(tx, .inl (cI, 30, .inl (kA t))), (h, .inr (1, [.ref qo, .ref qs, .int (zI ↑n), .int (zI ↑sd), .ref qp, .ref qc, .ref qt, .ref qf, .ref qn, .int (zI ↑lm), .int (zI sf), .int (zI st)])), (qo, .inl (cI, 4, .inl (kA of))), (qs, .inl (cI, 4, .inl (kA se))), (qp, .inl (cG, 4, .inr (.inr (.inr (.inr (fun i => some (gr i))))))), (qc, .inl (cI, 4, .inl (kA pc))), (qt, .inl (cI, 4, .inl (kA tr))), (qf, .inl (cI, 4, .inl (kA fc))), (qn, .inl (cI, 77, .inl (kA (fun _ => 0))))] ++ (k_p3 cI gr Pl)) H := hP
    replace hD : va_D A ([(tx, .inl (cI, 30, .inl (kA t))), (h, .inr (1, [.ref qo, .ref qs, .int (zI ↑n), .int (zI ↑sd), .ref qp, .ref qc, .ref qt, .ref qf, .ref qn, .int (zI ↑lm), .int (zI sf), .int (zI st)])), (qo, .inl (cI, 4, .inl (kA of))), (qs, .inl (cI, 4, .inl (kA se))), (qp, .inl (cG, 4, .inr (.inr (.inr (.inr (fun i => some (gr i))))))), (qc, .inl (cI, 4, .inl (kA pc))), (qt, .inl (cI, 4, .inl (kA tr))), (qf, .inl (cI, 4, .inl (kA fc))), (qn, .inl (cI, 77, .inl (kA (fun _ => 0))))] ++ (k_p3 cI gr Pl)) := hD
    refine lv_aload_n hx hb d_Ph_settle_16 rfl (lv_at hl 0 rfl) ?_
    refine lv_bipush (v := zI 77) hx hb d_Ph_settle_17 (by decide) ?_
    refine va_put (D := D) (ci := 1) (v := .int (zI 77)) (ty := .int) (C := R_Ph) (T := T_Ph) (N := 12) hx hb hkw kin_Ph ty_Ph ty_Ph_ok nm_Ph hown hK hP hD hS 1 rfl rfl 9 (by decide) (hkw _ kw_fieldLink_Ph_43) (fun _ h9 => h9) rfl (by decide +kernel) rfl rfl (Nat.le_of_ble_eq_true rfl) d_Ph_settle_19 ?_
    clear hP hD hS; intro H locs hP hD hS
    replace hP : va_P D k_cl ([(tx, .inl (cI, 30, .inl (kA t))), (h, .inr (1, [.ref qo, .ref qs, .int (zI ↑n), .int (zI ↑sd), .ref qp, .ref qc, .ref qt, .ref qf, .ref qn, .int (zI 77), .int (zI sf), .int (zI st)])), (qo, .inl (cI, 4, .inl (kA of))), (qs, .inl (cI, 4, .inl (kA se))), (qp, .inl (cG, 4, .inr (.inr (.inr (.inr (fun i => some (gr i))))))), (qc, .inl (cI, 4, .inl (kA pc))), (qt, .inl (cI, 4, .inl (kA tr))), (qf, .inl (cI, 4, .inl (kA fc))), (qn, .inl (cI, 77, .inl (kA (fun _ => 0))))] ++ (k_p3 cI gr Pl)) H := hP
    replace hD : va_D A ([(tx, .inl (cI, 30, .inl (kA t))), (h, .inr (1, [.ref qo, .ref qs, .int (zI ↑n), .int (zI ↑sd), .ref qp, .ref qc, .ref qt, .ref qf, .ref qn, .int (zI 77), .int (zI sf), .int (zI st)])), (qo, .inl (cI, 4, .inl (kA of))), (qs, .inl (cI, 4, .inl (kA se))), (qp, .inl (cG, 4, .inr (.inr (.inr (.inr (fun i => some (gr i))))))), (qc, .inl (cI, 4, .inl (kA pc))), (qt, .inl (cI, 4, .inl (kA tr))), (qf, .inl (cI, 4, .inl (kA fc))), (qn, .inl (cI, 77, .inl (kA (fun _ => 0))))] ++ (k_p3 cI gr Pl)) := hD
    refine lv_aload_n hx hb d_Ph_settle_22 rfl (lv_at hl 0 rfl) ?_
    refine lv_iconst (v := zI 0) hx hb d_Ph_settle_23 (by decide) ?_
    refine va_put (D := D) (ci := 1) (v := .int (zI 0)) (ty := .int) (C := R_Ph) (T := T_Ph) (N := 12) hx hb hkw kin_Ph ty_Ph ty_Ph_ok nm_Ph hown hK hP hD hS 1 rfl rfl 10 (by decide) (hkw _ kw_fieldLink_Ph_46) (fun _ h9 => h9) rfl (by decide +kernel) rfl rfl (Nat.le_of_ble_eq_true rfl) d_Ph_settle_24 ?_
    clear hP hD hS; intro H locs hP hD hS
    replace hP : va_P D k_cl ([(tx, .inl (cI, 30, .inl (kA t))), (h, .inr (1, [.ref qo, .ref qs, .int (zI ↑n), .int (zI ↑sd), .ref qp, .ref qc, .ref qt, .ref qf, .ref qn, .int (zI 77), .int (zI 0), .int (zI st)])), (qo, .inl (cI, 4, .inl (kA of))), (qs, .inl (cI, 4, .inl (kA se))), (qp, .inl (cG, 4, .inr (.inr (.inr (.inr (fun i => some (gr i))))))), (qc, .inl (cI, 4, .inl (kA pc))), (qt, .inl (cI, 4, .inl (kA tr))), (qf, .inl (cI, 4, .inl (kA fc))), (qn, .inl (cI, 77, .inl (kA (fun _ => 0))))] ++ (k_p3 cI gr Pl)) H := hP
    replace hD : va_D A ([(tx, .inl (cI, 30, .inl (kA t))), (h, .inr (1, [.ref qo, .ref qs, .int (zI ↑n), .int (zI ↑sd), .ref qp, .ref qc, .ref qt, .ref qf, .ref qn, .int (zI 77), .int (zI 0), .int (zI st)])), (qo, .inl (cI, 4, .inl (kA of))), (qs, .inl (cI, 4, .inl (kA se))), (qp, .inl (cG, 4, .inr (.inr (.inr (.inr (fun i => some (gr i))))))), (qc, .inl (cI, 4, .inl (kA pc))), (qt, .inl (cI, 4, .inl (kA tr))), (qf, .inl (cI, 4, .inl (kA fc))), (qn, .inl (cI, 77, .inl (kA (fun _ => 0))))] ++ (k_p3 cI gr Pl)) := hD
    refine lv_aload_n hx hb d_Ph_settle_27 rfl (lv_at hl 0 rfl) ?_
    refine lv_bipush (v := zI 30) hx hb d_Ph_settle_28 (by decide) ?_
    refine va_put (D := D) (ci := 1) (v := .int (zI 30)) (ty := .int) (C := R_Ph) (T := T_Ph) (N := 12) hx hb hkw kin_Ph ty_Ph ty_Ph_ok nm_Ph hown hK hP hD hS 1 rfl rfl 11 (by decide) (hkw _ kw_fieldLink_Ph_49) (fun _ h9 => h9) rfl (by decide +kernel) rfl rfl (Nat.le_of_ble_eq_true rfl) d_Ph_settle_30 ?_
    clear hP hD hS; intro H locs hP hD hS
    replace hP : va_P D k_cl ([(tx, .inl (cI, 30, .inl (kA t))), (h, .inr (1, [.ref qo, .ref qs, .int (zI ↑n), .int (zI ↑sd), .ref qp, .ref qc, .ref qt, .ref qf, .ref qn, .int (zI 77), .int (zI 0), .int (zI 30)])), (qo, .inl (cI, 4, .inl (kA of))), (qs, .inl (cI, 4, .inl (kA se))), (qp, .inl (cG, 4, .inr (.inr (.inr (.inr (fun i => some (gr i))))))), (qc, .inl (cI, 4, .inl (kA pc))), (qt, .inl (cI, 4, .inl (kA tr))), (qf, .inl (cI, 4, .inl (kA fc))), (qn, .inl (cI, 77, .inl (kA (fun _ => 0))))] ++ (k_p3 cI gr Pl)) H := hP
    replace hD : va_D A ([(tx, .inl (cI, 30, .inl (kA t))), (h, .inr (1, [.ref qo, .ref qs, .int (zI ↑n), .int (zI ↑sd), .ref qp, .ref qc, .ref qt, .ref qf, .ref qn, .int (zI 77), .int (zI 0), .int (zI 30)])), (qo, .inl (cI, 4, .inl (kA of))), (qs, .inl (cI, 4, .inl (kA se))), (qp, .inl (cG, 4, .inr (.inr (.inr (.inr (fun i => some (gr i))))))), (qc, .inl (cI, 4, .inl (kA pc))), (qt, .inl (cI, 4, .inl (kA tr))), (qf, .inl (cI, 4, .inl (kA fc))), (qn, .inl (cI, 77, .inl (kA (fun _ => 0))))] ++ (k_p3 cI gr Pl)) := hD
    refine lv_aload_n hx hb d_Ph_settle_33 rfl (lv_at hl 0 rfl) ?_
    refine va_get (D := D) (ci := 1) (v := .int (zI ↑n)) (C := R_Ph) (T := T_Ph) (N := 12) hx hb hkw kin_Ph hown hK hP 1 rfl rfl 2 (by decide) (hkw _ kw_fieldLink_Ph_18) (fun _ h9 => h9) rfl d_Ph_settle_34 ?_
    refine k_if_le (tgt := 63) hx hb d_Ph_settle_37 (by decide) ⟨by omega, by omega⟩ (fun c_37 => ?_) (fun c_37 => ?_)
    · exfalso; omega
    · refine lv_aload_n hx hb d_Ph_settle_40 rfl (lv_at hl 0 rfl) ?_
      refine lv_aload_n hx hb d_Ph_settle_41 rfl (lv_at hl 1 rfl) ?_
      refine k_beVT (nx := [(tx, .inl (cI, 30, .inl (kA t))), (h, .inr (1, [.ref qo, .ref qs, .int (zI ↑n), .int (zI ↑sd), .ref qp, .ref qc, .ref qt, .ref qf, .ref qn, .int (zI 77), .int (zI 0), .int (zI 30)])), (qs, .inl (cI, 4, .inl (kA se))), (qp, .inl (cG, 4, .inr (.inr (.inr (.inr (fun i => some (gr i))))))), (qc, .inl (cI, 4, .inl (kA ((fAll t se n 0 pc Pl).1))))]) (tn := k_p3 cI gr (fAll t se n 0 pc Pl).2) (T1 := k_p3 cI gr (fAll t se n 0 pc Pl).2) (va_runV (As := [.ref tx]) (rest := []) ⟨hx, hb, hml, hown, hkw⟩ (c_Ph_findPlaces l D cI cR cG tx h qo qs qp qc qt qf qn n sd 77 0 30 gr t se pc Pl hn4 ht hse hpc hPl _) (cwV 1 hkw (k_gV kw_methodLink_Ph_67 kw_instanceMethod_Ph_findPlaces kw_selects_Ph_findPlaces kw_initialized_Ph kw_code_Ph_findPlaces) rfl rfl rfl (by decide +kernel) ⟨Nat.le_of_ble_eq_true rfl, Nat.le_of_ble_eq_true rfl⟩) (k_preVT (px := [(tx, .inl (cI, 30, .inl (kA t))), (h, .inr (1, [.ref qo, .ref qs, .int (zI ↑n), .int (zI ↑sd), .ref qp, .ref qc, .ref qt, .ref qf, .ref qn, .int (zI 77), .int (zI 0), .int (zI 30)])), (qs, .inl (cI, 4, .inl (kA se))), (qp, .inl (cG, 4, .inr (.inr (.inr (.inr (fun i => some (gr i))))))), (qc, .inl (cI, 4, .inl (kA pc)))]) (tc := k_p3 cI gr Pl) (q0 := 1) hK hG hP hD [0, 1, 3, 4, 5] rfl rfl (fun _ h => h) ((k_D_right hD).weaken (fun _ _ _ _ => trivial)) rfl rfl) rfl rfl hl.1 rfl (lv_room (Nat.le_of_ble_eq_true rfl)) d_Ph_settle_42 ⟨Nat.zero_le _, Nat.zero_le _⟩) hP hD hS hA [0, 1, 3, 4, 5] rfl (Eq.trans (b := [tx, h, qs, qp, qc]) rfl rfl) (fun _ h => h) k_p3_fst (fun _ h => Or.inl h) ?_
      clear hP hD hS; intro H locs hP hD hS
      replace hP : va_P D k_cl ([(tx, .inl (cI, 30, .inl (kA t))), (h, .inr (1, [.ref qo, .ref qs, .int (zI ↑n), .int (zI ↑sd), .ref qp, .ref qc, .ref qt, .ref qf, .ref qn, .int (zI 77), .int (zI 0), .int (zI 30)])), (qo, .inl (cI, 4, .inl (kA of))), (qs, .inl (cI, 4, .inl (kA se))), (qp, .inl (cG, 4, .inr (.inr (.inr (.inr (fun i => some (gr i))))))), (qc, .inl (cI, 4, .inl (kA ((fAll t se n 0 pc Pl).1)))), (qt, .inl (cI, 4, .inl (kA tr))), (qf, .inl (cI, 4, .inl (kA fc))), (qn, .inl (cI, 77, .inl (kA (fun _ => 0))))] ++ (k_p3 cI gr (fAll t se n 0 pc Pl).2)) H := hP
      replace hD : va_D A ([(tx, .inl (cI, 30, .inl (kA t))), (h, .inr (1, [.ref qo, .ref qs, .int (zI ↑n), .int (zI ↑sd), .ref qp, .ref qc, .ref qt, .ref qf, .ref qn, .int (zI 77), .int (zI 0), .int (zI 30)])), (qo, .inl (cI, 4, .inl (kA of))), (qs, .inl (cI, 4, .inl (kA se))), (qp, .inl (cG, 4, .inr (.inr (.inr (.inr (fun i => some (gr i))))))), (qc, .inl (cI, 4, .inl (kA ((fAll t se n 0 pc Pl).1)))), (qt, .inl (cI, 4, .inl (kA tr))), (qf, .inl (cI, 4, .inl (kA fc))), (qn, .inl (cI, 77, .inl (kA (fun _ => 0))))] ++ (k_p3 cI gr (fAll t se n 0 pc Pl).2)) := hD
      refine lv_aload_n hx hb d_Ph_settle_45 rfl (lv_at hl 0 rfl) ?_
      refine lv_iconst (v := zI 0) hx hb d_Ph_settle_46 (by decide) ?_
      refine lv_iconst (v := zI 0) hx hb d_Ph_settle_47 (by decide) ?_
      refine lv_bipush (v := zI (-9)) hx hb d_Ph_settle_48 (by decide) ?_
      refine lv_bipush (v := zI 29) hx hb d_Ph_settle_50 (by decide) ?_
      have hfa := fAll_bd (t := t) (se := se) n 0 pc Pl ⟨hpc, hPl⟩
      refine k_beVT (nx := [(h, .inr (1, [.ref qo, .ref qs, .int (zI ↑n), .int (zI ↑sd), .ref qp, .ref qc, .ref qt, .ref qf, .ref qn, .int (zI (↑((sM of se (fAll t se n 0 pc Pl).1 (fAll t se n 0 pc Pl).2 n 0 0 (-9) 29 (tr, fc, fun _ => 0, 77)).2.2.2))), .int (zI 0), .int (zI 30)])), (qo, .inl (cI, 4, .inl (kA of))), (qs, .inl (cI, 4, .inl (kA se))), (qp, .inl (cG, 4, .inr (.inr (.inr (.inr (fun i => some (gr i))))))), (qc, .inl (cI, 4, .inl (kA ((fAll t se n 0 pc Pl).1)))), (qt, .inl (cI, 4, .inl (kA ((sM of se (fAll t se n 0 pc Pl).1 (fAll t se n 0 pc Pl).2 n 0 0 (-9) 29 (tr, fc, fun _ => 0, 77)).1)))), (qf, .inl (cI, 4, .inl (kA ((sM of se (fAll t se n 0 pc Pl).1 (fAll t se n 0 pc Pl).2 n 0 0 (-9) 29 (tr, fc, fun _ => 0, 77)).2.1)))), (qn, .inl (cI, 77, .inl (kA ((sM of se (fAll t se n 0 pc Pl).1 (fAll t se n 0 pc Pl).2 n 0 0 (-9) 29 (tr, fc, fun _ => 0, 77)).2.2.1))))]) (tn := k_p3 cI gr (fAll t se n 0 pc Pl).2) (T1 := k_p3 cI gr (fAll t se n 0 pc Pl).2) (va_runV (As := [.int (zI 0), .int (zI 0), .int (zI (-9)), .int (zI 29)]) (rest := []) ⟨hx, hb, hml, hown, hkw⟩ (c_Ph_searchMoved l D cI cR cG h qo qs qp qc qt qf qn n sd 0 30 gr of se (fAll t se n 0 pc Pl).1 (fAll t se n 0 pc Pl).2 hn4 hof hse hfa.1 hfa.2 n 0 0 (-9) 29 tr fc (fun _ => 0) 77 (by omega) (by omega) (by omega) (by omega) htr (by omega) _) (cwV 4 hkw (k_gV kw_methodLink_Ph_71 kw_instanceMethod_Ph_searchMoved kw_selects_Ph_searchMoved kw_initialized_Ph kw_code_Ph_searchMoved) rfl rfl rfl (by decide +kernel) ⟨(by have h9 : n + 4 + 1 ≤ 12 := (by omega); exact h9), (by have h9 : 8 + (10 + 11) + (29 * n + 200) ≤ 600 := (by omega); exact h9)⟩) (k_preVT (px := [(h, .inr (1, [.ref qo, .ref qs, .int (zI ↑n), .int (zI ↑sd), .ref qp, .ref qc, .ref qt, .ref qf, .ref qn, .int (zI 77), .int (zI 0), .int (zI 30)])), (qo, .inl (cI, 4, .inl (kA of))), (qs, .inl (cI, 4, .inl (kA se))), (qp, .inl (cG, 4, .inr (.inr (.inr (.inr (fun i => some (gr i))))))), (qc, .inl (cI, 4, .inl (kA ((fAll t se n 0 pc Pl).1)))), (qt, .inl (cI, 4, .inl (kA tr))), (qf, .inl (cI, 4, .inl (kA fc))), (qn, .inl (cI, 77, .inl (kA (fun _ => 0))))]) (tc := k_p3 cI gr (fAll t se n 0 pc Pl).2) (q0 := 0) hK hG hP hD [1, 2, 3, 4, 5, 6, 7, 8] rfl rfl (fun _ h => h) ((k_D_right hD).weaken (fun _ _ _ _ => trivial)) rfl rfl) rfl rfl hl.1 rfl (lv_room (Nat.le_of_ble_eq_true rfl)) d_Ph_settle_52 ⟨Nat.zero_le _, Nat.zero_le _⟩) hP hD hS hA [1, 2, 3, 4, 5, 6, 7, 8] rfl (Eq.trans (b := [h, qo, qs, qp, qc, qt, qf, qn]) rfl rfl) (fun _ h => h) rfl (fun _ h => Or.inl h) ?_
      clear hP hD hS; intro H locs hP hD hS
      replace hP : va_P D k_cl ([(tx, .inl (cI, 30, .inl (kA t))), (h, .inr (1, [.ref qo, .ref qs, .int (zI ↑n), .int (zI ↑sd), .ref qp, .ref qc, .ref qt, .ref qf, .ref qn, .int (zI (↑((sM of se (fAll t se n 0 pc Pl).1 (fAll t se n 0 pc Pl).2 n 0 0 (-9) 29 (tr, fc, fun _ => 0, 77)).2.2.2))), .int (zI 0), .int (zI 30)])), (qo, .inl (cI, 4, .inl (kA of))), (qs, .inl (cI, 4, .inl (kA se))), (qp, .inl (cG, 4, .inr (.inr (.inr (.inr (fun i => some (gr i))))))), (qc, .inl (cI, 4, .inl (kA ((fAll t se n 0 pc Pl).1)))), (qt, .inl (cI, 4, .inl (kA ((sM of se (fAll t se n 0 pc Pl).1 (fAll t se n 0 pc Pl).2 n 0 0 (-9) 29 (tr, fc, fun _ => 0, 77)).1)))), (qf, .inl (cI, 4, .inl (kA ((sM of se (fAll t se n 0 pc Pl).1 (fAll t se n 0 pc Pl).2 n 0 0 (-9) 29 (tr, fc, fun _ => 0, 77)).2.1)))), (qn, .inl (cI, 77, .inl (kA ((sM of se (fAll t se n 0 pc Pl).1 (fAll t se n 0 pc Pl).2 n 0 0 (-9) 29 (tr, fc, fun _ => 0, 77)).2.2.1))))] ++ (k_p3 cI gr (fAll t se n 0 pc Pl).2)) H := hP
      replace hD : va_D A ([(tx, .inl (cI, 30, .inl (kA t))), (h, .inr (1, [.ref qo, .ref qs, .int (zI ↑n), .int (zI ↑sd), .ref qp, .ref qc, .ref qt, .ref qf, .ref qn, .int (zI (↑((sM of se (fAll t se n 0 pc Pl).1 (fAll t se n 0 pc Pl).2 n 0 0 (-9) 29 (tr, fc, fun _ => 0, 77)).2.2.2))), .int (zI 0), .int (zI 30)])), (qo, .inl (cI, 4, .inl (kA of))), (qs, .inl (cI, 4, .inl (kA se))), (qp, .inl (cG, 4, .inr (.inr (.inr (.inr (fun i => some (gr i))))))), (qc, .inl (cI, 4, .inl (kA ((fAll t se n 0 pc Pl).1)))), (qt, .inl (cI, 4, .inl (kA ((sM of se (fAll t se n 0 pc Pl).1 (fAll t se n 0 pc Pl).2 n 0 0 (-9) 29 (tr, fc, fun _ => 0, 77)).1)))), (qf, .inl (cI, 4, .inl (kA ((sM of se (fAll t se n 0 pc Pl).1 (fAll t se n 0 pc Pl).2 n 0 0 (-9) 29 (tr, fc, fun _ => 0, 77)).2.1)))), (qn, .inl (cI, 77, .inl (kA ((sM of se (fAll t se n 0 pc Pl).1 (fAll t se n 0 pc Pl).2 n 0 0 (-9) 29 (tr, fc, fun _ => 0, 77)).2.2.1))))] ++ (k_p3 cI gr (fAll t se n 0 pc Pl).2)) := hD
      refine lv_aload_n hx hb d_Ph_settle_55 rfl (lv_at hl 0 rfl) ?_
      refine lv_iconst (v := zI 0) hx hb d_Ph_settle_56 (by decide) ?_
      refine lv_bipush (v := zI 30) hx hb d_Ph_settle_57 (by decide) ?_
      refine lv_iconst (v := zI (-1)) hx hb d_Ph_settle_59 (by decide) ?_
      have hs1 := sM_bd (of := of) (se := se) (pc := (fAll t se n 0 pc Pl).1) hfa.2 n 0 0 (-9) 29 (tr, fc, fun _ => 0, 77) ⟨htr, by dsimp only; omega⟩
      refine k_beVT (nx := [(h, .inr (1, [.ref qo, .ref qs, .int (zI ↑n), .int (zI ↑sd), .ref qp, .ref qc, .ref qt, .ref qf, .ref qn, .int (zI (↑((sM of se (fAll t se n 0 pc Pl).1 (fAll t se n 0 pc Pl).2 n 0 0 (-9) 29 (tr, fc, fun _ => 0, 77)).2.2.2))), .int (zI ((sT se (fAll t se n 0 pc Pl).1 (fAll t se n 0 pc Pl).2 n 0 30 (-1) ((sM of se (fAll t se n 0 pc Pl).1 (fAll t se n 0 pc Pl).2 n 0 0 (-9) 29 (tr, fc, fun _ => 0, 77)).1, 0, 30)).2.1)), .int (zI ((sT se (fAll t se n 0 pc Pl).1 (fAll t se n 0 pc Pl).2 n 0 30 (-1) ((sM of se (fAll t se n 0 pc Pl).1 (fAll t se n 0 pc Pl).2 n 0 0 (-9) 29 (tr, fc, fun _ => 0, 77)).1, 0, 30)).2.2))])), (qs, .inl (cI, 4, .inl (kA se))), (qp, .inl (cG, 4, .inr (.inr (.inr (.inr (fun i => some (gr i))))))), (qc, .inl (cI, 4, .inl (kA ((fAll t se n 0 pc Pl).1)))), (qt, .inl (cI, 4, .inl (kA ((sT se (fAll t se n 0 pc Pl).1 (fAll t se n 0 pc Pl).2 n 0 30 (-1) ((sM of se (fAll t se n 0 pc Pl).1 (fAll t se n 0 pc Pl).2 n 0 0 (-9) 29 (tr, fc, fun _ => 0, 77)).1, 0, 30)).1))))]) (tn := k_p3 cI gr (fAll t se n 0 pc Pl).2) (T1 := k_p3 cI gr (fAll t se n 0 pc Pl).2) (va_runV (As := [.int (zI 0), .int (zI 30), .int (zI (-1))]) (rest := []) ⟨hx, hb, hml, hown, hkw⟩ (c_Ph_searchShortest l D cI cR cG h qo qs qp qc qt qf qn n sd ((sM of se (fAll t se n 0 pc Pl).1 (fAll t se n 0 pc Pl).2 n 0 0 (-9) 29 (tr, fc, fun _ => 0, 77)).2.2.2) gr se (fAll t se n 0 pc Pl).1 (fAll t se n 0 pc Pl).2 hn4 hse hfa.1 hfa.2 n 0 30 (-1) ((sM of se (fAll t se n 0 pc Pl).1 (fAll t se n 0 pc Pl).2 n 0 0 (-9) 29 (tr, fc, fun _ => 0, 77)).1) 0 30 (by omega) (by omega) (by omega) hs1.1 (by omega) (by omega) _) (cwV 3 hkw (k_gV kw_methodLink_Ph_75 kw_instanceMethod_Ph_searchShortest kw_selects_Ph_searchShortest kw_initialized_Ph kw_code_Ph_searchShortest) rfl rfl rfl (by decide +kernel) ⟨(by have h9 : n + 4 + 1 ≤ 12 := (by omega); exact h9), (by have h9 : 8 + (8 + 11) + (29 * n + 200) ≤ 600 := (by omega); exact h9)⟩) (k_preVT (px := [(h, .inr (1, [.ref qo, .ref qs, .int (zI ↑n), .int (zI ↑sd), .ref qp, .ref qc, .ref qt, .ref qf, .ref qn, .int (zI (↑((sM of se (fAll t se n 0 pc Pl).1 (fAll t se n 0 pc Pl).2 n 0 0 (-9) 29 (tr, fc, fun _ => 0, 77)).2.2.2))), .int (zI 0), .int (zI 30)])), (qs, .inl (cI, 4, .inl (kA se))), (qp, .inl (cG, 4, .inr (.inr (.inr (.inr (fun i => some (gr i))))))), (qc, .inl (cI, 4, .inl (kA ((fAll t se n 0 pc Pl).1)))), (qt, .inl (cI, 4, .inl (kA ((sM of se (fAll t se n 0 pc Pl).1 (fAll t se n 0 pc Pl).2 n 0 0 (-9) 29 (tr, fc, fun _ => 0, 77)).1))))]) (tc := k_p3 cI gr (fAll t se n 0 pc Pl).2) (q0 := 0) hK hG hP hD [1, 3, 4, 5, 6] rfl rfl (fun _ h => h) ((k_D_right hD).weaken (fun _ _ _ _ => trivial)) rfl rfl) rfl rfl hl.1 rfl (lv_room (Nat.le_of_ble_eq_true rfl)) d_Ph_settle_60 ⟨Nat.zero_le _, Nat.zero_le _⟩) hP hD hS hA [1, 3, 4, 5, 6] rfl (Eq.trans (b := [h, qs, qp, qc, qt]) rfl rfl) (fun _ h => h) rfl (fun _ h => Or.inl h) ?_
      clear hP hD hS; intro H locs hP hD hS
      replace hP : va_P D k_cl ([(tx, .inl (cI, 30, .inl (kA t))), (h, .inr (1, [.ref qo, .ref qs, .int (zI ↑n), .int (zI ↑sd), .ref qp, .ref qc, .ref qt, .ref qf, .ref qn, .int (zI (↑((sM of se (fAll t se n 0 pc Pl).1 (fAll t se n 0 pc Pl).2 n 0 0 (-9) 29 (tr, fc, fun _ => 0, 77)).2.2.2))), .int (zI ((sT se (fAll t se n 0 pc Pl).1 (fAll t se n 0 pc Pl).2 n 0 30 (-1) ((sM of se (fAll t se n 0 pc Pl).1 (fAll t se n 0 pc Pl).2 n 0 0 (-9) 29 (tr, fc, fun _ => 0, 77)).1, 0, 30)).2.1)), .int (zI ((sT se (fAll t se n 0 pc Pl).1 (fAll t se n 0 pc Pl).2 n 0 30 (-1) ((sM of se (fAll t se n 0 pc Pl).1 (fAll t se n 0 pc Pl).2 n 0 0 (-9) 29 (tr, fc, fun _ => 0, 77)).1, 0, 30)).2.2))])), (qo, .inl (cI, 4, .inl (kA of))), (qs, .inl (cI, 4, .inl (kA se))), (qp, .inl (cG, 4, .inr (.inr (.inr (.inr (fun i => some (gr i))))))), (qc, .inl (cI, 4, .inl (kA ((fAll t se n 0 pc Pl).1)))), (qt, .inl (cI, 4, .inl (kA ((sT se (fAll t se n 0 pc Pl).1 (fAll t se n 0 pc Pl).2 n 0 30 (-1) ((sM of se (fAll t se n 0 pc Pl).1 (fAll t se n 0 pc Pl).2 n 0 0 (-9) 29 (tr, fc, fun _ => 0, 77)).1, 0, 30)).1)))), (qf, .inl (cI, 4, .inl (kA ((sM of se (fAll t se n 0 pc Pl).1 (fAll t se n 0 pc Pl).2 n 0 0 (-9) 29 (tr, fc, fun _ => 0, 77)).2.1)))), (qn, .inl (cI, 77, .inl (kA ((sM of se (fAll t se n 0 pc Pl).1 (fAll t se n 0 pc Pl).2 n 0 0 (-9) 29 (tr, fc, fun _ => 0, 77)).2.2.1))))] ++ (k_p3 cI gr (fAll t se n 0 pc Pl).2)) H := hP
      replace hD : va_D A ([(tx, .inl (cI, 30, .inl (kA t))), (h, .inr (1, [.ref qo, .ref qs, .int (zI ↑n), .int (zI ↑sd), .ref qp, .ref qc, .ref qt, .ref qf, .ref qn, .int (zI (↑((sM of se (fAll t se n 0 pc Pl).1 (fAll t se n 0 pc Pl).2 n 0 0 (-9) 29 (tr, fc, fun _ => 0, 77)).2.2.2))), .int (zI ((sT se (fAll t se n 0 pc Pl).1 (fAll t se n 0 pc Pl).2 n 0 30 (-1) ((sM of se (fAll t se n 0 pc Pl).1 (fAll t se n 0 pc Pl).2 n 0 0 (-9) 29 (tr, fc, fun _ => 0, 77)).1, 0, 30)).2.1)), .int (zI ((sT se (fAll t se n 0 pc Pl).1 (fAll t se n 0 pc Pl).2 n 0 30 (-1) ((sM of se (fAll t se n 0 pc Pl).1 (fAll t se n 0 pc Pl).2 n 0 0 (-9) 29 (tr, fc, fun _ => 0, 77)).1, 0, 30)).2.2))])), (qo, .inl (cI, 4, .inl (kA of))), (qs, .inl (cI, 4, .inl (kA se))), (qp, .inl (cG, 4, .inr (.inr (.inr (.inr (fun i => some (gr i))))))), (qc, .inl (cI, 4, .inl (kA ((fAll t se n 0 pc Pl).1)))), (qt, .inl (cI, 4, .inl (kA ((sT se (fAll t se n 0 pc Pl).1 (fAll t se n 0 pc Pl).2 n 0 30 (-1) ((sM of se (fAll t se n 0 pc Pl).1 (fAll t se n 0 pc Pl).2 n 0 0 (-9) 29 (tr, fc, fun _ => 0, 77)).1, 0, 30)).1)))), (qf, .inl (cI, 4, .inl (kA ((sM of se (fAll t se n 0 pc Pl).1 (fAll t se n 0 pc Pl).2 n 0 0 (-9) 29 (tr, fc, fun _ => 0, 77)).2.1)))), (qn, .inl (cI, 77, .inl (kA ((sM of se (fAll t se n 0 pc Pl).1 (fAll t se n 0 pc Pl).2 n 0 0 (-9) 29 (tr, fc, fun _ => 0, 77)).2.2.1))))] ++ (k_p3 cI gr (fAll t se n 0 pc Pl).2)) := hD
      refine lv_aload_n hx hb d_Ph_settle_63 rfl (lv_at hl 0 rfl) ?_
      refine lv_iconst (v := zI 1) hx hb d_Ph_settle_64 (by decide) ?_
      refine va_put (D := D) (ci := 1) (v := .int (zI 1)) (ty := .boolean) (C := R_Ph) (T := T_Ph) (N := 12) hx hb hkw kin_Ph ty_Ph ty_Ph_ok nm_Ph hown hK hP hD hS 1 rfl rfl 3 (by decide) (hkw _ kw_fieldLink_Ph_22) (fun _ h9 => h9) rfl (by decide +kernel) (by decide) (by decide) (Nat.le_of_ble_eq_true rfl) d_Ph_settle_65 ?_
      clear hP hD hS; intro H locs hP hD hS
      replace hP : va_P D k_cl ([(tx, .inl (cI, 30, .inl (kA t))), (h, .inr (1, [.ref qo, .ref qs, .int (zI ↑n), .int (zI 1), .ref qp, .ref qc, .ref qt, .ref qf, .ref qn, .int (zI (↑((sM of se (fAll t se n 0 pc Pl).1 (fAll t se n 0 pc Pl).2 n 0 0 (-9) 29 (tr, fc, fun _ => 0, 77)).2.2.2))), .int (zI ((sT se (fAll t se n 0 pc Pl).1 (fAll t se n 0 pc Pl).2 n 0 30 (-1) ((sM of se (fAll t se n 0 pc Pl).1 (fAll t se n 0 pc Pl).2 n 0 0 (-9) 29 (tr, fc, fun _ => 0, 77)).1, 0, 30)).2.1)), .int (zI ((sT se (fAll t se n 0 pc Pl).1 (fAll t se n 0 pc Pl).2 n 0 30 (-1) ((sM of se (fAll t se n 0 pc Pl).1 (fAll t se n 0 pc Pl).2 n 0 0 (-9) 29 (tr, fc, fun _ => 0, 77)).1, 0, 30)).2.2))])), (qo, .inl (cI, 4, .inl (kA of))), (qs, .inl (cI, 4, .inl (kA se))), (qp, .inl (cG, 4, .inr (.inr (.inr (.inr (fun i => some (gr i))))))), (qc, .inl (cI, 4, .inl (kA ((fAll t se n 0 pc Pl).1)))), (qt, .inl (cI, 4, .inl (kA ((sT se (fAll t se n 0 pc Pl).1 (fAll t se n 0 pc Pl).2 n 0 30 (-1) ((sM of se (fAll t se n 0 pc Pl).1 (fAll t se n 0 pc Pl).2 n 0 0 (-9) 29 (tr, fc, fun _ => 0, 77)).1, 0, 30)).1)))), (qf, .inl (cI, 4, .inl (kA ((sM of se (fAll t se n 0 pc Pl).1 (fAll t se n 0 pc Pl).2 n 0 0 (-9) 29 (tr, fc, fun _ => 0, 77)).2.1)))), (qn, .inl (cI, 77, .inl (kA ((sM of se (fAll t se n 0 pc Pl).1 (fAll t se n 0 pc Pl).2 n 0 0 (-9) 29 (tr, fc, fun _ => 0, 77)).2.2.1))))] ++ (k_p3 cI gr (fAll t se n 0 pc Pl).2)) H := hP
      replace hD : va_D A ([(tx, .inl (cI, 30, .inl (kA t))), (h, .inr (1, [.ref qo, .ref qs, .int (zI ↑n), .int (zI 1), .ref qp, .ref qc, .ref qt, .ref qf, .ref qn, .int (zI (↑((sM of se (fAll t se n 0 pc Pl).1 (fAll t se n 0 pc Pl).2 n 0 0 (-9) 29 (tr, fc, fun _ => 0, 77)).2.2.2))), .int (zI ((sT se (fAll t se n 0 pc Pl).1 (fAll t se n 0 pc Pl).2 n 0 30 (-1) ((sM of se (fAll t se n 0 pc Pl).1 (fAll t se n 0 pc Pl).2 n 0 0 (-9) 29 (tr, fc, fun _ => 0, 77)).1, 0, 30)).2.1)), .int (zI ((sT se (fAll t se n 0 pc Pl).1 (fAll t se n 0 pc Pl).2 n 0 30 (-1) ((sM of se (fAll t se n 0 pc Pl).1 (fAll t se n 0 pc Pl).2 n 0 0 (-9) 29 (tr, fc, fun _ => 0, 77)).1, 0, 30)).2.2))])), (qo, .inl (cI, 4, .inl (kA of))), (qs, .inl (cI, 4, .inl (kA se))), (qp, .inl (cG, 4, .inr (.inr (.inr (.inr (fun i => some (gr i))))))), (qc, .inl (cI, 4, .inl (kA ((fAll t se n 0 pc Pl).1)))), (qt, .inl (cI, 4, .inl (kA ((sT se (fAll t se n 0 pc Pl).1 (fAll t se n 0 pc Pl).2 n 0 30 (-1) ((sM of se (fAll t se n 0 pc Pl).1 (fAll t se n 0 pc Pl).2 n 0 0 (-9) 29 (tr, fc, fun _ => 0, 77)).1, 0, 30)).1)))), (qf, .inl (cI, 4, .inl (kA ((sM of se (fAll t se n 0 pc Pl).1 (fAll t se n 0 pc Pl).2 n 0 0 (-9) 29 (tr, fc, fun _ => 0, 77)).2.1)))), (qn, .inl (cI, 77, .inl (kA ((sM of se (fAll t se n 0 pc Pl).1 (fAll t se n 0 pc Pl).2 n 0 0 (-9) 29 (tr, fc, fun _ => 0, 77)).2.2.1))))] ++ (k_p3 cI gr (fAll t se n 0 pc Pl).2)) := hD
      rw [← hQf]
      exact k_vret hx hb hr hlocks hP hS d_Ph_settle_68
  · exfalso; omega
end
