def R_As : String := "PhraseMoves$AskList"
def T_As : u_T := fun k => match k with
  | 0 => ("PhraseMoves$AskList", "kinds", "[I", true)
  | 1 => ("PhraseMoves$AskList", "firsts", "[I", true)
  | 2 => ("PhraseMoves$AskList", "seconds", "[I", true)
  | 3 => ("PhraseMoves$AskList", "numbers", "[I", true)
  | 4 => ("PhraseMoves$AskList", "rows", "[LPhraseMoves$Row;", true)
  | 5 => ("PhraseMoves$AskList", "size", "I", false)
  | _ => ("PhraseMoves$AskList", "ready", "I", false)
def ty_As : Nat → FieldType := fun k => match k with
  | 0 => .array .int
  | 1 => .array .int
  | 2 => .array .int
  | 3 => .array .int
  | 4 => .array (.object "PhraseMoves$Row")
  | 5 => .int
  | _ => .int
theorem nm_As : ∀ a, a < 7 → ∀ b, b < 7 → a ≠ b → (T_As a).2.1 ≠ (T_As b).2.1 := by decide +kernel
theorem ty_As_ok : ∀ k, k < 7 → parseFieldDescriptor (T_As k).2.2.1 = some (ty_As k) := by decide +kernel
def R_Ph : String := "PhraseMoves$Phrase"
def T_Ph : u_T := fun k => match k with
  | 0 => ("PhraseMoves$Phrase", "offsets", "[I", true)
  | 1 => ("PhraseMoves$Phrase", "sets", "[I", true)
  | 2 => ("PhraseMoves$Phrase", "size", "I", false)
  | 3 => ("PhraseMoves$Phrase", "settled", "Z", false)
  | 4 => ("PhraseMoves$Phrase", "places", "[[I", true)
  | 5 => ("PhraseMoves$Phrase", "placesOf", "[I", true)
  | 6 => ("PhraseMoves$Phrase", "tried", "[I", true)
  | 7 => ("PhraseMoves$Phrase", "firstChoice", "[I", true)
  | 8 => ("PhraseMoves$Phrase", "counts", "[I", true)
  | 9 => ("PhraseMoves$Phrase", "lowestMoved", "I", false)
  | 10 => ("PhraseMoves$Phrase", "shortFrom", "I", false)
  | _ => ("PhraseMoves$Phrase", "shortTo", "I", false)
def ty_Ph : Nat → FieldType := fun k => match k with
  | 0 => .array .int
  | 1 => .array .int
  | 2 => .int
  | 3 => .boolean
  | 4 => .array (.array .int)
  | 5 => .array .int
  | 6 => .array .int
  | 7 => .array .int
  | 8 => .array .int
  | 9 => .int
  | 10 => .int
  | _ => .int
theorem nm_Ph : ∀ a, a < 12 → ∀ b, b < 12 → a ≠ b → (T_Ph a).2.1 ≠ (T_Ph b).2.1 := by decide +kernel
theorem ty_Ph_ok : ∀ k, k < 12 → parseFieldDescriptor (T_Ph k).2.2.1 = some (ty_Ph k) := by decide +kernel
def R_Ro : String := "PhraseMoves$Row"
def T_Ro : u_T := fun k => match k with
  | _ => ("PhraseMoves$Row", "ends", "[I", true)
def ty_Ro : Nat → FieldType := fun k => match k with
  | _ => .array .int
theorem nm_Ro : ∀ a, a < 1 → ∀ b, b < 1 → a ≠ b → (T_Ro a).2.1 ≠ (T_Ro b).2.1 := by decide +kernel
theorem ty_Ro_ok : ∀ k, k < 1 → parseFieldDescriptor (T_Ro k).2.2.1 = some (ty_Ro k) := by decide +kernel
def R_Pm : String := "PhraseMoves"
def T_Pm : u_T := fun k => match k with
  | 0 => ("PhraseMoves", "text", "[I", true)
  | 1 => ("PhraseMoves", "asks", "LPhraseMoves$AskList;", true)
  | _ => ("PhraseMoves", "phrase", "LPhraseMoves$Phrase;", true)
def ty_Pm : Nat → FieldType := fun k => match k with
  | 0 => .array .int
  | 1 => .object "PhraseMoves$AskList"
  | _ => .object "PhraseMoves$Phrase"
theorem nm_Pm : ∀ a, a < 3 → ∀ b, b < 3 → a ≠ b → (T_Pm a).2.1 ≠ (T_Pm b).2.1 := by decide +kernel
theorem ty_Pm_ok : ∀ k, k < 3 → parseFieldDescriptor (T_Pm k).2.2.1 = some (ty_Pm k) := by decide +kernel
def R_Mo : String := "PhraseMovesModel"
def T_Mo : u_T := fun k => match k with
  | 0 => ("PhraseMovesModel", "text", "[I", true)
  | 1 => ("PhraseMovesModel", "asks", "I", false)
  | 2 => ("PhraseMovesModel", "kinds", "[I", true)
  | 3 => ("PhraseMovesModel", "one", "[I", true)
  | 4 => ("PhraseMovesModel", "other", "[I", true)
  | 5 => ("PhraseMovesModel", "number", "[I", true)
  | 6 => ("PhraseMovesModel", "slots", "I", false)
  | 7 => ("PhraseMovesModel", "offsets", "[I", true)
  | 8 => ("PhraseMovesModel", "sets", "[I", true)
  | 9 => ("PhraseMovesModel", "known", "Z", false)
  | 10 => ("PhraseMovesModel", "ends", "[I", true)
  | 11 => ("PhraseMovesModel", "under", "[I", true)
  | 12 => ("PhraseMovesModel", "many", "[I", true)
  | 13 => ("PhraseMovesModel", "choices", "I", false)
  | 14 => ("PhraseMovesModel", "least", "I", false)
  | 15 => ("PhraseMovesModel", "first", "[I", true)
  | 16 => ("PhraseMovesModel", "shortFrom", "I", false)
  | 17 => ("PhraseMovesModel", "shortTo", "I", false)
  | _ => ("PhraseMovesModel", "places", "[I", true)
def ty_Mo : Nat → FieldType := fun k => match k with
  | 0 => .array .int
  | 1 => .int
  | 2 => .array .int
  | 3 => .array .int
  | 4 => .array .int
  | 5 => .array .int
  | 6 => .int
  | 7 => .array .int
  | 8 => .array .int
  | 9 => .boolean
  | 10 => .array .int
  | 11 => .array .int
  | 12 => .array .int
  | 13 => .int
  | 14 => .int
  | 15 => .array .int
  | 16 => .int
  | 17 => .int
  | _ => .array .int
theorem nm_Mo : ∀ a, a < 19 → ∀ b, b < 19 → a ≠ b → (T_Mo a).2.1 ≠ (T_Mo b).2.1 := by decide +kernel
theorem ty_Mo_ok : ∀ k, k < 19 → parseFieldDescriptor (T_Mo k).2.2.1 = some (ty_Mo k) := by decide +kernel
abbrev b_Pm_init : ByteArray := prog_1_method_1_code
def y_Pm_init : MethodName := ⟨R_Pm, "<init>", "()V"⟩
abbrev b_As_init : ByteArray := prog_2_method_1_code
def y_As_init : MethodName := ⟨R_As, "<init>", "()V"⟩
abbrev b_Ro_init : ByteArray := prog_4_method_1_code
def y_Ro_init : MethodName := ⟨R_Ro, "<init>", "()V"⟩
abbrev b_Ja_fill : ByteArray := prog_9_method_103_code
def y_Ja_fill : MethodName := ⟨"java/util/Arrays", "fill", "([II)V"⟩
abbrev b_Ph_init : ByteArray := prog_3_method_1_code
def y_Ph_init : MethodName := ⟨R_Ph, "<init>", "()V"⟩
abbrev b_Pm_put : ByteArray := prog_1_method_2_code
def y_Pm_put : MethodName := ⟨R_Pm, "put", "(II)I"⟩
abbrev b_Pm_isPlace : ByteArray := prog_1_method_19_code
def y_Pm_isPlace : MethodName := ⟨R_Pm, "isPlace", "(I)Z"⟩
abbrev b_Pm_isSet : ByteArray := prog_1_method_20_code
def y_Pm_isSet : MethodName := ⟨R_Pm, "isSet", "(I)Z"⟩
abbrev b_Pm_textHasChanged : ByteArray := prog_1_method_18_code
def y_Pm_textHasChanged : MethodName := ⟨R_Pm, "textHasChanged", "()V"⟩
abbrev b_As_outdate : ByteArray := prog_2_method_5_code
def y_As_outdate : MethodName := ⟨R_As, "outdate", "()V"⟩
abbrev b_Ph_outdate : ByteArray := prog_3_method_5_code
def y_Ph_outdate : MethodName := ⟨R_Ph, "outdate", "()V"⟩
abbrev b_Pm_clear : ByteArray := prog_1_method_3_code
def y_Pm_clear : MethodName := ⟨R_Pm, "clear", "()I"⟩
abbrev b_Pm_ask : ByteArray := prog_1_method_4_code
def y_Pm_ask : MethodName := ⟨R_Pm, "ask", "(IIII)I"⟩
abbrev b_Pm_isKind : ByteArray := prog_1_method_22_code
def y_Pm_isKind : MethodName := ⟨R_Pm, "isKind", "(I)Z"⟩
abbrev b_Pm_countsNumber : ByteArray := prog_1_method_26_code
def y_Pm_countsNumber : MethodName := ⟨R_Pm, "countsNumber", "(I)Z"⟩
abbrev b_Pm_isNumberOf : ByteArray := prog_1_method_23_code
def y_Pm_isNumberOf : MethodName := ⟨R_Pm, "isNumberOf", "(II)Z"⟩
abbrev b_Pm_countsFirst : ByteArray := prog_1_method_24_code
def y_Pm_countsFirst : MethodName := ⟨R_Pm, "countsFirst", "(I)Z"⟩
abbrev b_As_has : ByteArray := prog_2_method_2_code
def y_As_has : MethodName := ⟨R_As, "has", "(I)Z"⟩
abbrev b_Pm_countsSecond : ByteArray := prog_1_method_25_code
def y_Pm_countsSecond : MethodName := ⟨R_Pm, "countsSecond", "(I)Z"⟩
abbrev b_As_append : ByteArray := prog_2_method_3_code
def y_As_append : MethodName := ⟨R_As, "append", "(IIII)I"⟩
abbrev b_Pm_forget : ByteArray := prog_1_method_5_code
def y_Pm_forget : MethodName := ⟨R_Pm, "forget", "()I"⟩
abbrev b_As_dropAll : ByteArray := prog_2_method_4_code
def y_As_dropAll : MethodName := ⟨R_As, "dropAll", "()I"⟩
abbrev b_Pm_count : ByteArray := prog_1_method_6_code
def y_Pm_count : MethodName := ⟨R_Pm, "count", "(I)I"⟩
abbrev b_As_rowOf : ByteArray := prog_2_method_6_code
def y_As_rowOf : MethodName := ⟨R_As, "rowOf", "(I[I)LPhraseMoves$Row;"⟩
abbrev b_As_workOut : ByteArray := prog_2_method_7_code
def y_As_workOut : MethodName := ⟨R_As, "workOut", "(I[I)V"⟩
abbrev b_Ro_empty : ByteArray := prog_4_method_2_code
def y_Ro_empty : MethodName := ⟨R_Ro, "empty", "()V"⟩
abbrev b_Ro_addPlacesWith : ByteArray := prog_4_method_10_code
def y_Ro_addPlacesWith : MethodName := ⟨R_Ro, "addPlacesWith", "(I[I)V"⟩
abbrev b_Ro_add : ByteArray := prog_4_method_3_code
def y_Ro_add : MethodName := ⟨R_Ro, "add", "(II)V"⟩
abbrev b_Ro_addAll : ByteArray := prog_4_method_11_code
def y_Ro_addAll : MethodName := ⟨R_Ro, "addAll", "(LPhraseMoves$Row;)V"⟩
abbrev b_Ro_addGrown : ByteArray := prog_4_method_12_code
def y_Ro_addGrown : MethodName := ⟨R_Ro, "addGrown", "(LPhraseMoves$Row;I)V"⟩
abbrev b_Ro_beginsAt : ByteArray := prog_4_method_5_code
def y_Ro_beginsAt : MethodName := ⟨R_Ro, "beginsAt", "(I)Z"⟩
abbrev b_Ro_addBehind : ByteArray := prog_4_method_14_code
def y_Ro_addBehind : MethodName := ⟨R_Ro, "addBehind", "(LPhraseMoves$Row;LPhraseMoves$Row;I)V"⟩
abbrev b_Ro_addBehindOne : ByteArray := prog_4_method_15_code
def y_Ro_addBehindOne : MethodName := ⟨R_Ro, "addBehindOne", "(IILPhraseMoves$Row;I)V"⟩
abbrev b_Ro_addBoth : ByteArray := prog_4_method_16_code
def y_Ro_addBoth : MethodName := ⟨R_Ro, "addBoth", "(LPhraseMoves$Row;LPhraseMoves$Row;I)V"⟩
abbrev b_Ro_addBothOfOne : ByteArray := prog_4_method_17_code
def y_Ro_addBothOfOne : MethodName := ⟨R_Ro, "addBothOfOne", "(IILPhraseMoves$Row;I)V"⟩
abbrev b_Ro_addHolding : ByteArray := prog_4_method_18_code
def y_Ro_addHolding : MethodName := ⟨R_Ro, "addHolding", "(LPhraseMoves$Row;LPhraseMoves$Row;)V"⟩
abbrev b_Ro_hasWithin : ByteArray := prog_4_method_21_code
def y_Ro_hasWithin : MethodName := ⟨R_Ro, "hasWithin", "(II)Z"⟩
abbrev b_Ro_addIn : ByteArray := prog_4_method_19_code
def y_Ro_addIn : MethodName := ⟨R_Ro, "addIn", "(LPhraseMoves$Row;LPhraseMoves$Row;)V"⟩
abbrev b_Ro_hasAround : ByteArray := prog_4_method_22_code
def y_Ro_hasAround : MethodName := ⟨R_Ro, "hasAround", "(II)Z"⟩
abbrev b_Ro_addByNearness : ByteArray := prog_4_method_20_code
def y_Ro_addByNearness : MethodName := ⟨R_Ro, "addByNearness", "(LPhraseMoves$Row;LPhraseMoves$Row;IZ)V"⟩
abbrev b_Ro_hasNear : ByteArray := prog_4_method_23_code
def y_Ro_hasNear : MethodName := ⟨R_Ro, "hasNear", "(III)Z"⟩
abbrev b_Ro_addEndingBefore : ByteArray := prog_4_method_13_code
def y_Ro_addEndingBefore : MethodName := ⟨R_Ro, "addEndingBefore", "(LPhraseMoves$Row;I)V"⟩
abbrev b_Ro_keepLeast : ByteArray := prog_4_method_4_code
def y_Ro_keepLeast : MethodName := ⟨R_Ro, "keepLeast", "()V"⟩
abbrev b_Ro_size : ByteArray := prog_4_method_6_code
def y_Ro_size : MethodName := ⟨R_Ro, "size", "()I"⟩
abbrev b_Pm_begin : ByteArray := prog_1_method_7_code
def y_Pm_begin : MethodName := ⟨R_Pm, "begin", "(II)I"⟩
abbrev b_Ro_beginOf : ByteArray := prog_4_method_7_code
def y_Ro_beginOf : MethodName := ⟨R_Ro, "beginOf", "(I)I"⟩
abbrev b_Pm_end : ByteArray := prog_1_method_8_code
def y_Pm_end : MethodName := ⟨R_Pm, "end", "(II)I"⟩
abbrev b_Ro_endOf : ByteArray := prog_4_method_8_code
def y_Ro_endOf : MethodName := ⟨R_Ro, "endOf", "(I)I"⟩
abbrev b_Pm_covered : ByteArray := prog_1_method_9_code
def y_Pm_covered : MethodName := ⟨R_Pm, "covered", "(I)I"⟩
abbrev b_Ro_placesCovered : ByteArray := prog_4_method_9_code
def y_Ro_placesCovered : MethodName := ⟨R_Ro, "placesCovered", "()I"⟩
abbrev b_Pm_slot : ByteArray := prog_1_method_10_code
def y_Pm_slot : MethodName := ⟨R_Pm, "slot", "(II)I"⟩
abbrev b_Ph_append : ByteArray := prog_3_method_3_code
def y_Ph_append : MethodName := ⟨R_Ph, "append", "(II)I"⟩
abbrev b_Pm_unslot : ByteArray := prog_1_method_11_code
def y_Pm_unslot : MethodName := ⟨R_Pm, "unslot", "()I"⟩
abbrev b_Ph_dropAll : ByteArray := prog_3_method_4_code
def y_Ph_dropAll : MethodName := ⟨R_Ph, "dropAll", "()I"⟩
abbrev b_Pm_matches : ByteArray := prog_1_method_12_code
def y_Pm_matches : MethodName := ⟨R_Pm, "matches", "(I)I"⟩
abbrev b_Pm_isSlop : ByteArray := prog_1_method_21_code
def y_Pm_isSlop : MethodName := ⟨R_Pm, "isSlop", "(I)Z"⟩
abbrev b_Ph_settle : ByteArray := prog_3_method_14_code
def y_Ph_settle : MethodName := ⟨R_Ph, "settle", "([I)V"⟩
abbrev b_Ph_findPlaces : ByteArray := prog_3_method_15_code
def y_Ph_findPlaces : MethodName := ⟨R_Ph, "findPlaces", "([I)V"⟩
abbrev b_Ph_searchMoved : ByteArray := prog_3_method_16_code
def y_Ph_searchMoved : MethodName := ⟨R_Ph, "searchMoved", "(IIII)V"⟩
abbrev b_Ph_noteChoice : ByteArray := prog_3_method_17_code
def y_Ph_noteChoice : MethodName := ⟨R_Ph, "noteChoice", "(I)V"⟩
abbrev b_Ph_isFree : ByteArray := prog_3_method_20_code
def y_Ph_isFree : MethodName := ⟨R_Ph, "isFree", "(II)Z"⟩
abbrev b_Ph_searchShortest : ByteArray := prog_3_method_18_code
def y_Ph_searchShortest : MethodName := ⟨R_Ph, "searchShortest", "(III)V"⟩
abbrev b_Ph_isShorter : ByteArray := prog_3_method_19_code
def y_Ph_isShorter : MethodName := ⟨R_Ph, "isShorter", "(II)Z"⟩
abbrev b_Ph_choicesUpTo : ByteArray := prog_3_method_12_code
def y_Ph_choicesUpTo : MethodName := ⟨R_Ph, "choicesUpTo", "(I)I"⟩
abbrev b_Pm_weight : ByteArray := prog_1_method_13_code
def y_Pm_weight : MethodName := ⟨R_Pm, "weight", "(I)J"⟩
abbrev b_Ph_weightUpTo : ByteArray := prog_3_method_13_code
def y_Ph_weightUpTo : MethodName := ⟨R_Ph, "weightUpTo", "(I)J"⟩
abbrev b_Pm_least : ByteArray := prog_1_method_14_code
def y_Pm_least : MethodName := ⟨R_Pm, "least", "()I"⟩
abbrev b_Ph_hasChoice : ByteArray := prog_3_method_6_code
def y_Ph_hasChoice : MethodName := ⟨R_Ph, "hasChoice", "()Z"⟩
abbrev b_Ph_leastMoved : ByteArray := prog_3_method_7_code
def y_Ph_leastMoved : MethodName := ⟨R_Ph, "leastMoved", "()I"⟩
abbrev b_Pm_chosen : ByteArray := prog_1_method_15_code
def y_Pm_chosen : MethodName := ⟨R_Pm, "chosen", "(I)I"⟩
abbrev b_Ph_has : ByteArray := prog_3_method_2_code
def y_Ph_has : MethodName := ⟨R_Ph, "has", "(I)Z"⟩
abbrev b_Ph_placeInFirst : ByteArray := prog_3_method_8_code
def y_Ph_placeInFirst : MethodName := ⟨R_Ph, "placeInFirst", "(I)I"⟩
abbrev b_Pm_ties : ByteArray := prog_1_method_16_code
def y_Pm_ties : MethodName := ⟨R_Pm, "ties", "()I"⟩
abbrev b_Ph_choicesMovedBy : ByteArray := prog_3_method_11_code
def y_Ph_choicesMovedBy : MethodName := ⟨R_Ph, "choicesMovedBy", "(I)I"⟩
abbrev b_Pm_shortest : ByteArray := prog_1_method_17_code
def y_Pm_shortest : MethodName := ⟨R_Pm, "shortest", "(I)I"⟩
abbrev b_Ph_shortestBegin : ByteArray := prog_3_method_9_code
def y_Ph_shortestBegin : MethodName := ⟨R_Ph, "shortestBegin", "()I"⟩
abbrev b_Ph_shortestEnd : ByteArray := prog_3_method_10_code
def y_Ph_shortestEnd : MethodName := ⟨R_Ph, "shortestEnd", "()I"⟩
abbrev b_Mo_init : ByteArray := prog_6_method_1_code
def y_Mo_init : MethodName := ⟨R_Mo, "<init>", "()V"⟩
abbrev b_Mo_put : ByteArray := prog_6_method_4_code
def y_Mo_put : MethodName := ⟨R_Mo, "put", "(II)I"⟩
abbrev b_Mo_isPlace : ByteArray := prog_6_method_2_code
def y_Mo_isPlace : MethodName := ⟨R_Mo, "isPlace", "(I)Z"⟩
abbrev b_Mo_isSet : ByteArray := prog_6_method_3_code
def y_Mo_isSet : MethodName := ⟨R_Mo, "isSet", "(I)Z"⟩
abbrev b_Mo_clear : ByteArray := prog_6_method_5_code
def y_Mo_clear : MethodName := ⟨R_Mo, "clear", "()I"⟩
abbrev b_Mo_ask : ByteArray := prog_6_method_7_code
def y_Mo_ask : MethodName := ⟨R_Mo, "ask", "(IIII)I"⟩
abbrev b_Mo_isAsk : ByteArray := prog_6_method_6_code
def y_Mo_isAsk : MethodName := ⟨R_Mo, "isAsk", "(I)Z"⟩
abbrev b_Mo_forget : ByteArray := prog_6_method_8_code
def y_Mo_forget : MethodName := ⟨R_Mo, "forget", "()I"⟩
abbrev b_Mo_count : ByteArray := prog_6_method_16_code
def y_Mo_count : MethodName := ⟨R_Mo, "count", "(I)I"⟩
abbrev b_Mo_findAll : ByteArray := prog_6_method_15_code
def y_Mo_findAll : MethodName := ⟨R_Mo, "findAll", "(I)V"⟩
abbrev b_Mo_find : ByteArray := prog_6_method_14_code
def y_Mo_find : MethodName := ⟨R_Mo, "find", "(I)V"⟩
abbrev b_Mo_alone : ByteArray := prog_6_method_13_code
def y_Mo_alone : MethodName := ⟨R_Mo, "alone", "(III)V"⟩
abbrev b_Mo_isFar : ByteArray := prog_6_method_12_code
def y_Mo_isFar : MethodName := ⟨R_Mo, "isFar", "(III)Z"⟩
abbrev b_Mo_gap : ByteArray := prog_6_method_10_code
def y_Mo_gap : MethodName := ⟨R_Mo, "gap", "(IIII)I"⟩
abbrev b_Mo_comes : ByteArray := prog_6_method_9_code
def y_Mo_comes : MethodName := ⟨R_Mo, "comes", "(II)V"⟩
abbrev b_Mo_pair : ByteArray := prog_6_method_11_code
def y_Mo_pair : MethodName := ⟨R_Mo, "pair", "(IIIII)V"⟩
abbrev b_Mo_begin : ByteArray := prog_6_method_18_code
def y_Mo_begin : MethodName := ⟨R_Mo, "begin", "(II)I"⟩
abbrev b_Mo_nth : ByteArray := prog_6_method_17_code
def y_Mo_nth : MethodName := ⟨R_Mo, "nth", "(II)I"⟩
abbrev b_Mo_end : ByteArray := prog_6_method_19_code
def y_Mo_end : MethodName := ⟨R_Mo, "end", "(II)I"⟩
abbrev b_Mo_covered : ByteArray := prog_6_method_20_code
def y_Mo_covered : MethodName := ⟨R_Mo, "covered", "(I)I"⟩
abbrev b_Mo_slot : ByteArray := prog_6_method_21_code
def y_Mo_slot : MethodName := ⟨R_Mo, "slot", "(II)I"⟩
abbrev b_Mo_unslot : ByteArray := prog_6_method_22_code
def y_Mo_unslot : MethodName := ⟨R_Mo, "unslot", "()I"⟩
abbrev b_Mo_matches : ByteArray := prog_6_method_27_code
def y_Mo_matches : MethodName := ⟨R_Mo, "matches", "(I)I"⟩
abbrev b_Mo_know : ByteArray := prog_6_method_26_code
def y_Mo_know : MethodName := ⟨R_Mo, "know", "()V"⟩
abbrev b_Mo_fits : ByteArray := prog_6_method_23_code
def y_Mo_fits : MethodName := ⟨R_Mo, "fits", "(II)Z"⟩
abbrev b_Mo_choose : ByteArray := prog_6_method_25_code
def y_Mo_choose : MethodName := ⟨R_Mo, "choose", "()V"⟩
abbrev b_Mo_moved : ByteArray := prog_6_method_24_code
def y_Mo_moved : MethodName := ⟨R_Mo, "moved", "()I"⟩
abbrev b_Mo_weight : ByteArray := prog_6_method_28_code
def y_Mo_weight : MethodName := ⟨R_Mo, "weight", "(I)J"⟩
abbrev b_Mo_least : ByteArray := prog_6_method_29_code
def y_Mo_least : MethodName := ⟨R_Mo, "least", "()I"⟩
abbrev b_Mo_chosen : ByteArray := prog_6_method_30_code
def y_Mo_chosen : MethodName := ⟨R_Mo, "chosen", "(I)I"⟩
abbrev b_Mo_ties : ByteArray := prog_6_method_31_code
def y_Mo_ties : MethodName := ⟨R_Mo, "ties", "()I"⟩
abbrev b_Mo_shortest : ByteArray := prog_6_method_32_code
def y_Mo_shortest : MethodName := ⟨R_Mo, "shortest", "(I)I"⟩
abbrev k_cl : List vw_C := [(R_As, T_As, 7), (R_Ph, T_Ph, 12), (R_Ro, T_Ro, 1), (R_Pm, T_Pm, 3), (R_Mo, T_Mo, 19)]
def kW_0 : List Cond := [.selects R_Pm y_Pm_textHasChanged y_Pm_textHasChanged, .selects R_As y_As_workOut y_As_workOut, .selects R_Ro y_Ro_addBehindOne y_Ro_addBehindOne, .selects R_Ro y_Ro_addBothOfOne y_Ro_addBothOfOne, .selects R_Ro y_Ro_hasWithin y_Ro_hasWithin, .selects R_Ro y_Ro_hasAround y_Ro_hasAround, .selects R_Ro y_Ro_hasNear y_Ro_hasNear, .selects R_Ph y_Ph_findPlaces y_Ph_findPlaces, .selects R_Ph y_Ph_searchMoved y_Ph_searchMoved, .selects R_Ph y_Ph_noteChoice y_Ph_noteChoice, .selects R_Ph y_Ph_isFree y_Ph_isFree, .selects R_Ph y_Ph_searchShortest y_Ph_searchShortest, .selects R_Ph y_Ph_isShorter y_Ph_isShorter, .selects R_Mo y_Mo_isAsk y_Mo_isAsk, .selects R_Mo y_Mo_findAll y_Mo_findAll, .selects R_Mo y_Mo_find y_Mo_find, .selects R_Mo y_Mo_alone y_Mo_alone, .selects R_Mo y_Mo_isFar y_Mo_isFar, .selects R_Mo y_Mo_comes y_Mo_comes, .selects R_Mo y_Mo_pair y_Mo_pair, .selects R_Mo y_Mo_nth y_Mo_nth, .selects R_Mo y_Mo_know y_Mo_know, .selects R_Mo y_Mo_fits y_Mo_fits, .selects R_Mo y_Mo_choose y_Mo_choose, .selects R_Mo y_Mo_moved y_Mo_moved, .initialized R_Pm, .initialized R_As, .initialized R_Ro, .initialized "java/util/Arrays", .initialized R_Ph, .initialized R_Mo, .initialized "java/lang/Math", .initialized "java/lang/System", .instantiable R_Pm 3, .instanceMethod y_Pm_init, .code y_Pm_init b_Pm_init 1 none, .methodLink R_Pm 3 objectInit, .instanceMethod objectInit, .code objectInit ⟨#[0xb1]⟩ 1 none, .classLink R_Pm 13 R_As]
def kW_1 : List Cond := [.instantiable R_As 7, .methodLink R_Pm 15 y_As_init, .instanceMethod y_As_init, .code y_As_init b_As_init 2 none, .methodLink R_As 3 objectInit, .classLink R_As 24 R_Ro, .instantiable R_Ro 1, .methodLink R_As 30 y_Ro_init, .instanceMethod y_Ro_init, .code y_Ro_init b_Ro_init 1 none, .methodLink R_Ro 3 objectInit, .methodLink R_Ro 15 y_Ja_fill, .static y_Ja_fill, .code y_Ja_fill b_Ja_fill 4 none, .fieldLink R_Ro 9 "PhraseMoves$Row" "ends" "[I", .laysFinal R_Ro "PhraseMoves$Row" "ends" "[I", .arrayClass .int, .fieldLink R_As 9 "PhraseMoves$AskList" "kinds" "[I", .fieldLink R_As 15 "PhraseMoves$AskList" "firsts" "[I", .fieldLink R_As 18 "PhraseMoves$AskList" "seconds" "[I", .fieldLink R_As 21 "PhraseMoves$AskList" "numbers" "[I", .fieldLink R_As 26 "PhraseMoves$AskList" "rows" "[LPhraseMoves$Row;", .fieldLink R_As 31 "PhraseMoves$AskList" "size" "I", .fieldLink R_As 35 "PhraseMoves$AskList" "ready" "I", .laysFinal R_As "PhraseMoves$AskList" "kinds" "[I", .laysFinal R_As "PhraseMoves$AskList" "firsts" "[I", .laysFinal R_As "PhraseMoves$AskList" "seconds" "[I", .laysFinal R_As "PhraseMoves$AskList" "numbers" "[I", .laysFinal R_As "PhraseMoves$AskList" "rows" "[LPhraseMoves$Row;", .lays R_As "PhraseMoves$AskList" "size" "I", .lays R_As "PhraseMoves$AskList" "ready" "I", .classLink R_Pm 20 R_Ph, .instantiable R_Ph 12, .methodLink R_Pm 22 y_Ph_init, .instanceMethod y_Ph_init, .code y_Ph_init b_Ph_init 1 none, .methodLink R_Ph 3 objectInit, .classLink R_Ph 26 "[[I", .fieldLink R_Ph 9 "PhraseMoves$Phrase" "offsets" "[I", .fieldLink R_Ph 15 "PhraseMoves$Phrase" "sets" "[I"]
def kW_2 : List Cond := [.fieldLink R_Ph 18 "PhraseMoves$Phrase" "size" "I", .fieldLink R_Ph 22 "PhraseMoves$Phrase" "settled" "Z", .fieldLink R_Ph 28 "PhraseMoves$Phrase" "places" "[[I", .fieldLink R_Ph 31 "PhraseMoves$Phrase" "placesOf" "[I", .fieldLink R_Ph 34 "PhraseMoves$Phrase" "tried" "[I", .fieldLink R_Ph 37 "PhraseMoves$Phrase" "firstChoice" "[I", .fieldLink R_Ph 40 "PhraseMoves$Phrase" "counts" "[I", .fieldLink R_Ph 43 "PhraseMoves$Phrase" "lowestMoved" "I", .fieldLink R_Ph 46 "PhraseMoves$Phrase" "shortFrom" "I", .fieldLink R_Ph 49 "PhraseMoves$Phrase" "shortTo" "I", .laysFinal R_Ph "PhraseMoves$Phrase" "offsets" "[I", .laysFinal R_Ph "PhraseMoves$Phrase" "sets" "[I", .lays R_Ph "PhraseMoves$Phrase" "size" "I", .lays R_Ph "PhraseMoves$Phrase" "settled" "Z", .laysFinal R_Ph "PhraseMoves$Phrase" "places" "[[I", .laysFinal R_Ph "PhraseMoves$Phrase" "placesOf" "[I", .laysFinal R_Ph "PhraseMoves$Phrase" "tried" "[I", .laysFinal R_Ph "PhraseMoves$Phrase" "firstChoice" "[I", .laysFinal R_Ph "PhraseMoves$Phrase" "counts" "[I", .lays R_Ph "PhraseMoves$Phrase" "lowestMoved" "I", .lays R_Ph "PhraseMoves$Phrase" "shortFrom" "I", .lays R_Ph "PhraseMoves$Phrase" "shortTo" "I", .fieldLink R_Pm 9 "PhraseMoves" "text" "[I", .fieldLink R_Pm 16 "PhraseMoves" "asks" "LPhraseMoves$AskList;", .fieldLink R_Pm 23 "PhraseMoves" "phrase" "LPhraseMoves$Phrase;", .laysFinal R_Pm "PhraseMoves" "text" "[I", .laysFinal R_Pm "PhraseMoves" "asks" "LPhraseMoves$AskList;", .laysFinal R_Pm "PhraseMoves" "phrase" "LPhraseMoves$Phrase;", .instanceMethod y_Pm_put, .selects R_Pm y_Pm_put y_Pm_put, .code y_Pm_put b_Pm_put 4 (some .int), .methodLink R_Pm 27 y_Pm_isPlace, .static y_Pm_isPlace, .code y_Pm_isPlace b_Pm_isPlace 1 (some .boolean), .methodLink R_Pm 31 y_Pm_isSet, .static y_Pm_isSet, .code y_Pm_isSet b_Pm_isSet 1 (some .boolean), .methodLink R_Pm 34 y_Pm_textHasChanged, .instanceMethod y_Pm_textHasChanged, .code y_Pm_textHasChanged b_Pm_textHasChanged 1 none]
def kW_3 : List Cond := [.methodLink R_Pm 123 y_As_outdate, .instanceMethod y_As_outdate, .selects R_As y_As_outdate y_As_outdate, .code y_As_outdate b_As_outdate 1 none, .methodLink R_Pm 126 y_Ph_outdate, .instanceMethod y_Ph_outdate, .selects R_Ph y_Ph_outdate y_Ph_outdate, .code y_Ph_outdate b_Ph_outdate 1 none, .instanceMethod y_Pm_clear, .selects R_Pm y_Pm_clear y_Pm_clear, .code y_Pm_clear b_Pm_clear 3 (some .int), .instanceMethod y_Pm_ask, .selects R_Pm y_Pm_ask y_Pm_ask, .code y_Pm_ask b_Pm_ask 5 (some .int), .methodLink R_Pm 37 y_Pm_isKind, .static y_Pm_isKind, .code y_Pm_isKind b_Pm_isKind 1 (some .boolean), .methodLink R_Pm 40 y_Pm_countsNumber, .static y_Pm_countsNumber, .code y_Pm_countsNumber b_Pm_countsNumber 1 (some .boolean), .methodLink R_Pm 43 y_Pm_isNumberOf, .static y_Pm_isNumberOf, .code y_Pm_isNumberOf b_Pm_isNumberOf 2 (some .boolean), .methodLink R_Pm 47 y_Pm_countsFirst, .static y_Pm_countsFirst, .code y_Pm_countsFirst b_Pm_countsFirst 1 (some .boolean), .methodLink R_Pm 50 y_As_has, .instanceMethod y_As_has, .selects R_As y_As_has y_As_has, .code y_As_has b_As_has 2 (some .boolean), .methodLink R_Pm 53 y_Pm_countsSecond, .static y_Pm_countsSecond, .code y_Pm_countsSecond b_Pm_countsSecond 1 (some .boolean), .methodLink R_Pm 56 y_As_append, .instanceMethod y_As_append, .selects R_As y_As_append y_As_append, .code y_As_append b_As_append 5 (some .int), .instanceMethod y_Pm_forget, .selects R_Pm y_Pm_forget y_Pm_forget, .code y_Pm_forget b_Pm_forget 1 (some .int)]
def kW_4 : List Cond := [.methodLink R_Pm 60 y_As_dropAll, .instanceMethod y_As_dropAll, .selects R_As y_As_dropAll y_As_dropAll, .code y_As_dropAll b_As_dropAll 2 (some .int), .instanceMethod y_Pm_count, .selects R_Pm y_Pm_count y_Pm_count, .code y_Pm_count b_Pm_count 2 (some .int), .methodLink R_Pm 64 y_As_rowOf, .instanceMethod y_As_rowOf, .selects R_As y_As_rowOf y_As_rowOf, .code y_As_rowOf b_As_rowOf 4 (some (.object "PhraseMoves$Row")), .methodLink R_As 38 y_As_workOut, .instanceMethod y_As_workOut, .code y_As_workOut b_As_workOut 7 none, .methodLink R_As 42 y_Ro_empty, .instanceMethod y_Ro_empty, .selects R_Ro y_Ro_empty y_Ro_empty, .code y_Ro_empty b_Ro_empty 1 none, .methodLink R_As 45 y_Ro_addPlacesWith, .instanceMethod y_Ro_addPlacesWith, .selects R_Ro y_Ro_addPlacesWith y_Ro_addPlacesWith, .code y_Ro_addPlacesWith b_Ro_addPlacesWith 4 none, .methodLink R_Ro 38 y_Ro_add, .instanceMethod y_Ro_add, .selects R_Ro y_Ro_add y_Ro_add, .code y_Ro_add b_Ro_add 3 none, .methodLink R_As 48 y_Ro_addAll, .instanceMethod y_Ro_addAll, .selects R_Ro y_Ro_addAll y_Ro_addAll, .code y_Ro_addAll b_Ro_addAll 2 none, .methodLink R_Ro 42 y_Ro_addGrown, .instanceMethod y_Ro_addGrown, .selects R_Ro y_Ro_addGrown y_Ro_addGrown, .code y_Ro_addGrown b_Ro_addGrown 4 none, .methodLink R_Ro 25 y_Ro_beginsAt, .instanceMethod y_Ro_beginsAt, .selects R_Ro y_Ro_beginsAt y_Ro_beginsAt, .code y_Ro_beginsAt b_Ro_beginsAt 2 (some .boolean), .methodLink R_Ro 32 Lib.Math.max.name, .static Lib.Math.max.name]
def kW_5 : List Cond := [.code Lib.Math.max.name Lib.Math.max.code 2 (some .int), .methodLink R_As 52 y_Ro_addBehind, .instanceMethod y_Ro_addBehind, .selects R_Ro y_Ro_addBehind y_Ro_addBehind, .code y_Ro_addBehind b_Ro_addBehind 5 none, .methodLink R_Ro 46 y_Ro_addBehindOne, .instanceMethod y_Ro_addBehindOne, .code y_Ro_addBehindOne b_Ro_addBehindOne 6 none, .methodLink R_As 56 y_Ro_addBoth, .instanceMethod y_Ro_addBoth, .selects R_Ro y_Ro_addBoth y_Ro_addBoth, .code y_Ro_addBoth b_Ro_addBoth 5 none, .methodLink R_Ro 50 y_Ro_addBothOfOne, .instanceMethod y_Ro_addBothOfOne, .code y_Ro_addBothOfOne b_Ro_addBothOfOne 8 none, .methodLink R_Ro 53 Lib.Math.min.name, .static Lib.Math.min.name, .code Lib.Math.min.name Lib.Math.min.code 2 (some .int), .methodLink R_As 59 y_Ro_addHolding, .instanceMethod y_Ro_addHolding, .selects R_Ro y_Ro_addHolding y_Ro_addHolding, .code y_Ro_addHolding b_Ro_addHolding 4 none, .methodLink R_Ro 56 y_Ro_hasWithin, .instanceMethod y_Ro_hasWithin, .code y_Ro_hasWithin b_Ro_hasWithin 4 (some .boolean), .methodLink R_As 63 y_Ro_addIn, .instanceMethod y_Ro_addIn, .selects R_Ro y_Ro_addIn y_Ro_addIn, .code y_Ro_addIn b_Ro_addIn 4 none, .methodLink R_Ro 60 y_Ro_hasAround, .instanceMethod y_Ro_hasAround, .code y_Ro_hasAround b_Ro_hasAround 4 (some .boolean), .methodLink R_As 66 y_Ro_addByNearness, .instanceMethod y_Ro_addByNearness, .selects R_Ro y_Ro_addByNearness y_Ro_addByNearness, .code y_Ro_addByNearness b_Ro_addByNearness 6 none, .methodLink R_Ro 63 y_Ro_hasNear, .instanceMethod y_Ro_hasNear, .code y_Ro_hasNear b_Ro_hasNear 5 (some .boolean), .methodLink R_As 70 y_Ro_addEndingBefore]
def kW_6 : List Cond := [.instanceMethod y_Ro_addEndingBefore, .selects R_Ro y_Ro_addEndingBefore y_Ro_addEndingBefore, .code y_Ro_addEndingBefore b_Ro_addEndingBefore 4 none, .methodLink R_As 74 y_Ro_addGrown, .methodLink R_As 77 y_Ro_keepLeast, .instanceMethod y_Ro_keepLeast, .selects R_Ro y_Ro_keepLeast y_Ro_keepLeast, .code y_Ro_keepLeast b_Ro_keepLeast 3 none, .methodLink R_Pm 68 y_Ro_size, .instanceMethod y_Ro_size, .selects R_Ro y_Ro_size y_Ro_size, .code y_Ro_size b_Ro_size 3 (some .int), .instanceMethod y_Pm_begin, .selects R_Pm y_Pm_begin y_Pm_begin, .code y_Pm_begin b_Pm_begin 3 (some .int), .methodLink R_Pm 73 y_Ro_beginOf, .instanceMethod y_Ro_beginOf, .selects R_Ro y_Ro_beginOf y_Ro_beginOf, .code y_Ro_beginOf b_Ro_beginOf 4 (some .int), .instanceMethod y_Pm_end, .selects R_Pm y_Pm_end y_Pm_end, .code y_Pm_end b_Pm_end 3 (some .int), .methodLink R_Pm 77 y_Ro_endOf, .instanceMethod y_Ro_endOf, .selects R_Ro y_Ro_endOf y_Ro_endOf, .code y_Ro_endOf b_Ro_endOf 3 (some .int), .methodLink R_Ro 28 y_Ro_beginOf, .instanceMethod y_Pm_covered, .selects R_Pm y_Pm_covered y_Pm_covered, .code y_Pm_covered b_Pm_covered 2 (some .int), .methodLink R_Pm 80 y_Ro_placesCovered, .instanceMethod y_Ro_placesCovered, .selects R_Ro y_Ro_placesCovered y_Ro_placesCovered, .code y_Ro_placesCovered b_Ro_placesCovered 4 (some .int), .instanceMethod y_Pm_slot, .selects R_Pm y_Pm_slot y_Pm_slot, .code y_Pm_slot b_Pm_slot 3 (some .int), .methodLink R_Pm 83 y_Ph_append, .instanceMethod y_Ph_append, .selects R_Ph y_Ph_append y_Ph_append]
def kW_7 : List Cond := [.code y_Ph_append b_Ph_append 3 (some .int), .methodLink R_Ph 52 y_Ph_outdate, .instanceMethod y_Pm_unslot, .selects R_Pm y_Pm_unslot y_Pm_unslot, .code y_Pm_unslot b_Pm_unslot 1 (some .int), .methodLink R_Pm 86 y_Ph_dropAll, .instanceMethod y_Ph_dropAll, .selects R_Ph y_Ph_dropAll y_Ph_dropAll, .code y_Ph_dropAll b_Ph_dropAll 2 (some .int), .instanceMethod y_Pm_matches, .selects R_Pm y_Pm_matches y_Pm_matches, .code y_Pm_matches b_Pm_matches 2 (some .int), .methodLink R_Pm 87 y_Pm_isSlop, .static y_Pm_isSlop, .code y_Pm_isSlop b_Pm_isSlop 1 (some .boolean), .methodLink R_Pm 90 y_Ph_settle, .instanceMethod y_Ph_settle, .selects R_Ph y_Ph_settle y_Ph_settle, .code y_Ph_settle b_Ph_settle 2 none, .methodLink R_Ph 61 y_Ja_fill, .methodLink R_Ph 67 y_Ph_findPlaces, .instanceMethod y_Ph_findPlaces, .code y_Ph_findPlaces b_Ph_findPlaces 5 none, .methodLink R_Ph 71 y_Ph_searchMoved, .instanceMethod y_Ph_searchMoved, .code y_Ph_searchMoved b_Ph_searchMoved 10 none, .methodLink R_Ph 79 y_Ph_noteChoice, .instanceMethod y_Ph_noteChoice, .code y_Ph_noteChoice b_Ph_noteChoice 2 none, .methodLink R_Ph 100 arraycopyName, .static arraycopyName, .native arraycopyName, .methodLink R_Ph 83 Lib.Math.min.name, .methodLink R_Ph 89 Lib.Math.max.name, .methodLink R_Ph 92 Lib.Math.abs.name, .static Lib.Math.abs.name, .code Lib.Math.abs.name Lib.Math.abs.code 1 (some .int), .methodLink R_Ph 96 y_Ph_isFree, .instanceMethod y_Ph_isFree, .code y_Ph_isFree b_Ph_isFree 4 (some .boolean)]
def kW_8 : List Cond := [.methodLink R_Ph 75 y_Ph_searchShortest, .instanceMethod y_Ph_searchShortest, .code y_Ph_searchShortest b_Ph_searchShortest 8 none, .methodLink R_Ph 106 y_Ph_isShorter, .instanceMethod y_Ph_isShorter, .code y_Ph_isShorter b_Ph_isShorter 5 (some .boolean), .methodLink R_Pm 94 y_Ph_choicesUpTo, .instanceMethod y_Ph_choicesUpTo, .selects R_Ph y_Ph_choicesUpTo y_Ph_choicesUpTo, .code y_Ph_choicesUpTo b_Ph_choicesUpTo 4 (some .int), .instanceMethod y_Pm_weight, .selects R_Pm y_Pm_weight y_Pm_weight, .code y_Pm_weight b_Pm_weight 2 (some .long), .constantLong R_Pm 97 (-2), .methodLink R_Pm 99 y_Ph_weightUpTo, .instanceMethod y_Ph_weightUpTo, .selects R_Ph y_Ph_weightUpTo y_Ph_weightUpTo, .code y_Ph_weightUpTo b_Ph_weightUpTo 5 (some .long), .constantLong R_Ph 59 (2520), .instanceMethod y_Pm_least, .selects R_Pm y_Pm_least y_Pm_least, .code y_Pm_least b_Pm_least 1 (some .int), .methodLink R_Pm 103 y_Ph_hasChoice, .instanceMethod y_Ph_hasChoice, .selects R_Ph y_Ph_hasChoice y_Ph_hasChoice, .code y_Ph_hasChoice b_Ph_hasChoice 1 (some .boolean), .methodLink R_Pm 107 y_Ph_leastMoved, .instanceMethod y_Ph_leastMoved, .selects R_Ph y_Ph_leastMoved y_Ph_leastMoved, .code y_Ph_leastMoved b_Ph_leastMoved 1 (some .int), .instanceMethod y_Pm_chosen, .selects R_Pm y_Pm_chosen y_Pm_chosen, .code y_Pm_chosen b_Pm_chosen 2 (some .int), .methodLink R_Pm 110 y_Ph_has, .instanceMethod y_Ph_has, .selects R_Ph y_Ph_has y_Ph_has, .code y_Ph_has b_Ph_has 2 (some .boolean), .methodLink R_Pm 111 y_Ph_placeInFirst, .instanceMethod y_Ph_placeInFirst, .selects R_Ph y_Ph_placeInFirst y_Ph_placeInFirst]
def kW_9 : List Cond := [.code y_Ph_placeInFirst b_Ph_placeInFirst 2 (some .int), .methodLink R_Ph 55 y_Ph_has, .instanceMethod y_Pm_ties, .selects R_Pm y_Pm_ties y_Pm_ties, .code y_Pm_ties b_Pm_ties 1 (some .int), .methodLink R_Pm 114 y_Ph_choicesMovedBy, .instanceMethod y_Ph_choicesMovedBy, .selects R_Ph y_Ph_choicesMovedBy y_Ph_choicesMovedBy, .code y_Ph_choicesMovedBy b_Ph_choicesMovedBy 2 (some .int), .instanceMethod y_Pm_shortest, .selects R_Pm y_Pm_shortest y_Pm_shortest, .code y_Pm_shortest b_Pm_shortest 2 (some .int), .methodLink R_Pm 117 y_Ph_shortestBegin, .instanceMethod y_Ph_shortestBegin, .selects R_Ph y_Ph_shortestBegin y_Ph_shortestBegin, .code y_Ph_shortestBegin b_Ph_shortestBegin 1 (some .int), .methodLink R_Pm 120 y_Ph_shortestEnd, .instanceMethod y_Ph_shortestEnd, .selects R_Ph y_Ph_shortestEnd y_Ph_shortestEnd, .code y_Ph_shortestEnd b_Ph_shortestEnd 1 (some .int), .instantiable R_Mo 19, .instanceMethod y_Mo_init, .code y_Mo_init b_Mo_init 1 none, .methodLink R_Mo 1 objectInit, .fieldLink R_Mo 7 "PhraseMovesModel" "text" "[I", .fieldLink R_Mo 57 "PhraseMovesModel" "asks" "I", .fieldLink R_Mo 13 "PhraseMovesModel" "kinds" "[I", .fieldLink R_Mo 16 "PhraseMovesModel" "one" "[I", .fieldLink R_Mo 19 "PhraseMovesModel" "other" "[I", .fieldLink R_Mo 22 "PhraseMovesModel" "number" "[I", .fieldLink R_Mo 95 "PhraseMovesModel" "slots" "I", .fieldLink R_Mo 25 "PhraseMovesModel" "offsets" "[I", .fieldLink R_Mo 28 "PhraseMovesModel" "sets" "[I", .fieldLink R_Mo 53 "PhraseMovesModel" "known" "Z", .fieldLink R_Mo 31 "PhraseMovesModel" "ends" "[I", .fieldLink R_Mo 34 "PhraseMovesModel" "under" "[I", .fieldLink R_Mo 37 "PhraseMovesModel" "many" "[I", .fieldLink R_Mo 103 "PhraseMovesModel" "choices" "I", .fieldLink R_Mo 106 "PhraseMovesModel" "least" "I", .fieldLink R_Mo 40 "PhraseMovesModel" "first" "[I"]
def kW_10 : List Cond := [.fieldLink R_Mo 112 "PhraseMovesModel" "shortFrom" "I", .fieldLink R_Mo 109 "PhraseMovesModel" "shortTo" "I", .fieldLink R_Mo 43 "PhraseMovesModel" "places" "[I", .laysFinal R_Mo "PhraseMovesModel" "text" "[I", .lays R_Mo "PhraseMovesModel" "asks" "I", .laysFinal R_Mo "PhraseMovesModel" "kinds" "[I", .laysFinal R_Mo "PhraseMovesModel" "one" "[I", .laysFinal R_Mo "PhraseMovesModel" "other" "[I", .laysFinal R_Mo "PhraseMovesModel" "number" "[I", .lays R_Mo "PhraseMovesModel" "slots" "I", .laysFinal R_Mo "PhraseMovesModel" "offsets" "[I", .laysFinal R_Mo "PhraseMovesModel" "sets" "[I", .lays R_Mo "PhraseMovesModel" "known" "Z", .laysFinal R_Mo "PhraseMovesModel" "ends" "[I", .laysFinal R_Mo "PhraseMovesModel" "under" "[I", .laysFinal R_Mo "PhraseMovesModel" "many" "[I", .lays R_Mo "PhraseMovesModel" "choices" "I", .lays R_Mo "PhraseMovesModel" "least" "I", .laysFinal R_Mo "PhraseMovesModel" "first" "[I", .lays R_Mo "PhraseMovesModel" "shortFrom" "I", .lays R_Mo "PhraseMovesModel" "shortTo" "I", .laysFinal R_Mo "PhraseMovesModel" "places" "[I", .instanceMethod y_Mo_put, .selects R_Mo y_Mo_put y_Mo_put, .code y_Mo_put b_Mo_put 4 (some .int), .methodLink R_Mo 46 y_Mo_isPlace, .static y_Mo_isPlace, .code y_Mo_isPlace b_Mo_isPlace 1 (some .boolean), .methodLink R_Mo 50 y_Mo_isSet, .static y_Mo_isSet, .code y_Mo_isSet b_Mo_isSet 1 (some .boolean), .instanceMethod y_Mo_clear, .selects R_Mo y_Mo_clear y_Mo_clear, .code y_Mo_clear b_Mo_clear 3 (some .int), .instanceMethod y_Mo_ask, .selects R_Mo y_Mo_ask y_Mo_ask, .code y_Mo_ask b_Mo_ask 6 (some .int), .methodLink R_Mo 61 y_Mo_isAsk, .instanceMethod y_Mo_isAsk, .code y_Mo_isAsk b_Mo_isAsk 2 (some .boolean)]
def kW_11 : List Cond := [.instanceMethod y_Mo_forget, .selects R_Mo y_Mo_forget y_Mo_forget, .code y_Mo_forget b_Mo_forget 2 (some .int), .instanceMethod y_Mo_count, .selects R_Mo y_Mo_count y_Mo_count, .code y_Mo_count b_Mo_count 4 (some .int), .methodLink R_Mo 88 y_Mo_findAll, .instanceMethod y_Mo_findAll, .code y_Mo_findAll b_Mo_findAll 3 none, .methodLink R_Mo 84 y_Mo_find, .instanceMethod y_Mo_find, .code y_Mo_find b_Mo_find 6 none, .methodLink R_Mo 76 y_Mo_alone, .instanceMethod y_Mo_alone, .code y_Mo_alone b_Mo_alone 6 none, .methodLink R_Mo 72 y_Mo_isFar, .instanceMethod y_Mo_isFar, .code y_Mo_isFar b_Mo_isFar 8 (some .boolean), .methodLink R_Mo 68 y_Mo_gap, .static y_Mo_gap, .code y_Mo_gap b_Mo_gap 4 (some .int), .methodLink R_Mo 64 y_Mo_comes, .instanceMethod y_Mo_comes, .code y_Mo_comes b_Mo_comes 3 none, .methodLink R_Mo 80 y_Mo_pair, .instanceMethod y_Mo_pair, .code y_Mo_pair b_Mo_pair 10 none, .instanceMethod y_Mo_begin, .selects R_Mo y_Mo_begin y_Mo_begin, .code y_Mo_begin b_Mo_begin 3 (some .int), .methodLink R_Mo 91 y_Mo_nth, .instanceMethod y_Mo_nth, .code y_Mo_nth b_Mo_nth 5 (some .int), .instanceMethod y_Mo_end, .selects R_Mo y_Mo_end y_Mo_end, .code y_Mo_end b_Mo_end 4 (some .int), .instanceMethod y_Mo_covered, .selects R_Mo y_Mo_covered y_Mo_covered, .code y_Mo_covered b_Mo_covered 6 (some .int), .instanceMethod y_Mo_slot]
def kW_12 : List Cond := [.selects R_Mo y_Mo_slot y_Mo_slot, .code y_Mo_slot b_Mo_slot 3 (some .int), .instanceMethod y_Mo_unslot, .selects R_Mo y_Mo_unslot y_Mo_unslot, .code y_Mo_unslot b_Mo_unslot 2 (some .int), .instanceMethod y_Mo_matches, .selects R_Mo y_Mo_matches y_Mo_matches, .code y_Mo_matches b_Mo_matches 4 (some .int), .methodLink R_Mo 122 y_Mo_know, .instanceMethod y_Mo_know, .code y_Mo_know b_Mo_know 3 none, .methodLink R_Mo 115 y_Mo_fits, .instanceMethod y_Mo_fits, .code y_Mo_fits b_Mo_fits 4 (some .boolean), .methodLink R_Mo 119 y_Mo_choose, .instanceMethod y_Mo_choose, .code y_Mo_choose b_Mo_choose 5 none, .methodLink R_Mo 99 y_Mo_moved, .instanceMethod y_Mo_moved, .code y_Mo_moved b_Mo_moved 6 (some .int), .constant R_Mo 98 (1000000), .instanceMethod y_Mo_weight, .selects R_Mo y_Mo_weight y_Mo_weight, .code y_Mo_weight b_Mo_weight 5 (some .long), .constantLong R_Mo 125 (-2), .instanceMethod y_Mo_least, .selects R_Mo y_Mo_least y_Mo_least, .code y_Mo_least b_Mo_least 1 (some .int), .instanceMethod y_Mo_chosen, .selects R_Mo y_Mo_chosen y_Mo_chosen, .code y_Mo_chosen b_Mo_chosen 2 (some .int), .instanceMethod y_Mo_ties, .selects R_Mo y_Mo_ties y_Mo_ties, .code y_Mo_ties b_Mo_ties 1 (some .int), .instanceMethod y_Mo_shortest, .selects R_Mo y_Mo_shortest y_Mo_shortest, .code y_Mo_shortest b_Mo_shortest 2 (some .int)]
def kW : List Cond := kW_0 ++ (kW_1 ++ (kW_2 ++ (kW_3 ++ (kW_4 ++ (kW_5 ++ (kW_6 ++ (kW_7 ++ (kW_8 ++ (kW_9 ++ (kW_10 ++ (kW_11 ++ (kW_12))))))))))))
theorem kW_0_in {w : Cond} (h : w ∈ kW_0) : w ∈ kW := List.mem_append_left _ h
theorem kW_1_in {w : Cond} (h : w ∈ kW_1) : w ∈ kW := List.mem_append_right _ (List.mem_append_left _ h)
theorem kW_2_in {w : Cond} (h : w ∈ kW_2) : w ∈ kW := List.mem_append_right _ (List.mem_append_right _ (List.mem_append_left _ h))
theorem kW_3_in {w : Cond} (h : w ∈ kW_3) : w ∈ kW := List.mem_append_right _ (List.mem_append_right _ (List.mem_append_right _ (List.mem_append_left _ h)))
theorem kW_4_in {w : Cond} (h : w ∈ kW_4) : w ∈ kW := List.mem_append_right _ (List.mem_append_right _ (List.mem_append_right _ (List.mem_append_right _ (List.mem_append_left _ h))))
theorem kW_5_in {w : Cond} (h : w ∈ kW_5) : w ∈ kW := List.mem_append_right _ (List.mem_append_right _ (List.mem_append_right _ (List.mem_append_right _ (List.mem_append_right _ (List.mem_append_left _ h)))))
theorem kW_6_in {w : Cond} (h : w ∈ kW_6) : w ∈ kW := List.mem_append_right _ (List.mem_append_right _ (List.mem_append_right _ (List.mem_append_right _ (List.mem_append_right _ (List.mem_append_right _ (List.mem_append_left _ h))))))
theorem kW_7_in {w : Cond} (h : w ∈ kW_7) : w ∈ kW := List.mem_append_right _ (List.mem_append_right _ (List.mem_append_right _ (List.mem_append_right _ (List.mem_append_right _ (List.mem_append_right _ (List.mem_append_right _ (List.mem_append_left _ h)))))))
theorem kW_8_in {w : Cond} (h : w ∈ kW_8) : w ∈ kW := List.mem_append_right _ (List.mem_append_right _ (List.mem_append_right _ (List.mem_append_right _ (List.mem_append_right _ (List.mem_append_right _ (List.mem_append_right _ (List.mem_append_right _ (List.mem_append_left _ h))))))))
theorem kW_9_in {w : Cond} (h : w ∈ kW_9) : w ∈ kW := List.mem_append_right _ (List.mem_append_right _ (List.mem_append_right _ (List.mem_append_right _ (List.mem_append_right _ (List.mem_append_right _ (List.mem_append_right _ (List.mem_append_right _ (List.mem_append_right _ (List.mem_append_left _ h)))))))))
theorem kW_10_in {w : Cond} (h : w ∈ kW_10) : w ∈ kW := List.mem_append_right _ (List.mem_append_right _ (List.mem_append_right _ (List.mem_append_right _ (List.mem_append_right _ (List.mem_append_right _ (List.mem_append_right _ (List.mem_append_right _ (List.mem_append_right _ (List.mem_append_right _ (List.mem_append_left _ h))))))))))
theorem kW_11_in {w : Cond} (h : w ∈ kW_11) : w ∈ kW := List.mem_append_right _ (List.mem_append_right _ (List.mem_append_right _ (List.mem_append_right _ (List.mem_append_right _ (List.mem_append_right _ (List.mem_append_right _ (List.mem_append_right _ (List.mem_append_right _ (List.mem_append_right _ (List.mem_append_right _ (List.mem_append_left _ h)))))))))))
theorem kW_12_in {w : Cond} (h : w ∈ kW_12) : w ∈ kW := List.mem_append_right _ (List.mem_append_right _ (List.mem_append_right _ (List.mem_append_right _ (List.mem_append_right _ (List.mem_append_right _ (List.mem_append_right _ (List.mem_append_right _ (List.mem_append_right _ (List.mem_append_right _ (List.mem_append_right _ (List.mem_append_right _ (h))))))))))))
theorem kw_selects_Pm_textHasChanged : (.selects R_Pm y_Pm_textHasChanged y_Pm_textHasChanged : Cond) ∈ kW := kW_0_in (List.mem_of_getElem? (i := 0) rfl)
theorem kw_selects_As_workOut : (.selects R_As y_As_workOut y_As_workOut : Cond) ∈ kW := kW_0_in (List.mem_of_getElem? (i := 1) rfl)
theorem kw_selects_Ro_addBehindOne : (.selects R_Ro y_Ro_addBehindOne y_Ro_addBehindOne : Cond) ∈ kW := kW_0_in (List.mem_of_getElem? (i := 2) rfl)
theorem kw_selects_Ro_addBothOfOne : (.selects R_Ro y_Ro_addBothOfOne y_Ro_addBothOfOne : Cond) ∈ kW := kW_0_in (List.mem_of_getElem? (i := 3) rfl)
theorem kw_selects_Ro_hasWithin : (.selects R_Ro y_Ro_hasWithin y_Ro_hasWithin : Cond) ∈ kW := kW_0_in (List.mem_of_getElem? (i := 4) rfl)
theorem kw_selects_Ro_hasAround : (.selects R_Ro y_Ro_hasAround y_Ro_hasAround : Cond) ∈ kW := kW_0_in (List.mem_of_getElem? (i := 5) rfl)
theorem kw_selects_Ro_hasNear : (.selects R_Ro y_Ro_hasNear y_Ro_hasNear : Cond) ∈ kW := kW_0_in (List.mem_of_getElem? (i := 6) rfl)
theorem kw_selects_Ph_findPlaces : (.selects R_Ph y_Ph_findPlaces y_Ph_findPlaces : Cond) ∈ kW := kW_0_in (List.mem_of_getElem? (i := 7) rfl)
theorem kw_selects_Ph_searchMoved : (.selects R_Ph y_Ph_searchMoved y_Ph_searchMoved : Cond) ∈ kW := kW_0_in (List.mem_of_getElem? (i := 8) rfl)
theorem kw_selects_Ph_noteChoice : (.selects R_Ph y_Ph_noteChoice y_Ph_noteChoice : Cond) ∈ kW := kW_0_in (List.mem_of_getElem? (i := 9) rfl)
theorem kw_selects_Ph_isFree : (.selects R_Ph y_Ph_isFree y_Ph_isFree : Cond) ∈ kW := kW_0_in (List.mem_of_getElem? (i := 10) rfl)
theorem kw_selects_Ph_searchShortest : (.selects R_Ph y_Ph_searchShortest y_Ph_searchShortest : Cond) ∈ kW := kW_0_in (List.mem_of_getElem? (i := 11) rfl)
theorem kw_selects_Ph_isShorter : (.selects R_Ph y_Ph_isShorter y_Ph_isShorter : Cond) ∈ kW := kW_0_in (List.mem_of_getElem? (i := 12) rfl)
theorem kw_selects_Mo_isAsk : (.selects R_Mo y_Mo_isAsk y_Mo_isAsk : Cond) ∈ kW := kW_0_in (List.mem_of_getElem? (i := 13) rfl)
theorem kw_selects_Mo_findAll : (.selects R_Mo y_Mo_findAll y_Mo_findAll : Cond) ∈ kW := kW_0_in (List.mem_of_getElem? (i := 14) rfl)
theorem kw_selects_Mo_find : (.selects R_Mo y_Mo_find y_Mo_find : Cond) ∈ kW := kW_0_in (List.mem_of_getElem? (i := 15) rfl)
theorem kw_selects_Mo_alone : (.selects R_Mo y_Mo_alone y_Mo_alone : Cond) ∈ kW := kW_0_in (List.mem_of_getElem? (i := 16) rfl)
theorem kw_selects_Mo_isFar : (.selects R_Mo y_Mo_isFar y_Mo_isFar : Cond) ∈ kW := kW_0_in (List.mem_of_getElem? (i := 17) rfl)
theorem kw_selects_Mo_comes : (.selects R_Mo y_Mo_comes y_Mo_comes : Cond) ∈ kW := kW_0_in (List.mem_of_getElem? (i := 18) rfl)
theorem kw_selects_Mo_pair : (.selects R_Mo y_Mo_pair y_Mo_pair : Cond) ∈ kW := kW_0_in (List.mem_of_getElem? (i := 19) rfl)
theorem kw_selects_Mo_nth : (.selects R_Mo y_Mo_nth y_Mo_nth : Cond) ∈ kW := kW_0_in (List.mem_of_getElem? (i := 20) rfl)
theorem kw_selects_Mo_know : (.selects R_Mo y_Mo_know y_Mo_know : Cond) ∈ kW := kW_0_in (List.mem_of_getElem? (i := 21) rfl)
theorem kw_selects_Mo_fits : (.selects R_Mo y_Mo_fits y_Mo_fits : Cond) ∈ kW := kW_0_in (List.mem_of_getElem? (i := 22) rfl)
theorem kw_selects_Mo_choose : (.selects R_Mo y_Mo_choose y_Mo_choose : Cond) ∈ kW := kW_0_in (List.mem_of_getElem? (i := 23) rfl)
theorem kw_selects_Mo_moved : (.selects R_Mo y_Mo_moved y_Mo_moved : Cond) ∈ kW := kW_0_in (List.mem_of_getElem? (i := 24) rfl)
theorem kw_initialized_Pm : (.initialized R_Pm : Cond) ∈ kW := kW_0_in (List.mem_of_getElem? (i := 25) rfl)
theorem kw_initialized_As : (.initialized R_As : Cond) ∈ kW := kW_0_in (List.mem_of_getElem? (i := 26) rfl)
theorem kw_initialized_Ro : (.initialized R_Ro : Cond) ∈ kW := kW_0_in (List.mem_of_getElem? (i := 27) rfl)
theorem kw_initialized_Arrays : (.initialized "java/util/Arrays" : Cond) ∈ kW := kW_0_in (List.mem_of_getElem? (i := 28) rfl)
theorem kw_initialized_Ph : (.initialized R_Ph : Cond) ∈ kW := kW_0_in (List.mem_of_getElem? (i := 29) rfl)
theorem kw_initialized_Mo : (.initialized R_Mo : Cond) ∈ kW := kW_0_in (List.mem_of_getElem? (i := 30) rfl)
theorem kw_initialized_Math : (.initialized "java/lang/Math" : Cond) ∈ kW := kW_0_in (List.mem_of_getElem? (i := 31) rfl)
theorem kw_initialized_System : (.initialized "java/lang/System" : Cond) ∈ kW := kW_0_in (List.mem_of_getElem? (i := 32) rfl)
theorem kw_instantiable_Pm : (.instantiable R_Pm 3 : Cond) ∈ kW := kW_0_in (List.mem_of_getElem? (i := 33) rfl)
theorem kw_instanceMethod_Pm_init : (.instanceMethod y_Pm_init : Cond) ∈ kW := kW_0_in (List.mem_of_getElem? (i := 34) rfl)
theorem kw_code_Pm_init : (.code y_Pm_init b_Pm_init 1 none : Cond) ∈ kW := kW_0_in (List.mem_of_getElem? (i := 35) rfl)
theorem kw_methodLink_Pm_3 : (.methodLink R_Pm 3 objectInit : Cond) ∈ kW := kW_0_in (List.mem_of_getElem? (i := 36) rfl)
theorem kw_instanceMethod_Object_init : (.instanceMethod objectInit : Cond) ∈ kW := kW_0_in (List.mem_of_getElem? (i := 37) rfl)
theorem kw_code_Object_init : (.code objectInit ⟨#[0xb1]⟩ 1 none : Cond) ∈ kW := kW_0_in (List.mem_of_getElem? (i := 38) rfl)
theorem kw_classLink_Pm_13 : (.classLink R_Pm 13 R_As : Cond) ∈ kW := kW_0_in (List.mem_of_getElem? (i := 39) rfl)
theorem kw_instantiable_As : (.instantiable R_As 7 : Cond) ∈ kW := kW_1_in (List.mem_of_getElem? (i := 0) rfl)
theorem kw_methodLink_Pm_15 : (.methodLink R_Pm 15 y_As_init : Cond) ∈ kW := kW_1_in (List.mem_of_getElem? (i := 1) rfl)
theorem kw_instanceMethod_As_init : (.instanceMethod y_As_init : Cond) ∈ kW := kW_1_in (List.mem_of_getElem? (i := 2) rfl)
theorem kw_code_As_init : (.code y_As_init b_As_init 2 none : Cond) ∈ kW := kW_1_in (List.mem_of_getElem? (i := 3) rfl)
theorem kw_methodLink_As_3 : (.methodLink R_As 3 objectInit : Cond) ∈ kW := kW_1_in (List.mem_of_getElem? (i := 4) rfl)
theorem kw_classLink_As_24 : (.classLink R_As 24 R_Ro : Cond) ∈ kW := kW_1_in (List.mem_of_getElem? (i := 5) rfl)
theorem kw_instantiable_Ro : (.instantiable R_Ro 1 : Cond) ∈ kW := kW_1_in (List.mem_of_getElem? (i := 6) rfl)
theorem kw_methodLink_As_30 : (.methodLink R_As 30 y_Ro_init : Cond) ∈ kW := kW_1_in (List.mem_of_getElem? (i := 7) rfl)
theorem kw_instanceMethod_Ro_init : (.instanceMethod y_Ro_init : Cond) ∈ kW := kW_1_in (List.mem_of_getElem? (i := 8) rfl)
theorem kw_code_Ro_init : (.code y_Ro_init b_Ro_init 1 none : Cond) ∈ kW := kW_1_in (List.mem_of_getElem? (i := 9) rfl)
theorem kw_methodLink_Ro_3 : (.methodLink R_Ro 3 objectInit : Cond) ∈ kW := kW_1_in (List.mem_of_getElem? (i := 10) rfl)
theorem kw_methodLink_Ro_15 : (.methodLink R_Ro 15 y_Ja_fill : Cond) ∈ kW := kW_1_in (List.mem_of_getElem? (i := 11) rfl)
theorem kw_static_Arrays_fill : (.static y_Ja_fill : Cond) ∈ kW := kW_1_in (List.mem_of_getElem? (i := 12) rfl)
theorem kw_code_Arrays_fill : (.code y_Ja_fill b_Ja_fill 4 none : Cond) ∈ kW := kW_1_in (List.mem_of_getElem? (i := 13) rfl)
theorem kw_fieldLink_Ro_9 : (.fieldLink R_Ro 9 "PhraseMoves$Row" "ends" "[I" : Cond) ∈ kW := kW_1_in (List.mem_of_getElem? (i := 14) rfl)
theorem kw_laysFinal_Ro_ends : (.laysFinal R_Ro "PhraseMoves$Row" "ends" "[I" : Cond) ∈ kW := kW_1_in (List.mem_of_getElem? (i := 15) rfl)
theorem kw_arrayClass : (.arrayClass .int : Cond) ∈ kW := kW_1_in (List.mem_of_getElem? (i := 16) rfl)
theorem kw_fieldLink_As_9 : (.fieldLink R_As 9 "PhraseMoves$AskList" "kinds" "[I" : Cond) ∈ kW := kW_1_in (List.mem_of_getElem? (i := 17) rfl)
theorem kw_fieldLink_As_15 : (.fieldLink R_As 15 "PhraseMoves$AskList" "firsts" "[I" : Cond) ∈ kW := kW_1_in (List.mem_of_getElem? (i := 18) rfl)
theorem kw_fieldLink_As_18 : (.fieldLink R_As 18 "PhraseMoves$AskList" "seconds" "[I" : Cond) ∈ kW := kW_1_in (List.mem_of_getElem? (i := 19) rfl)
theorem kw_fieldLink_As_21 : (.fieldLink R_As 21 "PhraseMoves$AskList" "numbers" "[I" : Cond) ∈ kW := kW_1_in (List.mem_of_getElem? (i := 20) rfl)
theorem kw_fieldLink_As_26 : (.fieldLink R_As 26 "PhraseMoves$AskList" "rows" "[LPhraseMoves$Row;" : Cond) ∈ kW := kW_1_in (List.mem_of_getElem? (i := 21) rfl)
theorem kw_fieldLink_As_31 : (.fieldLink R_As 31 "PhraseMoves$AskList" "size" "I" : Cond) ∈ kW := kW_1_in (List.mem_of_getElem? (i := 22) rfl)
theorem kw_fieldLink_As_35 : (.fieldLink R_As 35 "PhraseMoves$AskList" "ready" "I" : Cond) ∈ kW := kW_1_in (List.mem_of_getElem? (i := 23) rfl)
theorem kw_laysFinal_As_kinds : (.laysFinal R_As "PhraseMoves$AskList" "kinds" "[I" : Cond) ∈ kW := kW_1_in (List.mem_of_getElem? (i := 24) rfl)
theorem kw_laysFinal_As_firsts : (.laysFinal R_As "PhraseMoves$AskList" "firsts" "[I" : Cond) ∈ kW := kW_1_in (List.mem_of_getElem? (i := 25) rfl)
theorem kw_laysFinal_As_seconds : (.laysFinal R_As "PhraseMoves$AskList" "seconds" "[I" : Cond) ∈ kW := kW_1_in (List.mem_of_getElem? (i := 26) rfl)
theorem kw_laysFinal_As_numbers : (.laysFinal R_As "PhraseMoves$AskList" "numbers" "[I" : Cond) ∈ kW := kW_1_in (List.mem_of_getElem? (i := 27) rfl)
theorem kw_laysFinal_As_rows : (.laysFinal R_As "PhraseMoves$AskList" "rows" "[LPhraseMoves$Row;" : Cond) ∈ kW := kW_1_in (List.mem_of_getElem? (i := 28) rfl)
theorem kw_lays_As_size : (.lays R_As "PhraseMoves$AskList" "size" "I" : Cond) ∈ kW := kW_1_in (List.mem_of_getElem? (i := 29) rfl)
theorem kw_lays_As_ready : (.lays R_As "PhraseMoves$AskList" "ready" "I" : Cond) ∈ kW := kW_1_in (List.mem_of_getElem? (i := 30) rfl)
theorem kw_classLink_Pm_20 : (.classLink R_Pm 20 R_Ph : Cond) ∈ kW := kW_1_in (List.mem_of_getElem? (i := 31) rfl)
theorem kw_instantiable_Ph : (.instantiable R_Ph 12 : Cond) ∈ kW := kW_1_in (List.mem_of_getElem? (i := 32) rfl)
theorem kw_methodLink_Pm_22 : (.methodLink R_Pm 22 y_Ph_init : Cond) ∈ kW := kW_1_in (List.mem_of_getElem? (i := 33) rfl)
theorem kw_instanceMethod_Ph_init : (.instanceMethod y_Ph_init : Cond) ∈ kW := kW_1_in (List.mem_of_getElem? (i := 34) rfl)
theorem kw_code_Ph_init : (.code y_Ph_init b_Ph_init 1 none : Cond) ∈ kW := kW_1_in (List.mem_of_getElem? (i := 35) rfl)
theorem kw_methodLink_Ph_3 : (.methodLink R_Ph 3 objectInit : Cond) ∈ kW := kW_1_in (List.mem_of_getElem? (i := 36) rfl)
theorem kw_classLink_Ph_26 : (.classLink R_Ph 26 "[[I" : Cond) ∈ kW := kW_1_in (List.mem_of_getElem? (i := 37) rfl)
theorem kw_fieldLink_Ph_9 : (.fieldLink R_Ph 9 "PhraseMoves$Phrase" "offsets" "[I" : Cond) ∈ kW := kW_1_in (List.mem_of_getElem? (i := 38) rfl)
theorem kw_fieldLink_Ph_15 : (.fieldLink R_Ph 15 "PhraseMoves$Phrase" "sets" "[I" : Cond) ∈ kW := kW_1_in (List.mem_of_getElem? (i := 39) rfl)
theorem kw_fieldLink_Ph_18 : (.fieldLink R_Ph 18 "PhraseMoves$Phrase" "size" "I" : Cond) ∈ kW := kW_2_in (List.mem_of_getElem? (i := 0) rfl)
theorem kw_fieldLink_Ph_22 : (.fieldLink R_Ph 22 "PhraseMoves$Phrase" "settled" "Z" : Cond) ∈ kW := kW_2_in (List.mem_of_getElem? (i := 1) rfl)
theorem kw_fieldLink_Ph_28 : (.fieldLink R_Ph 28 "PhraseMoves$Phrase" "places" "[[I" : Cond) ∈ kW := kW_2_in (List.mem_of_getElem? (i := 2) rfl)
theorem kw_fieldLink_Ph_31 : (.fieldLink R_Ph 31 "PhraseMoves$Phrase" "placesOf" "[I" : Cond) ∈ kW := kW_2_in (List.mem_of_getElem? (i := 3) rfl)
theorem kw_fieldLink_Ph_34 : (.fieldLink R_Ph 34 "PhraseMoves$Phrase" "tried" "[I" : Cond) ∈ kW := kW_2_in (List.mem_of_getElem? (i := 4) rfl)
theorem kw_fieldLink_Ph_37 : (.fieldLink R_Ph 37 "PhraseMoves$Phrase" "firstChoice" "[I" : Cond) ∈ kW := kW_2_in (List.mem_of_getElem? (i := 5) rfl)
theorem kw_fieldLink_Ph_40 : (.fieldLink R_Ph 40 "PhraseMoves$Phrase" "counts" "[I" : Cond) ∈ kW := kW_2_in (List.mem_of_getElem? (i := 6) rfl)
theorem kw_fieldLink_Ph_43 : (.fieldLink R_Ph 43 "PhraseMoves$Phrase" "lowestMoved" "I" : Cond) ∈ kW := kW_2_in (List.mem_of_getElem? (i := 7) rfl)
theorem kw_fieldLink_Ph_46 : (.fieldLink R_Ph 46 "PhraseMoves$Phrase" "shortFrom" "I" : Cond) ∈ kW := kW_2_in (List.mem_of_getElem? (i := 8) rfl)
theorem kw_fieldLink_Ph_49 : (.fieldLink R_Ph 49 "PhraseMoves$Phrase" "shortTo" "I" : Cond) ∈ kW := kW_2_in (List.mem_of_getElem? (i := 9) rfl)
theorem kw_laysFinal_Ph_offsets : (.laysFinal R_Ph "PhraseMoves$Phrase" "offsets" "[I" : Cond) ∈ kW := kW_2_in (List.mem_of_getElem? (i := 10) rfl)
theorem kw_laysFinal_Ph_sets : (.laysFinal R_Ph "PhraseMoves$Phrase" "sets" "[I" : Cond) ∈ kW := kW_2_in (List.mem_of_getElem? (i := 11) rfl)
theorem kw_lays_Ph_size : (.lays R_Ph "PhraseMoves$Phrase" "size" "I" : Cond) ∈ kW := kW_2_in (List.mem_of_getElem? (i := 12) rfl)
theorem kw_lays_Ph_settled : (.lays R_Ph "PhraseMoves$Phrase" "settled" "Z" : Cond) ∈ kW := kW_2_in (List.mem_of_getElem? (i := 13) rfl)
theorem kw_laysFinal_Ph_places : (.laysFinal R_Ph "PhraseMoves$Phrase" "places" "[[I" : Cond) ∈ kW := kW_2_in (List.mem_of_getElem? (i := 14) rfl)
theorem kw_laysFinal_Ph_placesOf : (.laysFinal R_Ph "PhraseMoves$Phrase" "placesOf" "[I" : Cond) ∈ kW := kW_2_in (List.mem_of_getElem? (i := 15) rfl)
theorem kw_laysFinal_Ph_tried : (.laysFinal R_Ph "PhraseMoves$Phrase" "tried" "[I" : Cond) ∈ kW := kW_2_in (List.mem_of_getElem? (i := 16) rfl)
theorem kw_laysFinal_Ph_firstChoice : (.laysFinal R_Ph "PhraseMoves$Phrase" "firstChoice" "[I" : Cond) ∈ kW := kW_2_in (List.mem_of_getElem? (i := 17) rfl)
theorem kw_laysFinal_Ph_counts : (.laysFinal R_Ph "PhraseMoves$Phrase" "counts" "[I" : Cond) ∈ kW := kW_2_in (List.mem_of_getElem? (i := 18) rfl)
theorem kw_lays_Ph_lowestMoved : (.lays R_Ph "PhraseMoves$Phrase" "lowestMoved" "I" : Cond) ∈ kW := kW_2_in (List.mem_of_getElem? (i := 19) rfl)
theorem kw_lays_Ph_shortFrom : (.lays R_Ph "PhraseMoves$Phrase" "shortFrom" "I" : Cond) ∈ kW := kW_2_in (List.mem_of_getElem? (i := 20) rfl)
theorem kw_lays_Ph_shortTo : (.lays R_Ph "PhraseMoves$Phrase" "shortTo" "I" : Cond) ∈ kW := kW_2_in (List.mem_of_getElem? (i := 21) rfl)
theorem kw_fieldLink_Pm_9 : (.fieldLink R_Pm 9 "PhraseMoves" "text" "[I" : Cond) ∈ kW := kW_2_in (List.mem_of_getElem? (i := 22) rfl)
theorem kw_fieldLink_Pm_16 : (.fieldLink R_Pm 16 "PhraseMoves" "asks" "LPhraseMoves$AskList;" : Cond) ∈ kW := kW_2_in (List.mem_of_getElem? (i := 23) rfl)
theorem kw_fieldLink_Pm_23 : (.fieldLink R_Pm 23 "PhraseMoves" "phrase" "LPhraseMoves$Phrase;" : Cond) ∈ kW := kW_2_in (List.mem_of_getElem? (i := 24) rfl)
theorem kw_laysFinal_Pm_text : (.laysFinal R_Pm "PhraseMoves" "text" "[I" : Cond) ∈ kW := kW_2_in (List.mem_of_getElem? (i := 25) rfl)
theorem kw_laysFinal_Pm_asks : (.laysFinal R_Pm "PhraseMoves" "asks" "LPhraseMoves$AskList;" : Cond) ∈ kW := kW_2_in (List.mem_of_getElem? (i := 26) rfl)
theorem kw_laysFinal_Pm_phrase : (.laysFinal R_Pm "PhraseMoves" "phrase" "LPhraseMoves$Phrase;" : Cond) ∈ kW := kW_2_in (List.mem_of_getElem? (i := 27) rfl)
theorem kw_instanceMethod_Pm_put : (.instanceMethod y_Pm_put : Cond) ∈ kW := kW_2_in (List.mem_of_getElem? (i := 28) rfl)
theorem kw_selects_Pm_put : (.selects R_Pm y_Pm_put y_Pm_put : Cond) ∈ kW := kW_2_in (List.mem_of_getElem? (i := 29) rfl)
theorem kw_code_Pm_put : (.code y_Pm_put b_Pm_put 4 (some .int) : Cond) ∈ kW := kW_2_in (List.mem_of_getElem? (i := 30) rfl)
theorem kw_methodLink_Pm_27 : (.methodLink R_Pm 27 y_Pm_isPlace : Cond) ∈ kW := kW_2_in (List.mem_of_getElem? (i := 31) rfl)
theorem kw_static_Pm_isPlace : (.static y_Pm_isPlace : Cond) ∈ kW := kW_2_in (List.mem_of_getElem? (i := 32) rfl)
theorem kw_code_Pm_isPlace : (.code y_Pm_isPlace b_Pm_isPlace 1 (some .boolean) : Cond) ∈ kW := kW_2_in (List.mem_of_getElem? (i := 33) rfl)
theorem kw_methodLink_Pm_31 : (.methodLink R_Pm 31 y_Pm_isSet : Cond) ∈ kW := kW_2_in (List.mem_of_getElem? (i := 34) rfl)
theorem kw_static_Pm_isSet : (.static y_Pm_isSet : Cond) ∈ kW := kW_2_in (List.mem_of_getElem? (i := 35) rfl)
theorem kw_code_Pm_isSet : (.code y_Pm_isSet b_Pm_isSet 1 (some .boolean) : Cond) ∈ kW := kW_2_in (List.mem_of_getElem? (i := 36) rfl)
theorem kw_methodLink_Pm_34 : (.methodLink R_Pm 34 y_Pm_textHasChanged : Cond) ∈ kW := kW_2_in (List.mem_of_getElem? (i := 37) rfl)
theorem kw_instanceMethod_Pm_textHasChanged : (.instanceMethod y_Pm_textHasChanged : Cond) ∈ kW := kW_2_in (List.mem_of_getElem? (i := 38) rfl)
theorem kw_code_Pm_textHasChanged : (.code y_Pm_textHasChanged b_Pm_textHasChanged 1 none : Cond) ∈ kW := kW_2_in (List.mem_of_getElem? (i := 39) rfl)
theorem kw_methodLink_Pm_123 : (.methodLink R_Pm 123 y_As_outdate : Cond) ∈ kW := kW_3_in (List.mem_of_getElem? (i := 0) rfl)
theorem kw_instanceMethod_As_outdate : (.instanceMethod y_As_outdate : Cond) ∈ kW := kW_3_in (List.mem_of_getElem? (i := 1) rfl)
theorem kw_selects_As_outdate : (.selects R_As y_As_outdate y_As_outdate : Cond) ∈ kW := kW_3_in (List.mem_of_getElem? (i := 2) rfl)
theorem kw_code_As_outdate : (.code y_As_outdate b_As_outdate 1 none : Cond) ∈ kW := kW_3_in (List.mem_of_getElem? (i := 3) rfl)
theorem kw_methodLink_Pm_126 : (.methodLink R_Pm 126 y_Ph_outdate : Cond) ∈ kW := kW_3_in (List.mem_of_getElem? (i := 4) rfl)
theorem kw_instanceMethod_Ph_outdate : (.instanceMethod y_Ph_outdate : Cond) ∈ kW := kW_3_in (List.mem_of_getElem? (i := 5) rfl)
theorem kw_selects_Ph_outdate : (.selects R_Ph y_Ph_outdate y_Ph_outdate : Cond) ∈ kW := kW_3_in (List.mem_of_getElem? (i := 6) rfl)
theorem kw_code_Ph_outdate : (.code y_Ph_outdate b_Ph_outdate 1 none : Cond) ∈ kW := kW_3_in (List.mem_of_getElem? (i := 7) rfl)
theorem kw_instanceMethod_Pm_clear : (.instanceMethod y_Pm_clear : Cond) ∈ kW := kW_3_in (List.mem_of_getElem? (i := 8) rfl)
theorem kw_selects_Pm_clear : (.selects R_Pm y_Pm_clear y_Pm_clear : Cond) ∈ kW := kW_3_in (List.mem_of_getElem? (i := 9) rfl)
theorem kw_code_Pm_clear : (.code y_Pm_clear b_Pm_clear 3 (some .int) : Cond) ∈ kW := kW_3_in (List.mem_of_getElem? (i := 10) rfl)
theorem kw_instanceMethod_Pm_ask : (.instanceMethod y_Pm_ask : Cond) ∈ kW := kW_3_in (List.mem_of_getElem? (i := 11) rfl)
theorem kw_selects_Pm_ask : (.selects R_Pm y_Pm_ask y_Pm_ask : Cond) ∈ kW := kW_3_in (List.mem_of_getElem? (i := 12) rfl)
theorem kw_code_Pm_ask : (.code y_Pm_ask b_Pm_ask 5 (some .int) : Cond) ∈ kW := kW_3_in (List.mem_of_getElem? (i := 13) rfl)
theorem kw_methodLink_Pm_37 : (.methodLink R_Pm 37 y_Pm_isKind : Cond) ∈ kW := kW_3_in (List.mem_of_getElem? (i := 14) rfl)
theorem kw_static_Pm_isKind : (.static y_Pm_isKind : Cond) ∈ kW := kW_3_in (List.mem_of_getElem? (i := 15) rfl)
theorem kw_code_Pm_isKind : (.code y_Pm_isKind b_Pm_isKind 1 (some .boolean) : Cond) ∈ kW := kW_3_in (List.mem_of_getElem? (i := 16) rfl)
theorem kw_methodLink_Pm_40 : (.methodLink R_Pm 40 y_Pm_countsNumber : Cond) ∈ kW := kW_3_in (List.mem_of_getElem? (i := 17) rfl)
theorem kw_static_Pm_countsNumber : (.static y_Pm_countsNumber : Cond) ∈ kW := kW_3_in (List.mem_of_getElem? (i := 18) rfl)
theorem kw_code_Pm_countsNumber : (.code y_Pm_countsNumber b_Pm_countsNumber 1 (some .boolean) : Cond) ∈ kW := kW_3_in (List.mem_of_getElem? (i := 19) rfl)
theorem kw_methodLink_Pm_43 : (.methodLink R_Pm 43 y_Pm_isNumberOf : Cond) ∈ kW := kW_3_in (List.mem_of_getElem? (i := 20) rfl)
theorem kw_static_Pm_isNumberOf : (.static y_Pm_isNumberOf : Cond) ∈ kW := kW_3_in (List.mem_of_getElem? (i := 21) rfl)
theorem kw_code_Pm_isNumberOf : (.code y_Pm_isNumberOf b_Pm_isNumberOf 2 (some .boolean) : Cond) ∈ kW := kW_3_in (List.mem_of_getElem? (i := 22) rfl)
theorem kw_methodLink_Pm_47 : (.methodLink R_Pm 47 y_Pm_countsFirst : Cond) ∈ kW := kW_3_in (List.mem_of_getElem? (i := 23) rfl)
theorem kw_static_Pm_countsFirst : (.static y_Pm_countsFirst : Cond) ∈ kW := kW_3_in (List.mem_of_getElem? (i := 24) rfl)
theorem kw_code_Pm_countsFirst : (.code y_Pm_countsFirst b_Pm_countsFirst 1 (some .boolean) : Cond) ∈ kW := kW_3_in (List.mem_of_getElem? (i := 25) rfl)
theorem kw_methodLink_Pm_50 : (.methodLink R_Pm 50 y_As_has : Cond) ∈ kW := kW_3_in (List.mem_of_getElem? (i := 26) rfl)
theorem kw_instanceMethod_As_has : (.instanceMethod y_As_has : Cond) ∈ kW := kW_3_in (List.mem_of_getElem? (i := 27) rfl)
theorem kw_selects_As_has : (.selects R_As y_As_has y_As_has : Cond) ∈ kW := kW_3_in (List.mem_of_getElem? (i := 28) rfl)
theorem kw_code_As_has : (.code y_As_has b_As_has 2 (some .boolean) : Cond) ∈ kW := kW_3_in (List.mem_of_getElem? (i := 29) rfl)
theorem kw_methodLink_Pm_53 : (.methodLink R_Pm 53 y_Pm_countsSecond : Cond) ∈ kW := kW_3_in (List.mem_of_getElem? (i := 30) rfl)
theorem kw_static_Pm_countsSecond : (.static y_Pm_countsSecond : Cond) ∈ kW := kW_3_in (List.mem_of_getElem? (i := 31) rfl)
theorem kw_code_Pm_countsSecond : (.code y_Pm_countsSecond b_Pm_countsSecond 1 (some .boolean) : Cond) ∈ kW := kW_3_in (List.mem_of_getElem? (i := 32) rfl)
theorem kw_methodLink_Pm_56 : (.methodLink R_Pm 56 y_As_append : Cond) ∈ kW := kW_3_in (List.mem_of_getElem? (i := 33) rfl)
theorem kw_instanceMethod_As_append : (.instanceMethod y_As_append : Cond) ∈ kW := kW_3_in (List.mem_of_getElem? (i := 34) rfl)
theorem kw_selects_As_append : (.selects R_As y_As_append y_As_append : Cond) ∈ kW := kW_3_in (List.mem_of_getElem? (i := 35) rfl)
theorem kw_code_As_append : (.code y_As_append b_As_append 5 (some .int) : Cond) ∈ kW := kW_3_in (List.mem_of_getElem? (i := 36) rfl)
theorem kw_instanceMethod_Pm_forget : (.instanceMethod y_Pm_forget : Cond) ∈ kW := kW_3_in (List.mem_of_getElem? (i := 37) rfl)
theorem kw_selects_Pm_forget : (.selects R_Pm y_Pm_forget y_Pm_forget : Cond) ∈ kW := kW_3_in (List.mem_of_getElem? (i := 38) rfl)
theorem kw_code_Pm_forget : (.code y_Pm_forget b_Pm_forget 1 (some .int) : Cond) ∈ kW := kW_3_in (List.mem_of_getElem? (i := 39) rfl)
theorem kw_methodLink_Pm_60 : (.methodLink R_Pm 60 y_As_dropAll : Cond) ∈ kW := kW_4_in (List.mem_of_getElem? (i := 0) rfl)
theorem kw_instanceMethod_As_dropAll : (.instanceMethod y_As_dropAll : Cond) ∈ kW := kW_4_in (List.mem_of_getElem? (i := 1) rfl)
theorem kw_selects_As_dropAll : (.selects R_As y_As_dropAll y_As_dropAll : Cond) ∈ kW := kW_4_in (List.mem_of_getElem? (i := 2) rfl)
theorem kw_code_As_dropAll : (.code y_As_dropAll b_As_dropAll 2 (some .int) : Cond) ∈ kW := kW_4_in (List.mem_of_getElem? (i := 3) rfl)
theorem kw_instanceMethod_Pm_count : (.instanceMethod y_Pm_count : Cond) ∈ kW := kW_4_in (List.mem_of_getElem? (i := 4) rfl)
theorem kw_selects_Pm_count : (.selects R_Pm y_Pm_count y_Pm_count : Cond) ∈ kW := kW_4_in (List.mem_of_getElem? (i := 5) rfl)
theorem kw_code_Pm_count : (.code y_Pm_count b_Pm_count 2 (some .int) : Cond) ∈ kW := kW_4_in (List.mem_of_getElem? (i := 6) rfl)
theorem kw_methodLink_Pm_64 : (.methodLink R_Pm 64 y_As_rowOf : Cond) ∈ kW := kW_4_in (List.mem_of_getElem? (i := 7) rfl)
theorem kw_instanceMethod_As_rowOf : (.instanceMethod y_As_rowOf : Cond) ∈ kW := kW_4_in (List.mem_of_getElem? (i := 8) rfl)
theorem kw_selects_As_rowOf : (.selects R_As y_As_rowOf y_As_rowOf : Cond) ∈ kW := kW_4_in (List.mem_of_getElem? (i := 9) rfl)
theorem kw_code_As_rowOf : (.code y_As_rowOf b_As_rowOf 4 (some (.object "PhraseMoves$Row")) : Cond) ∈ kW := kW_4_in (List.mem_of_getElem? (i := 10) rfl)
theorem kw_methodLink_As_38 : (.methodLink R_As 38 y_As_workOut : Cond) ∈ kW := kW_4_in (List.mem_of_getElem? (i := 11) rfl)
theorem kw_instanceMethod_As_workOut : (.instanceMethod y_As_workOut : Cond) ∈ kW := kW_4_in (List.mem_of_getElem? (i := 12) rfl)
theorem kw_code_As_workOut : (.code y_As_workOut b_As_workOut 7 none : Cond) ∈ kW := kW_4_in (List.mem_of_getElem? (i := 13) rfl)
theorem kw_methodLink_As_42 : (.methodLink R_As 42 y_Ro_empty : Cond) ∈ kW := kW_4_in (List.mem_of_getElem? (i := 14) rfl)
theorem kw_instanceMethod_Ro_empty : (.instanceMethod y_Ro_empty : Cond) ∈ kW := kW_4_in (List.mem_of_getElem? (i := 15) rfl)
theorem kw_selects_Ro_empty : (.selects R_Ro y_Ro_empty y_Ro_empty : Cond) ∈ kW := kW_4_in (List.mem_of_getElem? (i := 16) rfl)
theorem kw_code_Ro_empty : (.code y_Ro_empty b_Ro_empty 1 none : Cond) ∈ kW := kW_4_in (List.mem_of_getElem? (i := 17) rfl)
theorem kw_methodLink_As_45 : (.methodLink R_As 45 y_Ro_addPlacesWith : Cond) ∈ kW := kW_4_in (List.mem_of_getElem? (i := 18) rfl)
theorem kw_instanceMethod_Ro_addPlacesWith : (.instanceMethod y_Ro_addPlacesWith : Cond) ∈ kW := kW_4_in (List.mem_of_getElem? (i := 19) rfl)
theorem kw_selects_Ro_addPlacesWith : (.selects R_Ro y_Ro_addPlacesWith y_Ro_addPlacesWith : Cond) ∈ kW := kW_4_in (List.mem_of_getElem? (i := 20) rfl)
theorem kw_code_Ro_addPlacesWith : (.code y_Ro_addPlacesWith b_Ro_addPlacesWith 4 none : Cond) ∈ kW := kW_4_in (List.mem_of_getElem? (i := 21) rfl)
theorem kw_methodLink_Ro_38 : (.methodLink R_Ro 38 y_Ro_add : Cond) ∈ kW := kW_4_in (List.mem_of_getElem? (i := 22) rfl)
theorem kw_instanceMethod_Ro_add : (.instanceMethod y_Ro_add : Cond) ∈ kW := kW_4_in (List.mem_of_getElem? (i := 23) rfl)
theorem kw_selects_Ro_add : (.selects R_Ro y_Ro_add y_Ro_add : Cond) ∈ kW := kW_4_in (List.mem_of_getElem? (i := 24) rfl)
theorem kw_code_Ro_add : (.code y_Ro_add b_Ro_add 3 none : Cond) ∈ kW := kW_4_in (List.mem_of_getElem? (i := 25) rfl)
theorem kw_methodLink_As_48 : (.methodLink R_As 48 y_Ro_addAll : Cond) ∈ kW := kW_4_in (List.mem_of_getElem? (i := 26) rfl)
theorem kw_instanceMethod_Ro_addAll : (.instanceMethod y_Ro_addAll : Cond) ∈ kW := kW_4_in (List.mem_of_getElem? (i := 27) rfl)
theorem kw_selects_Ro_addAll : (.selects R_Ro y_Ro_addAll y_Ro_addAll : Cond) ∈ kW := kW_4_in (List.mem_of_getElem? (i := 28) rfl)
theorem kw_code_Ro_addAll : (.code y_Ro_addAll b_Ro_addAll 2 none : Cond) ∈ kW := kW_4_in (List.mem_of_getElem? (i := 29) rfl)
theorem kw_methodLink_Ro_42 : (.methodLink R_Ro 42 y_Ro_addGrown : Cond) ∈ kW := kW_4_in (List.mem_of_getElem? (i := 30) rfl)
theorem kw_instanceMethod_Ro_addGrown : (.instanceMethod y_Ro_addGrown : Cond) ∈ kW := kW_4_in (List.mem_of_getElem? (i := 31) rfl)
theorem kw_selects_Ro_addGrown : (.selects R_Ro y_Ro_addGrown y_Ro_addGrown : Cond) ∈ kW := kW_4_in (List.mem_of_getElem? (i := 32) rfl)
theorem kw_code_Ro_addGrown : (.code y_Ro_addGrown b_Ro_addGrown 4 none : Cond) ∈ kW := kW_4_in (List.mem_of_getElem? (i := 33) rfl)
theorem kw_methodLink_Ro_25 : (.methodLink R_Ro 25 y_Ro_beginsAt : Cond) ∈ kW := kW_4_in (List.mem_of_getElem? (i := 34) rfl)
theorem kw_instanceMethod_Ro_beginsAt : (.instanceMethod y_Ro_beginsAt : Cond) ∈ kW := kW_4_in (List.mem_of_getElem? (i := 35) rfl)
theorem kw_selects_Ro_beginsAt : (.selects R_Ro y_Ro_beginsAt y_Ro_beginsAt : Cond) ∈ kW := kW_4_in (List.mem_of_getElem? (i := 36) rfl)
theorem kw_code_Ro_beginsAt : (.code y_Ro_beginsAt b_Ro_beginsAt 2 (some .boolean) : Cond) ∈ kW := kW_4_in (List.mem_of_getElem? (i := 37) rfl)
theorem kw_methodLink_Ro_32 : (.methodLink R_Ro 32 Lib.Math.max.name : Cond) ∈ kW := kW_4_in (List.mem_of_getElem? (i := 38) rfl)
theorem kw_static_Math_max : (.static Lib.Math.max.name : Cond) ∈ kW := kW_4_in (List.mem_of_getElem? (i := 39) rfl)
theorem kw_code_Math_max : (.code Lib.Math.max.name Lib.Math.max.code 2 (some .int) : Cond) ∈ kW := kW_5_in (List.mem_of_getElem? (i := 0) rfl)
theorem kw_methodLink_As_52 : (.methodLink R_As 52 y_Ro_addBehind : Cond) ∈ kW := kW_5_in (List.mem_of_getElem? (i := 1) rfl)
theorem kw_instanceMethod_Ro_addBehind : (.instanceMethod y_Ro_addBehind : Cond) ∈ kW := kW_5_in (List.mem_of_getElem? (i := 2) rfl)
theorem kw_selects_Ro_addBehind : (.selects R_Ro y_Ro_addBehind y_Ro_addBehind : Cond) ∈ kW := kW_5_in (List.mem_of_getElem? (i := 3) rfl)
theorem kw_code_Ro_addBehind : (.code y_Ro_addBehind b_Ro_addBehind 5 none : Cond) ∈ kW := kW_5_in (List.mem_of_getElem? (i := 4) rfl)
theorem kw_methodLink_Ro_46 : (.methodLink R_Ro 46 y_Ro_addBehindOne : Cond) ∈ kW := kW_5_in (List.mem_of_getElem? (i := 5) rfl)
theorem kw_instanceMethod_Ro_addBehindOne : (.instanceMethod y_Ro_addBehindOne : Cond) ∈ kW := kW_5_in (List.mem_of_getElem? (i := 6) rfl)
theorem kw_code_Ro_addBehindOne : (.code y_Ro_addBehindOne b_Ro_addBehindOne 6 none : Cond) ∈ kW := kW_5_in (List.mem_of_getElem? (i := 7) rfl)
theorem kw_methodLink_As_56 : (.methodLink R_As 56 y_Ro_addBoth : Cond) ∈ kW := kW_5_in (List.mem_of_getElem? (i := 8) rfl)
theorem kw_instanceMethod_Ro_addBoth : (.instanceMethod y_Ro_addBoth : Cond) ∈ kW := kW_5_in (List.mem_of_getElem? (i := 9) rfl)
theorem kw_selects_Ro_addBoth : (.selects R_Ro y_Ro_addBoth y_Ro_addBoth : Cond) ∈ kW := kW_5_in (List.mem_of_getElem? (i := 10) rfl)
theorem kw_code_Ro_addBoth : (.code y_Ro_addBoth b_Ro_addBoth 5 none : Cond) ∈ kW := kW_5_in (List.mem_of_getElem? (i := 11) rfl)
theorem kw_methodLink_Ro_50 : (.methodLink R_Ro 50 y_Ro_addBothOfOne : Cond) ∈ kW := kW_5_in (List.mem_of_getElem? (i := 12) rfl)
theorem kw_instanceMethod_Ro_addBothOfOne : (.instanceMethod y_Ro_addBothOfOne : Cond) ∈ kW := kW_5_in (List.mem_of_getElem? (i := 13) rfl)
theorem kw_code_Ro_addBothOfOne : (.code y_Ro_addBothOfOne b_Ro_addBothOfOne 8 none : Cond) ∈ kW := kW_5_in (List.mem_of_getElem? (i := 14) rfl)
theorem kw_methodLink_Ro_53 : (.methodLink R_Ro 53 Lib.Math.min.name : Cond) ∈ kW := kW_5_in (List.mem_of_getElem? (i := 15) rfl)
theorem kw_static_Math_min : (.static Lib.Math.min.name : Cond) ∈ kW := kW_5_in (List.mem_of_getElem? (i := 16) rfl)
theorem kw_code_Math_min : (.code Lib.Math.min.name Lib.Math.min.code 2 (some .int) : Cond) ∈ kW := kW_5_in (List.mem_of_getElem? (i := 17) rfl)
theorem kw_methodLink_As_59 : (.methodLink R_As 59 y_Ro_addHolding : Cond) ∈ kW := kW_5_in (List.mem_of_getElem? (i := 18) rfl)
theorem kw_instanceMethod_Ro_addHolding : (.instanceMethod y_Ro_addHolding : Cond) ∈ kW := kW_5_in (List.mem_of_getElem? (i := 19) rfl)
theorem kw_selects_Ro_addHolding : (.selects R_Ro y_Ro_addHolding y_Ro_addHolding : Cond) ∈ kW := kW_5_in (List.mem_of_getElem? (i := 20) rfl)
theorem kw_code_Ro_addHolding : (.code y_Ro_addHolding b_Ro_addHolding 4 none : Cond) ∈ kW := kW_5_in (List.mem_of_getElem? (i := 21) rfl)
theorem kw_methodLink_Ro_56 : (.methodLink R_Ro 56 y_Ro_hasWithin : Cond) ∈ kW := kW_5_in (List.mem_of_getElem? (i := 22) rfl)
theorem kw_instanceMethod_Ro_hasWithin : (.instanceMethod y_Ro_hasWithin : Cond) ∈ kW := kW_5_in (List.mem_of_getElem? (i := 23) rfl)
theorem kw_code_Ro_hasWithin : (.code y_Ro_hasWithin b_Ro_hasWithin 4 (some .boolean) : Cond) ∈ kW := kW_5_in (List.mem_of_getElem? (i := 24) rfl)
theorem kw_methodLink_As_63 : (.methodLink R_As 63 y_Ro_addIn : Cond) ∈ kW := kW_5_in (List.mem_of_getElem? (i := 25) rfl)
theorem kw_instanceMethod_Ro_addIn : (.instanceMethod y_Ro_addIn : Cond) ∈ kW := kW_5_in (List.mem_of_getElem? (i := 26) rfl)
theorem kw_selects_Ro_addIn : (.selects R_Ro y_Ro_addIn y_Ro_addIn : Cond) ∈ kW := kW_5_in (List.mem_of_getElem? (i := 27) rfl)
theorem kw_code_Ro_addIn : (.code y_Ro_addIn b_Ro_addIn 4 none : Cond) ∈ kW := kW_5_in (List.mem_of_getElem? (i := 28) rfl)
theorem kw_methodLink_Ro_60 : (.methodLink R_Ro 60 y_Ro_hasAround : Cond) ∈ kW := kW_5_in (List.mem_of_getElem? (i := 29) rfl)
theorem kw_instanceMethod_Ro_hasAround : (.instanceMethod y_Ro_hasAround : Cond) ∈ kW := kW_5_in (List.mem_of_getElem? (i := 30) rfl)
theorem kw_code_Ro_hasAround : (.code y_Ro_hasAround b_Ro_hasAround 4 (some .boolean) : Cond) ∈ kW := kW_5_in (List.mem_of_getElem? (i := 31) rfl)
theorem kw_methodLink_As_66 : (.methodLink R_As 66 y_Ro_addByNearness : Cond) ∈ kW := kW_5_in (List.mem_of_getElem? (i := 32) rfl)
theorem kw_instanceMethod_Ro_addByNearness : (.instanceMethod y_Ro_addByNearness : Cond) ∈ kW := kW_5_in (List.mem_of_getElem? (i := 33) rfl)
theorem kw_selects_Ro_addByNearness : (.selects R_Ro y_Ro_addByNearness y_Ro_addByNearness : Cond) ∈ kW := kW_5_in (List.mem_of_getElem? (i := 34) rfl)
theorem kw_code_Ro_addByNearness : (.code y_Ro_addByNearness b_Ro_addByNearness 6 none : Cond) ∈ kW := kW_5_in (List.mem_of_getElem? (i := 35) rfl)
theorem kw_methodLink_Ro_63 : (.methodLink R_Ro 63 y_Ro_hasNear : Cond) ∈ kW := kW_5_in (List.mem_of_getElem? (i := 36) rfl)
theorem kw_instanceMethod_Ro_hasNear : (.instanceMethod y_Ro_hasNear : Cond) ∈ kW := kW_5_in (List.mem_of_getElem? (i := 37) rfl)
theorem kw_code_Ro_hasNear : (.code y_Ro_hasNear b_Ro_hasNear 5 (some .boolean) : Cond) ∈ kW := kW_5_in (List.mem_of_getElem? (i := 38) rfl)
theorem kw_methodLink_As_70 : (.methodLink R_As 70 y_Ro_addEndingBefore : Cond) ∈ kW := kW_5_in (List.mem_of_getElem? (i := 39) rfl)
theorem kw_instanceMethod_Ro_addEndingBefore : (.instanceMethod y_Ro_addEndingBefore : Cond) ∈ kW := kW_6_in (List.mem_of_getElem? (i := 0) rfl)
theorem kw_selects_Ro_addEndingBefore : (.selects R_Ro y_Ro_addEndingBefore y_Ro_addEndingBefore : Cond) ∈ kW := kW_6_in (List.mem_of_getElem? (i := 1) rfl)
theorem kw_code_Ro_addEndingBefore : (.code y_Ro_addEndingBefore b_Ro_addEndingBefore 4 none : Cond) ∈ kW := kW_6_in (List.mem_of_getElem? (i := 2) rfl)
theorem kw_methodLink_As_74 : (.methodLink R_As 74 y_Ro_addGrown : Cond) ∈ kW := kW_6_in (List.mem_of_getElem? (i := 3) rfl)
theorem kw_methodLink_As_77 : (.methodLink R_As 77 y_Ro_keepLeast : Cond) ∈ kW := kW_6_in (List.mem_of_getElem? (i := 4) rfl)
theorem kw_instanceMethod_Ro_keepLeast : (.instanceMethod y_Ro_keepLeast : Cond) ∈ kW := kW_6_in (List.mem_of_getElem? (i := 5) rfl)
theorem kw_selects_Ro_keepLeast : (.selects R_Ro y_Ro_keepLeast y_Ro_keepLeast : Cond) ∈ kW := kW_6_in (List.mem_of_getElem? (i := 6) rfl)
theorem kw_code_Ro_keepLeast : (.code y_Ro_keepLeast b_Ro_keepLeast 3 none : Cond) ∈ kW := kW_6_in (List.mem_of_getElem? (i := 7) rfl)
theorem kw_methodLink_Pm_68 : (.methodLink R_Pm 68 y_Ro_size : Cond) ∈ kW := kW_6_in (List.mem_of_getElem? (i := 8) rfl)
theorem kw_instanceMethod_Ro_size : (.instanceMethod y_Ro_size : Cond) ∈ kW := kW_6_in (List.mem_of_getElem? (i := 9) rfl)
theorem kw_selects_Ro_size : (.selects R_Ro y_Ro_size y_Ro_size : Cond) ∈ kW := kW_6_in (List.mem_of_getElem? (i := 10) rfl)
theorem kw_code_Ro_size : (.code y_Ro_size b_Ro_size 3 (some .int) : Cond) ∈ kW := kW_6_in (List.mem_of_getElem? (i := 11) rfl)
theorem kw_instanceMethod_Pm_begin : (.instanceMethod y_Pm_begin : Cond) ∈ kW := kW_6_in (List.mem_of_getElem? (i := 12) rfl)
theorem kw_selects_Pm_begin : (.selects R_Pm y_Pm_begin y_Pm_begin : Cond) ∈ kW := kW_6_in (List.mem_of_getElem? (i := 13) rfl)
theorem kw_code_Pm_begin : (.code y_Pm_begin b_Pm_begin 3 (some .int) : Cond) ∈ kW := kW_6_in (List.mem_of_getElem? (i := 14) rfl)
theorem kw_methodLink_Pm_73 : (.methodLink R_Pm 73 y_Ro_beginOf : Cond) ∈ kW := kW_6_in (List.mem_of_getElem? (i := 15) rfl)
theorem kw_instanceMethod_Ro_beginOf : (.instanceMethod y_Ro_beginOf : Cond) ∈ kW := kW_6_in (List.mem_of_getElem? (i := 16) rfl)
theorem kw_selects_Ro_beginOf : (.selects R_Ro y_Ro_beginOf y_Ro_beginOf : Cond) ∈ kW := kW_6_in (List.mem_of_getElem? (i := 17) rfl)
theorem kw_code_Ro_beginOf : (.code y_Ro_beginOf b_Ro_beginOf 4 (some .int) : Cond) ∈ kW := kW_6_in (List.mem_of_getElem? (i := 18) rfl)
theorem kw_instanceMethod_Pm_end : (.instanceMethod y_Pm_end : Cond) ∈ kW := kW_6_in (List.mem_of_getElem? (i := 19) rfl)
theorem kw_selects_Pm_end : (.selects R_Pm y_Pm_end y_Pm_end : Cond) ∈ kW := kW_6_in (List.mem_of_getElem? (i := 20) rfl)
theorem kw_code_Pm_end : (.code y_Pm_end b_Pm_end 3 (some .int) : Cond) ∈ kW := kW_6_in (List.mem_of_getElem? (i := 21) rfl)
theorem kw_methodLink_Pm_77 : (.methodLink R_Pm 77 y_Ro_endOf : Cond) ∈ kW := kW_6_in (List.mem_of_getElem? (i := 22) rfl)
theorem kw_instanceMethod_Ro_endOf : (.instanceMethod y_Ro_endOf : Cond) ∈ kW := kW_6_in (List.mem_of_getElem? (i := 23) rfl)
theorem kw_selects_Ro_endOf : (.selects R_Ro y_Ro_endOf y_Ro_endOf : Cond) ∈ kW := kW_6_in (List.mem_of_getElem? (i := 24) rfl)
theorem kw_code_Ro_endOf : (.code y_Ro_endOf b_Ro_endOf 3 (some .int) : Cond) ∈ kW := kW_6_in (List.mem_of_getElem? (i := 25) rfl)
theorem kw_methodLink_Ro_28 : (.methodLink R_Ro 28 y_Ro_beginOf : Cond) ∈ kW := kW_6_in (List.mem_of_getElem? (i := 26) rfl)
theorem kw_instanceMethod_Pm_covered : (.instanceMethod y_Pm_covered : Cond) ∈ kW := kW_6_in (List.mem_of_getElem? (i := 27) rfl)
theorem kw_selects_Pm_covered : (.selects R_Pm y_Pm_covered y_Pm_covered : Cond) ∈ kW := kW_6_in (List.mem_of_getElem? (i := 28) rfl)
theorem kw_code_Pm_covered : (.code y_Pm_covered b_Pm_covered 2 (some .int) : Cond) ∈ kW := kW_6_in (List.mem_of_getElem? (i := 29) rfl)
theorem kw_methodLink_Pm_80 : (.methodLink R_Pm 80 y_Ro_placesCovered : Cond) ∈ kW := kW_6_in (List.mem_of_getElem? (i := 30) rfl)
theorem kw_instanceMethod_Ro_placesCovered : (.instanceMethod y_Ro_placesCovered : Cond) ∈ kW := kW_6_in (List.mem_of_getElem? (i := 31) rfl)
theorem kw_selects_Ro_placesCovered : (.selects R_Ro y_Ro_placesCovered y_Ro_placesCovered : Cond) ∈ kW := kW_6_in (List.mem_of_getElem? (i := 32) rfl)
theorem kw_code_Ro_placesCovered : (.code y_Ro_placesCovered b_Ro_placesCovered 4 (some .int) : Cond) ∈ kW := kW_6_in (List.mem_of_getElem? (i := 33) rfl)
theorem kw_instanceMethod_Pm_slot : (.instanceMethod y_Pm_slot : Cond) ∈ kW := kW_6_in (List.mem_of_getElem? (i := 34) rfl)
theorem kw_selects_Pm_slot : (.selects R_Pm y_Pm_slot y_Pm_slot : Cond) ∈ kW := kW_6_in (List.mem_of_getElem? (i := 35) rfl)
theorem kw_code_Pm_slot : (.code y_Pm_slot b_Pm_slot 3 (some .int) : Cond) ∈ kW := kW_6_in (List.mem_of_getElem? (i := 36) rfl)
theorem kw_methodLink_Pm_83 : (.methodLink R_Pm 83 y_Ph_append : Cond) ∈ kW := kW_6_in (List.mem_of_getElem? (i := 37) rfl)
theorem kw_instanceMethod_Ph_append : (.instanceMethod y_Ph_append : Cond) ∈ kW := kW_6_in (List.mem_of_getElem? (i := 38) rfl)
theorem kw_selects_Ph_append : (.selects R_Ph y_Ph_append y_Ph_append : Cond) ∈ kW := kW_6_in (List.mem_of_getElem? (i := 39) rfl)
theorem kw_code_Ph_append : (.code y_Ph_append b_Ph_append 3 (some .int) : Cond) ∈ kW := kW_7_in (List.mem_of_getElem? (i := 0) rfl)
theorem kw_methodLink_Ph_52 : (.methodLink R_Ph 52 y_Ph_outdate : Cond) ∈ kW := kW_7_in (List.mem_of_getElem? (i := 1) rfl)
theorem kw_instanceMethod_Pm_unslot : (.instanceMethod y_Pm_unslot : Cond) ∈ kW := kW_7_in (List.mem_of_getElem? (i := 2) rfl)
theorem kw_selects_Pm_unslot : (.selects R_Pm y_Pm_unslot y_Pm_unslot : Cond) ∈ kW := kW_7_in (List.mem_of_getElem? (i := 3) rfl)
theorem kw_code_Pm_unslot : (.code y_Pm_unslot b_Pm_unslot 1 (some .int) : Cond) ∈ kW := kW_7_in (List.mem_of_getElem? (i := 4) rfl)
theorem kw_methodLink_Pm_86 : (.methodLink R_Pm 86 y_Ph_dropAll : Cond) ∈ kW := kW_7_in (List.mem_of_getElem? (i := 5) rfl)
theorem kw_instanceMethod_Ph_dropAll : (.instanceMethod y_Ph_dropAll : Cond) ∈ kW := kW_7_in (List.mem_of_getElem? (i := 6) rfl)
theorem kw_selects_Ph_dropAll : (.selects R_Ph y_Ph_dropAll y_Ph_dropAll : Cond) ∈ kW := kW_7_in (List.mem_of_getElem? (i := 7) rfl)
theorem kw_code_Ph_dropAll : (.code y_Ph_dropAll b_Ph_dropAll 2 (some .int) : Cond) ∈ kW := kW_7_in (List.mem_of_getElem? (i := 8) rfl)
theorem kw_instanceMethod_Pm_matches : (.instanceMethod y_Pm_matches : Cond) ∈ kW := kW_7_in (List.mem_of_getElem? (i := 9) rfl)
theorem kw_selects_Pm_matches : (.selects R_Pm y_Pm_matches y_Pm_matches : Cond) ∈ kW := kW_7_in (List.mem_of_getElem? (i := 10) rfl)
theorem kw_code_Pm_matches : (.code y_Pm_matches b_Pm_matches 2 (some .int) : Cond) ∈ kW := kW_7_in (List.mem_of_getElem? (i := 11) rfl)
theorem kw_methodLink_Pm_87 : (.methodLink R_Pm 87 y_Pm_isSlop : Cond) ∈ kW := kW_7_in (List.mem_of_getElem? (i := 12) rfl)
theorem kw_static_Pm_isSlop : (.static y_Pm_isSlop : Cond) ∈ kW := kW_7_in (List.mem_of_getElem? (i := 13) rfl)
theorem kw_code_Pm_isSlop : (.code y_Pm_isSlop b_Pm_isSlop 1 (some .boolean) : Cond) ∈ kW := kW_7_in (List.mem_of_getElem? (i := 14) rfl)
theorem kw_methodLink_Pm_90 : (.methodLink R_Pm 90 y_Ph_settle : Cond) ∈ kW := kW_7_in (List.mem_of_getElem? (i := 15) rfl)
theorem kw_instanceMethod_Ph_settle : (.instanceMethod y_Ph_settle : Cond) ∈ kW := kW_7_in (List.mem_of_getElem? (i := 16) rfl)
theorem kw_selects_Ph_settle : (.selects R_Ph y_Ph_settle y_Ph_settle : Cond) ∈ kW := kW_7_in (List.mem_of_getElem? (i := 17) rfl)
theorem kw_code_Ph_settle : (.code y_Ph_settle b_Ph_settle 2 none : Cond) ∈ kW := kW_7_in (List.mem_of_getElem? (i := 18) rfl)
theorem kw_methodLink_Ph_61 : (.methodLink R_Ph 61 y_Ja_fill : Cond) ∈ kW := kW_7_in (List.mem_of_getElem? (i := 19) rfl)
theorem kw_methodLink_Ph_67 : (.methodLink R_Ph 67 y_Ph_findPlaces : Cond) ∈ kW := kW_7_in (List.mem_of_getElem? (i := 20) rfl)
theorem kw_instanceMethod_Ph_findPlaces : (.instanceMethod y_Ph_findPlaces : Cond) ∈ kW := kW_7_in (List.mem_of_getElem? (i := 21) rfl)
theorem kw_code_Ph_findPlaces : (.code y_Ph_findPlaces b_Ph_findPlaces 5 none : Cond) ∈ kW := kW_7_in (List.mem_of_getElem? (i := 22) rfl)
theorem kw_methodLink_Ph_71 : (.methodLink R_Ph 71 y_Ph_searchMoved : Cond) ∈ kW := kW_7_in (List.mem_of_getElem? (i := 23) rfl)
theorem kw_instanceMethod_Ph_searchMoved : (.instanceMethod y_Ph_searchMoved : Cond) ∈ kW := kW_7_in (List.mem_of_getElem? (i := 24) rfl)
theorem kw_code_Ph_searchMoved : (.code y_Ph_searchMoved b_Ph_searchMoved 10 none : Cond) ∈ kW := kW_7_in (List.mem_of_getElem? (i := 25) rfl)
theorem kw_methodLink_Ph_79 : (.methodLink R_Ph 79 y_Ph_noteChoice : Cond) ∈ kW := kW_7_in (List.mem_of_getElem? (i := 26) rfl)
theorem kw_instanceMethod_Ph_noteChoice : (.instanceMethod y_Ph_noteChoice : Cond) ∈ kW := kW_7_in (List.mem_of_getElem? (i := 27) rfl)
theorem kw_code_Ph_noteChoice : (.code y_Ph_noteChoice b_Ph_noteChoice 2 none : Cond) ∈ kW := kW_7_in (List.mem_of_getElem? (i := 28) rfl)
theorem kw_methodLink_Ph_100 : (.methodLink R_Ph 100 arraycopyName : Cond) ∈ kW := kW_7_in (List.mem_of_getElem? (i := 29) rfl)
theorem kw_static_System_arraycopy : (.static arraycopyName : Cond) ∈ kW := kW_7_in (List.mem_of_getElem? (i := 30) rfl)
theorem kw_native_System_arraycopy : (.native arraycopyName : Cond) ∈ kW := kW_7_in (List.mem_of_getElem? (i := 31) rfl)
theorem kw_methodLink_Ph_83 : (.methodLink R_Ph 83 Lib.Math.min.name : Cond) ∈ kW := kW_7_in (List.mem_of_getElem? (i := 32) rfl)
theorem kw_methodLink_Ph_89 : (.methodLink R_Ph 89 Lib.Math.max.name : Cond) ∈ kW := kW_7_in (List.mem_of_getElem? (i := 33) rfl)
theorem kw_methodLink_Ph_92 : (.methodLink R_Ph 92 Lib.Math.abs.name : Cond) ∈ kW := kW_7_in (List.mem_of_getElem? (i := 34) rfl)
theorem kw_static_Math_abs : (.static Lib.Math.abs.name : Cond) ∈ kW := kW_7_in (List.mem_of_getElem? (i := 35) rfl)
theorem kw_code_Math_abs : (.code Lib.Math.abs.name Lib.Math.abs.code 1 (some .int) : Cond) ∈ kW := kW_7_in (List.mem_of_getElem? (i := 36) rfl)
theorem kw_methodLink_Ph_96 : (.methodLink R_Ph 96 y_Ph_isFree : Cond) ∈ kW := kW_7_in (List.mem_of_getElem? (i := 37) rfl)
theorem kw_instanceMethod_Ph_isFree : (.instanceMethod y_Ph_isFree : Cond) ∈ kW := kW_7_in (List.mem_of_getElem? (i := 38) rfl)
theorem kw_code_Ph_isFree : (.code y_Ph_isFree b_Ph_isFree 4 (some .boolean) : Cond) ∈ kW := kW_7_in (List.mem_of_getElem? (i := 39) rfl)
theorem kw_methodLink_Ph_75 : (.methodLink R_Ph 75 y_Ph_searchShortest : Cond) ∈ kW := kW_8_in (List.mem_of_getElem? (i := 0) rfl)
theorem kw_instanceMethod_Ph_searchShortest : (.instanceMethod y_Ph_searchShortest : Cond) ∈ kW := kW_8_in (List.mem_of_getElem? (i := 1) rfl)
theorem kw_code_Ph_searchShortest : (.code y_Ph_searchShortest b_Ph_searchShortest 8 none : Cond) ∈ kW := kW_8_in (List.mem_of_getElem? (i := 2) rfl)
theorem kw_methodLink_Ph_106 : (.methodLink R_Ph 106 y_Ph_isShorter : Cond) ∈ kW := kW_8_in (List.mem_of_getElem? (i := 3) rfl)
theorem kw_instanceMethod_Ph_isShorter : (.instanceMethod y_Ph_isShorter : Cond) ∈ kW := kW_8_in (List.mem_of_getElem? (i := 4) rfl)
theorem kw_code_Ph_isShorter : (.code y_Ph_isShorter b_Ph_isShorter 5 (some .boolean) : Cond) ∈ kW := kW_8_in (List.mem_of_getElem? (i := 5) rfl)
theorem kw_methodLink_Pm_94 : (.methodLink R_Pm 94 y_Ph_choicesUpTo : Cond) ∈ kW := kW_8_in (List.mem_of_getElem? (i := 6) rfl)
theorem kw_instanceMethod_Ph_choicesUpTo : (.instanceMethod y_Ph_choicesUpTo : Cond) ∈ kW := kW_8_in (List.mem_of_getElem? (i := 7) rfl)
theorem kw_selects_Ph_choicesUpTo : (.selects R_Ph y_Ph_choicesUpTo y_Ph_choicesUpTo : Cond) ∈ kW := kW_8_in (List.mem_of_getElem? (i := 8) rfl)
theorem kw_code_Ph_choicesUpTo : (.code y_Ph_choicesUpTo b_Ph_choicesUpTo 4 (some .int) : Cond) ∈ kW := kW_8_in (List.mem_of_getElem? (i := 9) rfl)
theorem kw_instanceMethod_Pm_weight : (.instanceMethod y_Pm_weight : Cond) ∈ kW := kW_8_in (List.mem_of_getElem? (i := 10) rfl)
theorem kw_selects_Pm_weight : (.selects R_Pm y_Pm_weight y_Pm_weight : Cond) ∈ kW := kW_8_in (List.mem_of_getElem? (i := 11) rfl)
theorem kw_code_Pm_weight : (.code y_Pm_weight b_Pm_weight 2 (some .long) : Cond) ∈ kW := kW_8_in (List.mem_of_getElem? (i := 12) rfl)
theorem kw_constantLong_Pm_97 : (.constantLong R_Pm 97 (-2) : Cond) ∈ kW := kW_8_in (List.mem_of_getElem? (i := 13) rfl)
theorem kw_methodLink_Pm_99 : (.methodLink R_Pm 99 y_Ph_weightUpTo : Cond) ∈ kW := kW_8_in (List.mem_of_getElem? (i := 14) rfl)
theorem kw_instanceMethod_Ph_weightUpTo : (.instanceMethod y_Ph_weightUpTo : Cond) ∈ kW := kW_8_in (List.mem_of_getElem? (i := 15) rfl)
theorem kw_selects_Ph_weightUpTo : (.selects R_Ph y_Ph_weightUpTo y_Ph_weightUpTo : Cond) ∈ kW := kW_8_in (List.mem_of_getElem? (i := 16) rfl)
theorem kw_code_Ph_weightUpTo : (.code y_Ph_weightUpTo b_Ph_weightUpTo 5 (some .long) : Cond) ∈ kW := kW_8_in (List.mem_of_getElem? (i := 17) rfl)
theorem kw_constantLong_Ph_59 : (.constantLong R_Ph 59 (2520) : Cond) ∈ kW := kW_8_in (List.mem_of_getElem? (i := 18) rfl)
theorem kw_instanceMethod_Pm_least : (.instanceMethod y_Pm_least : Cond) ∈ kW := kW_8_in (List.mem_of_getElem? (i := 19) rfl)
theorem kw_selects_Pm_least : (.selects R_Pm y_Pm_least y_Pm_least : Cond) ∈ kW := kW_8_in (List.mem_of_getElem? (i := 20) rfl)
theorem kw_code_Pm_least : (.code y_Pm_least b_Pm_least 1 (some .int) : Cond) ∈ kW := kW_8_in (List.mem_of_getElem? (i := 21) rfl)
theorem kw_methodLink_Pm_103 : (.methodLink R_Pm 103 y_Ph_hasChoice : Cond) ∈ kW := kW_8_in (List.mem_of_getElem? (i := 22) rfl)
theorem kw_instanceMethod_Ph_hasChoice : (.instanceMethod y_Ph_hasChoice : Cond) ∈ kW := kW_8_in (List.mem_of_getElem? (i := 23) rfl)
theorem kw_selects_Ph_hasChoice : (.selects R_Ph y_Ph_hasChoice y_Ph_hasChoice : Cond) ∈ kW := kW_8_in (List.mem_of_getElem? (i := 24) rfl)
theorem kw_code_Ph_hasChoice : (.code y_Ph_hasChoice b_Ph_hasChoice 1 (some .boolean) : Cond) ∈ kW := kW_8_in (List.mem_of_getElem? (i := 25) rfl)
theorem kw_methodLink_Pm_107 : (.methodLink R_Pm 107 y_Ph_leastMoved : Cond) ∈ kW := kW_8_in (List.mem_of_getElem? (i := 26) rfl)
theorem kw_instanceMethod_Ph_leastMoved : (.instanceMethod y_Ph_leastMoved : Cond) ∈ kW := kW_8_in (List.mem_of_getElem? (i := 27) rfl)
theorem kw_selects_Ph_leastMoved : (.selects R_Ph y_Ph_leastMoved y_Ph_leastMoved : Cond) ∈ kW := kW_8_in (List.mem_of_getElem? (i := 28) rfl)
theorem kw_code_Ph_leastMoved : (.code y_Ph_leastMoved b_Ph_leastMoved 1 (some .int) : Cond) ∈ kW := kW_8_in (List.mem_of_getElem? (i := 29) rfl)
theorem kw_instanceMethod_Pm_chosen : (.instanceMethod y_Pm_chosen : Cond) ∈ kW := kW_8_in (List.mem_of_getElem? (i := 30) rfl)
theorem kw_selects_Pm_chosen : (.selects R_Pm y_Pm_chosen y_Pm_chosen : Cond) ∈ kW := kW_8_in (List.mem_of_getElem? (i := 31) rfl)
theorem kw_code_Pm_chosen : (.code y_Pm_chosen b_Pm_chosen 2 (some .int) : Cond) ∈ kW := kW_8_in (List.mem_of_getElem? (i := 32) rfl)
theorem kw_methodLink_Pm_110 : (.methodLink R_Pm 110 y_Ph_has : Cond) ∈ kW := kW_8_in (List.mem_of_getElem? (i := 33) rfl)
theorem kw_instanceMethod_Ph_has : (.instanceMethod y_Ph_has : Cond) ∈ kW := kW_8_in (List.mem_of_getElem? (i := 34) rfl)
theorem kw_selects_Ph_has : (.selects R_Ph y_Ph_has y_Ph_has : Cond) ∈ kW := kW_8_in (List.mem_of_getElem? (i := 35) rfl)
theorem kw_code_Ph_has : (.code y_Ph_has b_Ph_has 2 (some .boolean) : Cond) ∈ kW := kW_8_in (List.mem_of_getElem? (i := 36) rfl)
theorem kw_methodLink_Pm_111 : (.methodLink R_Pm 111 y_Ph_placeInFirst : Cond) ∈ kW := kW_8_in (List.mem_of_getElem? (i := 37) rfl)
theorem kw_instanceMethod_Ph_placeInFirst : (.instanceMethod y_Ph_placeInFirst : Cond) ∈ kW := kW_8_in (List.mem_of_getElem? (i := 38) rfl)
theorem kw_selects_Ph_placeInFirst : (.selects R_Ph y_Ph_placeInFirst y_Ph_placeInFirst : Cond) ∈ kW := kW_8_in (List.mem_of_getElem? (i := 39) rfl)
theorem kw_code_Ph_placeInFirst : (.code y_Ph_placeInFirst b_Ph_placeInFirst 2 (some .int) : Cond) ∈ kW := kW_9_in (List.mem_of_getElem? (i := 0) rfl)
theorem kw_methodLink_Ph_55 : (.methodLink R_Ph 55 y_Ph_has : Cond) ∈ kW := kW_9_in (List.mem_of_getElem? (i := 1) rfl)
theorem kw_instanceMethod_Pm_ties : (.instanceMethod y_Pm_ties : Cond) ∈ kW := kW_9_in (List.mem_of_getElem? (i := 2) rfl)
theorem kw_selects_Pm_ties : (.selects R_Pm y_Pm_ties y_Pm_ties : Cond) ∈ kW := kW_9_in (List.mem_of_getElem? (i := 3) rfl)
theorem kw_code_Pm_ties : (.code y_Pm_ties b_Pm_ties 1 (some .int) : Cond) ∈ kW := kW_9_in (List.mem_of_getElem? (i := 4) rfl)
theorem kw_methodLink_Pm_114 : (.methodLink R_Pm 114 y_Ph_choicesMovedBy : Cond) ∈ kW := kW_9_in (List.mem_of_getElem? (i := 5) rfl)
theorem kw_instanceMethod_Ph_choicesMovedBy : (.instanceMethod y_Ph_choicesMovedBy : Cond) ∈ kW := kW_9_in (List.mem_of_getElem? (i := 6) rfl)
theorem kw_selects_Ph_choicesMovedBy : (.selects R_Ph y_Ph_choicesMovedBy y_Ph_choicesMovedBy : Cond) ∈ kW := kW_9_in (List.mem_of_getElem? (i := 7) rfl)
theorem kw_code_Ph_choicesMovedBy : (.code y_Ph_choicesMovedBy b_Ph_choicesMovedBy 2 (some .int) : Cond) ∈ kW := kW_9_in (List.mem_of_getElem? (i := 8) rfl)
theorem kw_instanceMethod_Pm_shortest : (.instanceMethod y_Pm_shortest : Cond) ∈ kW := kW_9_in (List.mem_of_getElem? (i := 9) rfl)
theorem kw_selects_Pm_shortest : (.selects R_Pm y_Pm_shortest y_Pm_shortest : Cond) ∈ kW := kW_9_in (List.mem_of_getElem? (i := 10) rfl)
theorem kw_code_Pm_shortest : (.code y_Pm_shortest b_Pm_shortest 2 (some .int) : Cond) ∈ kW := kW_9_in (List.mem_of_getElem? (i := 11) rfl)
theorem kw_methodLink_Pm_117 : (.methodLink R_Pm 117 y_Ph_shortestBegin : Cond) ∈ kW := kW_9_in (List.mem_of_getElem? (i := 12) rfl)
theorem kw_instanceMethod_Ph_shortestBegin : (.instanceMethod y_Ph_shortestBegin : Cond) ∈ kW := kW_9_in (List.mem_of_getElem? (i := 13) rfl)
theorem kw_selects_Ph_shortestBegin : (.selects R_Ph y_Ph_shortestBegin y_Ph_shortestBegin : Cond) ∈ kW := kW_9_in (List.mem_of_getElem? (i := 14) rfl)
theorem kw_code_Ph_shortestBegin : (.code y_Ph_shortestBegin b_Ph_shortestBegin 1 (some .int) : Cond) ∈ kW := kW_9_in (List.mem_of_getElem? (i := 15) rfl)
theorem kw_methodLink_Pm_120 : (.methodLink R_Pm 120 y_Ph_shortestEnd : Cond) ∈ kW := kW_9_in (List.mem_of_getElem? (i := 16) rfl)
theorem kw_instanceMethod_Ph_shortestEnd : (.instanceMethod y_Ph_shortestEnd : Cond) ∈ kW := kW_9_in (List.mem_of_getElem? (i := 17) rfl)
theorem kw_selects_Ph_shortestEnd : (.selects R_Ph y_Ph_shortestEnd y_Ph_shortestEnd : Cond) ∈ kW := kW_9_in (List.mem_of_getElem? (i := 18) rfl)
theorem kw_code_Ph_shortestEnd : (.code y_Ph_shortestEnd b_Ph_shortestEnd 1 (some .int) : Cond) ∈ kW := kW_9_in (List.mem_of_getElem? (i := 19) rfl)
theorem kw_instantiable_Mo : (.instantiable R_Mo 19 : Cond) ∈ kW := kW_9_in (List.mem_of_getElem? (i := 20) rfl)
theorem kw_instanceMethod_Mo_init : (.instanceMethod y_Mo_init : Cond) ∈ kW := kW_9_in (List.mem_of_getElem? (i := 21) rfl)
theorem kw_code_Mo_init : (.code y_Mo_init b_Mo_init 1 none : Cond) ∈ kW := kW_9_in (List.mem_of_getElem? (i := 22) rfl)
theorem kw_methodLink_Mo_1 : (.methodLink R_Mo 1 objectInit : Cond) ∈ kW := kW_9_in (List.mem_of_getElem? (i := 23) rfl)
theorem kw_fieldLink_Mo_7 : (.fieldLink R_Mo 7 "PhraseMovesModel" "text" "[I" : Cond) ∈ kW := kW_9_in (List.mem_of_getElem? (i := 24) rfl)
theorem kw_fieldLink_Mo_57 : (.fieldLink R_Mo 57 "PhraseMovesModel" "asks" "I" : Cond) ∈ kW := kW_9_in (List.mem_of_getElem? (i := 25) rfl)
theorem kw_fieldLink_Mo_13 : (.fieldLink R_Mo 13 "PhraseMovesModel" "kinds" "[I" : Cond) ∈ kW := kW_9_in (List.mem_of_getElem? (i := 26) rfl)
theorem kw_fieldLink_Mo_16 : (.fieldLink R_Mo 16 "PhraseMovesModel" "one" "[I" : Cond) ∈ kW := kW_9_in (List.mem_of_getElem? (i := 27) rfl)
theorem kw_fieldLink_Mo_19 : (.fieldLink R_Mo 19 "PhraseMovesModel" "other" "[I" : Cond) ∈ kW := kW_9_in (List.mem_of_getElem? (i := 28) rfl)
theorem kw_fieldLink_Mo_22 : (.fieldLink R_Mo 22 "PhraseMovesModel" "number" "[I" : Cond) ∈ kW := kW_9_in (List.mem_of_getElem? (i := 29) rfl)
theorem kw_fieldLink_Mo_95 : (.fieldLink R_Mo 95 "PhraseMovesModel" "slots" "I" : Cond) ∈ kW := kW_9_in (List.mem_of_getElem? (i := 30) rfl)
theorem kw_fieldLink_Mo_25 : (.fieldLink R_Mo 25 "PhraseMovesModel" "offsets" "[I" : Cond) ∈ kW := kW_9_in (List.mem_of_getElem? (i := 31) rfl)
theorem kw_fieldLink_Mo_28 : (.fieldLink R_Mo 28 "PhraseMovesModel" "sets" "[I" : Cond) ∈ kW := kW_9_in (List.mem_of_getElem? (i := 32) rfl)
theorem kw_fieldLink_Mo_53 : (.fieldLink R_Mo 53 "PhraseMovesModel" "known" "Z" : Cond) ∈ kW := kW_9_in (List.mem_of_getElem? (i := 33) rfl)
theorem kw_fieldLink_Mo_31 : (.fieldLink R_Mo 31 "PhraseMovesModel" "ends" "[I" : Cond) ∈ kW := kW_9_in (List.mem_of_getElem? (i := 34) rfl)
theorem kw_fieldLink_Mo_34 : (.fieldLink R_Mo 34 "PhraseMovesModel" "under" "[I" : Cond) ∈ kW := kW_9_in (List.mem_of_getElem? (i := 35) rfl)
theorem kw_fieldLink_Mo_37 : (.fieldLink R_Mo 37 "PhraseMovesModel" "many" "[I" : Cond) ∈ kW := kW_9_in (List.mem_of_getElem? (i := 36) rfl)
theorem kw_fieldLink_Mo_103 : (.fieldLink R_Mo 103 "PhraseMovesModel" "choices" "I" : Cond) ∈ kW := kW_9_in (List.mem_of_getElem? (i := 37) rfl)
theorem kw_fieldLink_Mo_106 : (.fieldLink R_Mo 106 "PhraseMovesModel" "least" "I" : Cond) ∈ kW := kW_9_in (List.mem_of_getElem? (i := 38) rfl)
theorem kw_fieldLink_Mo_40 : (.fieldLink R_Mo 40 "PhraseMovesModel" "first" "[I" : Cond) ∈ kW := kW_9_in (List.mem_of_getElem? (i := 39) rfl)
theorem kw_fieldLink_Mo_112 : (.fieldLink R_Mo 112 "PhraseMovesModel" "shortFrom" "I" : Cond) ∈ kW := kW_10_in (List.mem_of_getElem? (i := 0) rfl)
theorem kw_fieldLink_Mo_109 : (.fieldLink R_Mo 109 "PhraseMovesModel" "shortTo" "I" : Cond) ∈ kW := kW_10_in (List.mem_of_getElem? (i := 1) rfl)
theorem kw_fieldLink_Mo_43 : (.fieldLink R_Mo 43 "PhraseMovesModel" "places" "[I" : Cond) ∈ kW := kW_10_in (List.mem_of_getElem? (i := 2) rfl)
theorem kw_laysFinal_Mo_text : (.laysFinal R_Mo "PhraseMovesModel" "text" "[I" : Cond) ∈ kW := kW_10_in (List.mem_of_getElem? (i := 3) rfl)
theorem kw_lays_Mo_asks : (.lays R_Mo "PhraseMovesModel" "asks" "I" : Cond) ∈ kW := kW_10_in (List.mem_of_getElem? (i := 4) rfl)
theorem kw_laysFinal_Mo_kinds : (.laysFinal R_Mo "PhraseMovesModel" "kinds" "[I" : Cond) ∈ kW := kW_10_in (List.mem_of_getElem? (i := 5) rfl)
theorem kw_laysFinal_Mo_one : (.laysFinal R_Mo "PhraseMovesModel" "one" "[I" : Cond) ∈ kW := kW_10_in (List.mem_of_getElem? (i := 6) rfl)
theorem kw_laysFinal_Mo_other : (.laysFinal R_Mo "PhraseMovesModel" "other" "[I" : Cond) ∈ kW := kW_10_in (List.mem_of_getElem? (i := 7) rfl)
theorem kw_laysFinal_Mo_number : (.laysFinal R_Mo "PhraseMovesModel" "number" "[I" : Cond) ∈ kW := kW_10_in (List.mem_of_getElem? (i := 8) rfl)
theorem kw_lays_Mo_slots : (.lays R_Mo "PhraseMovesModel" "slots" "I" : Cond) ∈ kW := kW_10_in (List.mem_of_getElem? (i := 9) rfl)
theorem kw_laysFinal_Mo_offsets : (.laysFinal R_Mo "PhraseMovesModel" "offsets" "[I" : Cond) ∈ kW := kW_10_in (List.mem_of_getElem? (i := 10) rfl)
theorem kw_laysFinal_Mo_sets : (.laysFinal R_Mo "PhraseMovesModel" "sets" "[I" : Cond) ∈ kW := kW_10_in (List.mem_of_getElem? (i := 11) rfl)
theorem kw_lays_Mo_known : (.lays R_Mo "PhraseMovesModel" "known" "Z" : Cond) ∈ kW := kW_10_in (List.mem_of_getElem? (i := 12) rfl)
theorem kw_laysFinal_Mo_ends : (.laysFinal R_Mo "PhraseMovesModel" "ends" "[I" : Cond) ∈ kW := kW_10_in (List.mem_of_getElem? (i := 13) rfl)
theorem kw_laysFinal_Mo_under : (.laysFinal R_Mo "PhraseMovesModel" "under" "[I" : Cond) ∈ kW := kW_10_in (List.mem_of_getElem? (i := 14) rfl)
theorem kw_laysFinal_Mo_many : (.laysFinal R_Mo "PhraseMovesModel" "many" "[I" : Cond) ∈ kW := kW_10_in (List.mem_of_getElem? (i := 15) rfl)
theorem kw_lays_Mo_choices : (.lays R_Mo "PhraseMovesModel" "choices" "I" : Cond) ∈ kW := kW_10_in (List.mem_of_getElem? (i := 16) rfl)
theorem kw_lays_Mo_least : (.lays R_Mo "PhraseMovesModel" "least" "I" : Cond) ∈ kW := kW_10_in (List.mem_of_getElem? (i := 17) rfl)
theorem kw_laysFinal_Mo_first : (.laysFinal R_Mo "PhraseMovesModel" "first" "[I" : Cond) ∈ kW := kW_10_in (List.mem_of_getElem? (i := 18) rfl)
theorem kw_lays_Mo_shortFrom : (.lays R_Mo "PhraseMovesModel" "shortFrom" "I" : Cond) ∈ kW := kW_10_in (List.mem_of_getElem? (i := 19) rfl)
theorem kw_lays_Mo_shortTo : (.lays R_Mo "PhraseMovesModel" "shortTo" "I" : Cond) ∈ kW := kW_10_in (List.mem_of_getElem? (i := 20) rfl)
theorem kw_laysFinal_Mo_places : (.laysFinal R_Mo "PhraseMovesModel" "places" "[I" : Cond) ∈ kW := kW_10_in (List.mem_of_getElem? (i := 21) rfl)
theorem kw_instanceMethod_Mo_put : (.instanceMethod y_Mo_put : Cond) ∈ kW := kW_10_in (List.mem_of_getElem? (i := 22) rfl)
theorem kw_selects_Mo_put : (.selects R_Mo y_Mo_put y_Mo_put : Cond) ∈ kW := kW_10_in (List.mem_of_getElem? (i := 23) rfl)
theorem kw_code_Mo_put : (.code y_Mo_put b_Mo_put 4 (some .int) : Cond) ∈ kW := kW_10_in (List.mem_of_getElem? (i := 24) rfl)
theorem kw_methodLink_Mo_46 : (.methodLink R_Mo 46 y_Mo_isPlace : Cond) ∈ kW := kW_10_in (List.mem_of_getElem? (i := 25) rfl)
theorem kw_static_Mo_isPlace : (.static y_Mo_isPlace : Cond) ∈ kW := kW_10_in (List.mem_of_getElem? (i := 26) rfl)
theorem kw_code_Mo_isPlace : (.code y_Mo_isPlace b_Mo_isPlace 1 (some .boolean) : Cond) ∈ kW := kW_10_in (List.mem_of_getElem? (i := 27) rfl)
theorem kw_methodLink_Mo_50 : (.methodLink R_Mo 50 y_Mo_isSet : Cond) ∈ kW := kW_10_in (List.mem_of_getElem? (i := 28) rfl)
theorem kw_static_Mo_isSet : (.static y_Mo_isSet : Cond) ∈ kW := kW_10_in (List.mem_of_getElem? (i := 29) rfl)
theorem kw_code_Mo_isSet : (.code y_Mo_isSet b_Mo_isSet 1 (some .boolean) : Cond) ∈ kW := kW_10_in (List.mem_of_getElem? (i := 30) rfl)
theorem kw_instanceMethod_Mo_clear : (.instanceMethod y_Mo_clear : Cond) ∈ kW := kW_10_in (List.mem_of_getElem? (i := 31) rfl)
theorem kw_selects_Mo_clear : (.selects R_Mo y_Mo_clear y_Mo_clear : Cond) ∈ kW := kW_10_in (List.mem_of_getElem? (i := 32) rfl)
theorem kw_code_Mo_clear : (.code y_Mo_clear b_Mo_clear 3 (some .int) : Cond) ∈ kW := kW_10_in (List.mem_of_getElem? (i := 33) rfl)
theorem kw_instanceMethod_Mo_ask : (.instanceMethod y_Mo_ask : Cond) ∈ kW := kW_10_in (List.mem_of_getElem? (i := 34) rfl)
theorem kw_selects_Mo_ask : (.selects R_Mo y_Mo_ask y_Mo_ask : Cond) ∈ kW := kW_10_in (List.mem_of_getElem? (i := 35) rfl)
theorem kw_code_Mo_ask : (.code y_Mo_ask b_Mo_ask 6 (some .int) : Cond) ∈ kW := kW_10_in (List.mem_of_getElem? (i := 36) rfl)
theorem kw_methodLink_Mo_61 : (.methodLink R_Mo 61 y_Mo_isAsk : Cond) ∈ kW := kW_10_in (List.mem_of_getElem? (i := 37) rfl)
theorem kw_instanceMethod_Mo_isAsk : (.instanceMethod y_Mo_isAsk : Cond) ∈ kW := kW_10_in (List.mem_of_getElem? (i := 38) rfl)
theorem kw_code_Mo_isAsk : (.code y_Mo_isAsk b_Mo_isAsk 2 (some .boolean) : Cond) ∈ kW := kW_10_in (List.mem_of_getElem? (i := 39) rfl)
theorem kw_instanceMethod_Mo_forget : (.instanceMethod y_Mo_forget : Cond) ∈ kW := kW_11_in (List.mem_of_getElem? (i := 0) rfl)
theorem kw_selects_Mo_forget : (.selects R_Mo y_Mo_forget y_Mo_forget : Cond) ∈ kW := kW_11_in (List.mem_of_getElem? (i := 1) rfl)
theorem kw_code_Mo_forget : (.code y_Mo_forget b_Mo_forget 2 (some .int) : Cond) ∈ kW := kW_11_in (List.mem_of_getElem? (i := 2) rfl)
theorem kw_instanceMethod_Mo_count : (.instanceMethod y_Mo_count : Cond) ∈ kW := kW_11_in (List.mem_of_getElem? (i := 3) rfl)
theorem kw_selects_Mo_count : (.selects R_Mo y_Mo_count y_Mo_count : Cond) ∈ kW := kW_11_in (List.mem_of_getElem? (i := 4) rfl)
theorem kw_code_Mo_count : (.code y_Mo_count b_Mo_count 4 (some .int) : Cond) ∈ kW := kW_11_in (List.mem_of_getElem? (i := 5) rfl)
theorem kw_methodLink_Mo_88 : (.methodLink R_Mo 88 y_Mo_findAll : Cond) ∈ kW := kW_11_in (List.mem_of_getElem? (i := 6) rfl)
theorem kw_instanceMethod_Mo_findAll : (.instanceMethod y_Mo_findAll : Cond) ∈ kW := kW_11_in (List.mem_of_getElem? (i := 7) rfl)
theorem kw_code_Mo_findAll : (.code y_Mo_findAll b_Mo_findAll 3 none : Cond) ∈ kW := kW_11_in (List.mem_of_getElem? (i := 8) rfl)
theorem kw_methodLink_Mo_84 : (.methodLink R_Mo 84 y_Mo_find : Cond) ∈ kW := kW_11_in (List.mem_of_getElem? (i := 9) rfl)
theorem kw_instanceMethod_Mo_find : (.instanceMethod y_Mo_find : Cond) ∈ kW := kW_11_in (List.mem_of_getElem? (i := 10) rfl)
theorem kw_code_Mo_find : (.code y_Mo_find b_Mo_find 6 none : Cond) ∈ kW := kW_11_in (List.mem_of_getElem? (i := 11) rfl)
theorem kw_methodLink_Mo_76 : (.methodLink R_Mo 76 y_Mo_alone : Cond) ∈ kW := kW_11_in (List.mem_of_getElem? (i := 12) rfl)
theorem kw_instanceMethod_Mo_alone : (.instanceMethod y_Mo_alone : Cond) ∈ kW := kW_11_in (List.mem_of_getElem? (i := 13) rfl)
theorem kw_code_Mo_alone : (.code y_Mo_alone b_Mo_alone 6 none : Cond) ∈ kW := kW_11_in (List.mem_of_getElem? (i := 14) rfl)
theorem kw_methodLink_Mo_72 : (.methodLink R_Mo 72 y_Mo_isFar : Cond) ∈ kW := kW_11_in (List.mem_of_getElem? (i := 15) rfl)
theorem kw_instanceMethod_Mo_isFar : (.instanceMethod y_Mo_isFar : Cond) ∈ kW := kW_11_in (List.mem_of_getElem? (i := 16) rfl)
theorem kw_code_Mo_isFar : (.code y_Mo_isFar b_Mo_isFar 8 (some .boolean) : Cond) ∈ kW := kW_11_in (List.mem_of_getElem? (i := 17) rfl)
theorem kw_methodLink_Mo_68 : (.methodLink R_Mo 68 y_Mo_gap : Cond) ∈ kW := kW_11_in (List.mem_of_getElem? (i := 18) rfl)
theorem kw_static_Mo_gap : (.static y_Mo_gap : Cond) ∈ kW := kW_11_in (List.mem_of_getElem? (i := 19) rfl)
theorem kw_code_Mo_gap : (.code y_Mo_gap b_Mo_gap 4 (some .int) : Cond) ∈ kW := kW_11_in (List.mem_of_getElem? (i := 20) rfl)
theorem kw_methodLink_Mo_64 : (.methodLink R_Mo 64 y_Mo_comes : Cond) ∈ kW := kW_11_in (List.mem_of_getElem? (i := 21) rfl)
theorem kw_instanceMethod_Mo_comes : (.instanceMethod y_Mo_comes : Cond) ∈ kW := kW_11_in (List.mem_of_getElem? (i := 22) rfl)
theorem kw_code_Mo_comes : (.code y_Mo_comes b_Mo_comes 3 none : Cond) ∈ kW := kW_11_in (List.mem_of_getElem? (i := 23) rfl)
theorem kw_methodLink_Mo_80 : (.methodLink R_Mo 80 y_Mo_pair : Cond) ∈ kW := kW_11_in (List.mem_of_getElem? (i := 24) rfl)
theorem kw_instanceMethod_Mo_pair : (.instanceMethod y_Mo_pair : Cond) ∈ kW := kW_11_in (List.mem_of_getElem? (i := 25) rfl)
theorem kw_code_Mo_pair : (.code y_Mo_pair b_Mo_pair 10 none : Cond) ∈ kW := kW_11_in (List.mem_of_getElem? (i := 26) rfl)
theorem kw_instanceMethod_Mo_begin : (.instanceMethod y_Mo_begin : Cond) ∈ kW := kW_11_in (List.mem_of_getElem? (i := 27) rfl)
theorem kw_selects_Mo_begin : (.selects R_Mo y_Mo_begin y_Mo_begin : Cond) ∈ kW := kW_11_in (List.mem_of_getElem? (i := 28) rfl)
theorem kw_code_Mo_begin : (.code y_Mo_begin b_Mo_begin 3 (some .int) : Cond) ∈ kW := kW_11_in (List.mem_of_getElem? (i := 29) rfl)
theorem kw_methodLink_Mo_91 : (.methodLink R_Mo 91 y_Mo_nth : Cond) ∈ kW := kW_11_in (List.mem_of_getElem? (i := 30) rfl)
theorem kw_instanceMethod_Mo_nth : (.instanceMethod y_Mo_nth : Cond) ∈ kW := kW_11_in (List.mem_of_getElem? (i := 31) rfl)
theorem kw_code_Mo_nth : (.code y_Mo_nth b_Mo_nth 5 (some .int) : Cond) ∈ kW := kW_11_in (List.mem_of_getElem? (i := 32) rfl)
theorem kw_instanceMethod_Mo_end : (.instanceMethod y_Mo_end : Cond) ∈ kW := kW_11_in (List.mem_of_getElem? (i := 33) rfl)
theorem kw_selects_Mo_end : (.selects R_Mo y_Mo_end y_Mo_end : Cond) ∈ kW := kW_11_in (List.mem_of_getElem? (i := 34) rfl)
theorem kw_code_Mo_end : (.code y_Mo_end b_Mo_end 4 (some .int) : Cond) ∈ kW := kW_11_in (List.mem_of_getElem? (i := 35) rfl)
theorem kw_instanceMethod_Mo_covered : (.instanceMethod y_Mo_covered : Cond) ∈ kW := kW_11_in (List.mem_of_getElem? (i := 36) rfl)
theorem kw_selects_Mo_covered : (.selects R_Mo y_Mo_covered y_Mo_covered : Cond) ∈ kW := kW_11_in (List.mem_of_getElem? (i := 37) rfl)
theorem kw_code_Mo_covered : (.code y_Mo_covered b_Mo_covered 6 (some .int) : Cond) ∈ kW := kW_11_in (List.mem_of_getElem? (i := 38) rfl)
theorem kw_instanceMethod_Mo_slot : (.instanceMethod y_Mo_slot : Cond) ∈ kW := kW_11_in (List.mem_of_getElem? (i := 39) rfl)
theorem kw_selects_Mo_slot : (.selects R_Mo y_Mo_slot y_Mo_slot : Cond) ∈ kW := kW_12_in (List.mem_of_getElem? (i := 0) rfl)
theorem kw_code_Mo_slot : (.code y_Mo_slot b_Mo_slot 3 (some .int) : Cond) ∈ kW := kW_12_in (List.mem_of_getElem? (i := 1) rfl)
theorem kw_instanceMethod_Mo_unslot : (.instanceMethod y_Mo_unslot : Cond) ∈ kW := kW_12_in (List.mem_of_getElem? (i := 2) rfl)
theorem kw_selects_Mo_unslot : (.selects R_Mo y_Mo_unslot y_Mo_unslot : Cond) ∈ kW := kW_12_in (List.mem_of_getElem? (i := 3) rfl)
theorem kw_code_Mo_unslot : (.code y_Mo_unslot b_Mo_unslot 2 (some .int) : Cond) ∈ kW := kW_12_in (List.mem_of_getElem? (i := 4) rfl)
theorem kw_instanceMethod_Mo_matches : (.instanceMethod y_Mo_matches : Cond) ∈ kW := kW_12_in (List.mem_of_getElem? (i := 5) rfl)
theorem kw_selects_Mo_matches : (.selects R_Mo y_Mo_matches y_Mo_matches : Cond) ∈ kW := kW_12_in (List.mem_of_getElem? (i := 6) rfl)
theorem kw_code_Mo_matches : (.code y_Mo_matches b_Mo_matches 4 (some .int) : Cond) ∈ kW := kW_12_in (List.mem_of_getElem? (i := 7) rfl)
theorem kw_methodLink_Mo_122 : (.methodLink R_Mo 122 y_Mo_know : Cond) ∈ kW := kW_12_in (List.mem_of_getElem? (i := 8) rfl)
theorem kw_instanceMethod_Mo_know : (.instanceMethod y_Mo_know : Cond) ∈ kW := kW_12_in (List.mem_of_getElem? (i := 9) rfl)
theorem kw_code_Mo_know : (.code y_Mo_know b_Mo_know 3 none : Cond) ∈ kW := kW_12_in (List.mem_of_getElem? (i := 10) rfl)
theorem kw_methodLink_Mo_115 : (.methodLink R_Mo 115 y_Mo_fits : Cond) ∈ kW := kW_12_in (List.mem_of_getElem? (i := 11) rfl)
theorem kw_instanceMethod_Mo_fits : (.instanceMethod y_Mo_fits : Cond) ∈ kW := kW_12_in (List.mem_of_getElem? (i := 12) rfl)
theorem kw_code_Mo_fits : (.code y_Mo_fits b_Mo_fits 4 (some .boolean) : Cond) ∈ kW := kW_12_in (List.mem_of_getElem? (i := 13) rfl)
theorem kw_methodLink_Mo_119 : (.methodLink R_Mo 119 y_Mo_choose : Cond) ∈ kW := kW_12_in (List.mem_of_getElem? (i := 14) rfl)
theorem kw_instanceMethod_Mo_choose : (.instanceMethod y_Mo_choose : Cond) ∈ kW := kW_12_in (List.mem_of_getElem? (i := 15) rfl)
theorem kw_code_Mo_choose : (.code y_Mo_choose b_Mo_choose 5 none : Cond) ∈ kW := kW_12_in (List.mem_of_getElem? (i := 16) rfl)
theorem kw_methodLink_Mo_99 : (.methodLink R_Mo 99 y_Mo_moved : Cond) ∈ kW := kW_12_in (List.mem_of_getElem? (i := 17) rfl)
theorem kw_instanceMethod_Mo_moved : (.instanceMethod y_Mo_moved : Cond) ∈ kW := kW_12_in (List.mem_of_getElem? (i := 18) rfl)
theorem kw_code_Mo_moved : (.code y_Mo_moved b_Mo_moved 6 (some .int) : Cond) ∈ kW := kW_12_in (List.mem_of_getElem? (i := 19) rfl)
theorem kw_constant_Mo_98 : (.constant R_Mo 98 (1000000) : Cond) ∈ kW := kW_12_in (List.mem_of_getElem? (i := 20) rfl)
theorem kw_instanceMethod_Mo_weight : (.instanceMethod y_Mo_weight : Cond) ∈ kW := kW_12_in (List.mem_of_getElem? (i := 21) rfl)
theorem kw_selects_Mo_weight : (.selects R_Mo y_Mo_weight y_Mo_weight : Cond) ∈ kW := kW_12_in (List.mem_of_getElem? (i := 22) rfl)
theorem kw_code_Mo_weight : (.code y_Mo_weight b_Mo_weight 5 (some .long) : Cond) ∈ kW := kW_12_in (List.mem_of_getElem? (i := 23) rfl)
theorem kw_constantLong_Mo_125 : (.constantLong R_Mo 125 (-2) : Cond) ∈ kW := kW_12_in (List.mem_of_getElem? (i := 24) rfl)
theorem kw_instanceMethod_Mo_least : (.instanceMethod y_Mo_least : Cond) ∈ kW := kW_12_in (List.mem_of_getElem? (i := 25) rfl)
theorem kw_selects_Mo_least : (.selects R_Mo y_Mo_least y_Mo_least : Cond) ∈ kW := kW_12_in (List.mem_of_getElem? (i := 26) rfl)
theorem kw_code_Mo_least : (.code y_Mo_least b_Mo_least 1 (some .int) : Cond) ∈ kW := kW_12_in (List.mem_of_getElem? (i := 27) rfl)
theorem kw_instanceMethod_Mo_chosen : (.instanceMethod y_Mo_chosen : Cond) ∈ kW := kW_12_in (List.mem_of_getElem? (i := 28) rfl)
theorem kw_selects_Mo_chosen : (.selects R_Mo y_Mo_chosen y_Mo_chosen : Cond) ∈ kW := kW_12_in (List.mem_of_getElem? (i := 29) rfl)
theorem kw_code_Mo_chosen : (.code y_Mo_chosen b_Mo_chosen 2 (some .int) : Cond) ∈ kW := kW_12_in (List.mem_of_getElem? (i := 30) rfl)
theorem kw_instanceMethod_Mo_ties : (.instanceMethod y_Mo_ties : Cond) ∈ kW := kW_12_in (List.mem_of_getElem? (i := 31) rfl)
theorem kw_selects_Mo_ties : (.selects R_Mo y_Mo_ties y_Mo_ties : Cond) ∈ kW := kW_12_in (List.mem_of_getElem? (i := 32) rfl)
theorem kw_code_Mo_ties : (.code y_Mo_ties b_Mo_ties 1 (some .int) : Cond) ∈ kW := kW_12_in (List.mem_of_getElem? (i := 33) rfl)
theorem kw_instanceMethod_Mo_shortest : (.instanceMethod y_Mo_shortest : Cond) ∈ kW := kW_12_in (List.mem_of_getElem? (i := 34) rfl)
theorem kw_selects_Mo_shortest : (.selects R_Mo y_Mo_shortest y_Mo_shortest : Cond) ∈ kW := kW_12_in (List.mem_of_getElem? (i := 35) rfl)
theorem kw_code_Mo_shortest : (.code y_Mo_shortest b_Mo_shortest 2 (some .int) : Cond) ∈ kW := kW_12_in (List.mem_of_getElem? (i := 36) rfl)
theorem kin_As : ∀ w ∈ u_ws R_As T_As 7, w ∈ kW := by
  intro w hw
  obtain ⟨k, hk, rfl⟩ := List.mem_map.mp hw
  have hk : k < 7 := List.mem_range.mp hk
  match k, hk with
  | 0, _ => exact kw_laysFinal_As_kinds
  | 1, _ => exact kw_laysFinal_As_firsts
  | 2, _ => exact kw_laysFinal_As_seconds
  | 3, _ => exact kw_laysFinal_As_numbers
  | 4, _ => exact kw_laysFinal_As_rows
  | 5, _ => exact kw_lays_As_size
  | 6, _ => exact kw_lays_As_ready
  | k + 7, h => exact absurd h (by omega)
theorem kin_Ph : ∀ w ∈ u_ws R_Ph T_Ph 12, w ∈ kW := by
  intro w hw
  obtain ⟨k, hk, rfl⟩ := List.mem_map.mp hw
  have hk : k < 12 := List.mem_range.mp hk
  match k, hk with
  | 0, _ => exact kw_laysFinal_Ph_offsets
  | 1, _ => exact kw_laysFinal_Ph_sets
  | 2, _ => exact kw_lays_Ph_size
  | 3, _ => exact kw_lays_Ph_settled
  | 4, _ => exact kw_laysFinal_Ph_places
  | 5, _ => exact kw_laysFinal_Ph_placesOf
  | 6, _ => exact kw_laysFinal_Ph_tried
  | 7, _ => exact kw_laysFinal_Ph_firstChoice
  | 8, _ => exact kw_laysFinal_Ph_counts
  | 9, _ => exact kw_lays_Ph_lowestMoved
  | 10, _ => exact kw_lays_Ph_shortFrom
  | 11, _ => exact kw_lays_Ph_shortTo
  | k + 12, h => exact absurd h (by omega)
theorem kin_Ro : ∀ w ∈ u_ws R_Ro T_Ro 1, w ∈ kW := by
  intro w hw
  obtain ⟨k, hk, rfl⟩ := List.mem_map.mp hw
  have hk : k < 1 := List.mem_range.mp hk
  match k, hk with
  | 0, _ => exact kw_laysFinal_Ro_ends
  | k + 1, h => exact absurd h (by omega)
theorem kin_Pm : ∀ w ∈ u_ws R_Pm T_Pm 3, w ∈ kW := by
  intro w hw
  obtain ⟨k, hk, rfl⟩ := List.mem_map.mp hw
  have hk : k < 3 := List.mem_range.mp hk
  match k, hk with
  | 0, _ => exact kw_laysFinal_Pm_text
  | 1, _ => exact kw_laysFinal_Pm_asks
  | 2, _ => exact kw_laysFinal_Pm_phrase
  | k + 3, h => exact absurd h (by omega)
theorem kin_Mo : ∀ w ∈ u_ws R_Mo T_Mo 19, w ∈ kW := by
  intro w hw
  obtain ⟨k, hk, rfl⟩ := List.mem_map.mp hw
  have hk : k < 19 := List.mem_range.mp hk
  match k, hk with
  | 0, _ => exact kw_laysFinal_Mo_text
  | 1, _ => exact kw_lays_Mo_asks
  | 2, _ => exact kw_laysFinal_Mo_kinds
  | 3, _ => exact kw_laysFinal_Mo_one
  | 4, _ => exact kw_laysFinal_Mo_other
  | 5, _ => exact kw_laysFinal_Mo_number
  | 6, _ => exact kw_lays_Mo_slots
  | 7, _ => exact kw_laysFinal_Mo_offsets
  | 8, _ => exact kw_laysFinal_Mo_sets
  | 9, _ => exact kw_lays_Mo_known
  | 10, _ => exact kw_laysFinal_Mo_ends
  | 11, _ => exact kw_laysFinal_Mo_under
  | 12, _ => exact kw_laysFinal_Mo_many
  | 13, _ => exact kw_lays_Mo_choices
  | 14, _ => exact kw_lays_Mo_least
  | 15, _ => exact kw_laysFinal_Mo_first
  | 16, _ => exact kw_lays_Mo_shortFrom
  | 17, _ => exact kw_lays_Mo_shortTo
  | 18, _ => exact kw_laysFinal_Mo_places
  | k + 19, h => exact absurd h (by omega)
set_option maxRecDepth 20000 in
theorem kW_0_good : kW_0.all goodWord = true := by decide +kernel
set_option maxRecDepth 20000 in
theorem kW_0_tbl : kW_0 = ([0, 1, 2, 3, 4, 5, 6, 7, 8, 9, 10, 11, 12, 13, 14, 15, 16, 17, 18, 19, 20, 21, 22, 23, 24, 26, 27, 28, 29, 30, 31, 32, 33, 35, 37, 38, 39, 40, 41, 42] : List Nat).filterMap (fun i => lw_tbl[i]?) := by decide +kernel
set_option maxRecDepth 20000 in
theorem kW_1_good : kW_1.all goodWord = true := by decide +kernel
set_option maxRecDepth 20000 in
theorem kW_1_tbl : kW_1 = ([43, 44, 45, 46, 47, 48, 50, 51, 52, 53, 54, 55, 56, 57, 58, 59, 62, 63, 64, 65, 66, 67, 68, 69, 70, 72, 74, 76, 78, 80, 82, 85, 86, 87, 88, 89, 90, 91, 93, 94] : List Nat).filterMap (fun i => lw_tbl[i]?) := by decide +kernel
set_option maxRecDepth 20000 in
theorem kW_2_good : kW_2.all goodWord = true := by decide +kernel
set_option maxRecDepth 20000 in
theorem kW_2_tbl : kW_2 = ([95, 96, 97, 98, 99, 100, 101, 102, 103, 104, 105, 107, 109, 111, 113, 115, 117, 119, 121, 123, 125, 127, 130, 131, 132, 133, 135, 137, 141, 142, 143, 144, 145, 146, 147, 148, 149, 150, 152, 153] : List Nat).filterMap (fun i => lw_tbl[i]?) := by decide +kernel
set_option maxRecDepth 20000 in
theorem kW_3_good : kW_3.all goodWord = true := by decide +kernel
set_option maxRecDepth 20000 in
theorem kW_3_tbl : kW_3 = ([154, 155, 156, 157, 158, 159, 160, 161, 163, 164, 165, 167, 168, 169, 170, 171, 172, 173, 174, 175, 176, 177, 178, 179, 180, 181, 182, 183, 184, 185, 186, 187, 188, 189, 190, 191, 192, 194, 195, 196] : List Nat).filterMap (fun i => lw_tbl[i]?) := by decide +kernel
set_option maxRecDepth 20000 in
theorem kW_4_good : kW_4.all goodWord = true := by decide +kernel
set_option maxRecDepth 20000 in
theorem kW_4_tbl : kW_4 = ([197, 198, 199, 200, 202, 203, 204, 205, 206, 207, 208, 209, 211, 212, 213, 214, 215, 216, 217, 218, 219, 220, 221, 222, 223, 224, 226, 227, 228, 229, 230, 231, 232, 233, 234, 235, 236, 237, 238, 239] : List Nat).filterMap (fun i => lw_tbl[i]?) := by decide +kernel
set_option maxRecDepth 20000 in
theorem kW_5_good : kW_5.all goodWord = true := by decide +kernel
set_option maxRecDepth 20000 in
theorem kW_5_tbl : kW_5 = ([240, 241, 242, 243, 244, 245, 247, 248, 249, 250, 251, 252, 253, 255, 256, 257, 258, 259, 260, 261, 262, 263, 264, 266, 267, 268, 269, 270, 271, 272, 274, 275, 276, 277, 278, 279, 280, 282, 283, 284] : List Nat).filterMap (fun i => lw_tbl[i]?) := by decide +kernel
set_option maxRecDepth 20000 in
theorem kW_6_good : kW_6.all goodWord = true := by decide +kernel
set_option maxRecDepth 20000 in
theorem kW_6_tbl : kW_6 = ([285, 286, 287, 288, 289, 290, 291, 292, 293, 294, 295, 296, 298, 299, 300, 301, 302, 303, 304, 306, 307, 308, 309, 310, 311, 312, 313, 315, 316, 317, 318, 319, 320, 321, 323, 324, 325, 326, 327, 328] : List Nat).filterMap (fun i => lw_tbl[i]?) := by decide +kernel
set_option maxRecDepth 20000 in
theorem kW_7_good : kW_7.all goodWord = true := by decide +kernel
set_option maxRecDepth 20000 in
theorem kW_7_tbl : kW_7 = ([329, 330, 332, 333, 334, 335, 336, 337, 338, 340, 341, 342, 343, 344, 345, 346, 347, 348, 349, 350, 351, 353, 354, 355, 357, 358, 359, 361, 362, 363, 364, 365, 366, 367, 368, 369, 370, 371, 373, 374] : List Nat).filterMap (fun i => lw_tbl[i]?) := by decide +kernel
set_option maxRecDepth 20000 in
theorem kW_8_good : kW_8.all goodWord = true := by decide +kernel
set_option maxRecDepth 20000 in
theorem kW_8_tbl : kW_8 = ([375, 377, 378, 379, 381, 382, 383, 384, 385, 386, 388, 389, 390, 391, 392, 393, 394, 395, 396, 398, 399, 400, 401, 402, 403, 404, 405, 406, 407, 408, 410, 411, 412, 413, 414, 415, 416, 417, 418, 419] : List Nat).filterMap (fun i => lw_tbl[i]?) := by decide +kernel
set_option maxRecDepth 20000 in
theorem kW_9_good : kW_9.all goodWord = true := by decide +kernel
set_option maxRecDepth 20000 in
theorem kW_9_tbl : kW_9 = ([420, 421, 423, 424, 425, 426, 427, 428, 429, 431, 432, 433, 434, 435, 436, 437, 438, 439, 440, 441, 443, 445, 446, 447, 448, 449, 450, 451, 452, 453, 454, 455, 456, 457, 458, 459, 460, 461, 462, 463] : List Nat).filterMap (fun i => lw_tbl[i]?) := by decide +kernel
set_option maxRecDepth 20000 in
theorem kW_10_good : kW_10.all goodWord = true := by decide +kernel
set_option maxRecDepth 20000 in
theorem kW_10_tbl : kW_10 = ([464, 465, 466, 467, 469, 471, 473, 475, 477, 479, 481, 483, 485, 487, 489, 491, 493, 495, 497, 499, 501, 503, 507, 508, 509, 510, 511, 512, 513, 514, 515, 517, 518, 519, 521, 522, 523, 524, 526, 527] : List Nat).filterMap (fun i => lw_tbl[i]?) := by decide +kernel
set_option maxRecDepth 20000 in
theorem kW_11_good : kW_11.all goodWord = true := by decide +kernel
set_option maxRecDepth 20000 in
theorem kW_11_tbl : kW_11 = ([529, 530, 531, 533, 534, 535, 536, 538, 539, 540, 542, 543, 544, 546, 547, 548, 550, 551, 552, 553, 554, 555, 557, 558, 559, 561, 562, 564, 565, 566, 567, 569, 570, 572, 573, 574, 576, 577, 578, 580] : List Nat).filterMap (fun i => lw_tbl[i]?) := by decide +kernel
set_option maxRecDepth 20000 in
theorem kW_12_good : kW_12.all goodWord = true := by decide +kernel
set_option maxRecDepth 20000 in
theorem kW_12_tbl : kW_12 = ([581, 582, 584, 585, 586, 588, 589, 590, 591, 593, 594, 595, 597, 598, 599, 601, 602, 603, 605, 606, 607, 609, 610, 611, 612, 614, 615, 616, 618, 619, 620, 622, 623, 624, 626, 627, 628] : List Nat).filterMap (fun i => lw_tbl[i]?) := by decide +kernel
theorem kW_word {w : Cond} (h : w ∈ kW) : goodWord w = true := by
  unfold kW at h
  simp only [List.mem_append] at h
  rcases h with h | h | h | h | h | h | h | h | h | h | h | h | h
  · exact List.all_eq_true.mp kW_0_good w h
  · exact List.all_eq_true.mp kW_1_good w h
  · exact List.all_eq_true.mp kW_2_good w h
  · exact List.all_eq_true.mp kW_3_good w h
  · exact List.all_eq_true.mp kW_4_good w h
  · exact List.all_eq_true.mp kW_5_good w h
  · exact List.all_eq_true.mp kW_6_good w h
  · exact List.all_eq_true.mp kW_7_good w h
  · exact List.all_eq_true.mp kW_8_good w h
  · exact List.all_eq_true.mp kW_9_good w h
  · exact List.all_eq_true.mp kW_10_good w h
  · exact List.all_eq_true.mp kW_11_good w h
  · exact List.all_eq_true.mp kW_12_good w h
theorem kW_tbl {w : Cond} (h : w ∈ kW) : w ∈ lw_tbl := by
  unfold kW at h
  simp only [List.mem_append] at h
  rcases h with h | h | h | h | h | h | h | h | h | h | h | h | h
  · rw [kW_0_tbl] at h; obtain ⟨j, -, hj⟩ := List.mem_filterMap.mp h; exact List.mem_of_getElem? hj
  · rw [kW_1_tbl] at h; obtain ⟨j, -, hj⟩ := List.mem_filterMap.mp h; exact List.mem_of_getElem? hj
  · rw [kW_2_tbl] at h; obtain ⟨j, -, hj⟩ := List.mem_filterMap.mp h; exact List.mem_of_getElem? hj
  · rw [kW_3_tbl] at h; obtain ⟨j, -, hj⟩ := List.mem_filterMap.mp h; exact List.mem_of_getElem? hj
  · rw [kW_4_tbl] at h; obtain ⟨j, -, hj⟩ := List.mem_filterMap.mp h; exact List.mem_of_getElem? hj
  · rw [kW_5_tbl] at h; obtain ⟨j, -, hj⟩ := List.mem_filterMap.mp h; exact List.mem_of_getElem? hj
  · rw [kW_6_tbl] at h; obtain ⟨j, -, hj⟩ := List.mem_filterMap.mp h; exact List.mem_of_getElem? hj
  · rw [kW_7_tbl] at h; obtain ⟨j, -, hj⟩ := List.mem_filterMap.mp h; exact List.mem_of_getElem? hj
  · rw [kW_8_tbl] at h; obtain ⟨j, -, hj⟩ := List.mem_filterMap.mp h; exact List.mem_of_getElem? hj
  · rw [kW_9_tbl] at h; obtain ⟨j, -, hj⟩ := List.mem_filterMap.mp h; exact List.mem_of_getElem? hj
  · rw [kW_10_tbl] at h; obtain ⟨j, -, hj⟩ := List.mem_filterMap.mp h; exact List.mem_of_getElem? hj
  · rw [kW_11_tbl] at h; obtain ⟨j, -, hj⟩ := List.mem_filterMap.mp h; exact List.mem_of_getElem? hj
  · rw [kW_12_tbl] at h; obtain ⟨j, -, hj⟩ := List.mem_filterMap.mp h; exact List.mem_of_getElem? hj
