def RX0 : String := "TermKeeper$Definitions"
def TX0 : u_T := fun k => match k with
  | 0 => ("TermKeeper$Definitions", "bits", "[J", true)
  | 1 => ("TermKeeper$Definitions", "known", "J", false)
  | 2 => ("TermKeeper$Definitions", "steps", "[I", true)
  | 3 => ("TermKeeper$Definitions", "ringRow", "[I", true)
  | 4 => ("TermKeeper$Definitions", "ringLength", "I", false)
  | 5 => ("TermKeeper$Definitions", "members", "[I", true)
  | 6 => ("TermKeeper$Definitions", "needs", "[I", true)
  | _ => ("TermKeeper$Definitions", "memberCount", "I", false)
def tyX0 : Nat → FieldType := fun k => match k with
  | 0 => .array .long
  | 1 => .long
  | 2 => .array .int
  | 3 => .array .int
  | 4 => .int
  | 5 => .array .int
  | 6 => .array .int
  | _ => .int
abbrev wsX00 : List Cond := u_ws RX0 TX0 8
theorem nmX0 : ∀ a, a < 8 → ∀ b, b < 8 → a ≠ b → (TX0 a).2.1 ≠ (TX0 b).2.1 := by decide +kernel
theorem tyX0_ok : ∀ k, k < 8 → parseFieldDescriptor (TX0 k).2.2.1 = some (tyX0 k) := by decide +kernel
abbrev cX0_init : ByteArray := prog_2_method_1_code
def yX0_init : MethodName := ⟨RX0, "<init>", "()V"⟩
abbrev cX0_replaced : ByteArray := prog_2_method_2_code
def yX0_replaced : MethodName := ⟨RX0, "replaced", "(IJ)J"⟩
abbrev cX0_madeKnown : ByteArray := prog_2_method_3_code
def yX0_madeKnown : MethodName := ⟨RX0, "madeKnown", "(IZ)Z"⟩
abbrev cX0_explainedBy : ByteArray := prog_2_method_4_code
def yX0_explainedBy : MethodName := ⟨RX0, "explainedBy", "(IJ)Z"⟩
abbrev cX0_ringSize : ByteArray := prog_2_method_5_code
def yX0_ringSize : MethodName := ⟨RX0, "ringSize", "()I"⟩
abbrev cX0_ringAt : ByteArray := prog_2_method_6_code
def yX0_ringAt : MethodName := ⟨RX0, "ringAt", "(I)I"⟩
abbrev cX0_findRing : ByteArray := prog_2_method_7_code
def yX0_findRing : MethodName := ⟨RX0, "findRing", "()V"⟩
abbrev cX0_stepsBackTo : ByteArray := prog_2_method_8_code
def yX0_stepsBackTo : MethodName := ⟨RX0, "stepsBackTo", "(I)I"⟩
abbrev cX0_walkRing : ByteArray := prog_2_method_9_code
def yX0_walkRing : MethodName := ⟨RX0, "walkRing", "(I)V"⟩
abbrev cX0_leastNext : ByteArray := prog_2_method_10_code
def yX0_leastNext : MethodName := ⟨RX0, "leastNext", "(II)I"⟩
abbrev cX0_findFewest : ByteArray := prog_2_method_11_code
def yX0_findFewest : MethodName := ⟨RX0, "findFewest", "()J"⟩
abbrev cX0_gatherMembers : ByteArray := prog_2_method_12_code
def yX0_gatherMembers : MethodName := ⟨RX0, "gatherMembers", "()Z"⟩
abbrev cX0_membersAmong : ByteArray := prog_2_method_13_code
def yX0_membersAmong : MethodName := ⟨RX0, "membersAmong", "(J)I"⟩
abbrev cX0_explainsAll : ByteArray := prog_2_method_14_code
def yX0_explainsAll : MethodName := ⟨RX0, "explainsAll", "(I)Z"⟩
def RX1 : String := "TermKeeper$Glossary"
def TX1 : u_T := fun k => match k with
  | 0 => ("TermKeeper$Glossary", "endings", "Ljava/util/ArrayList;", true)
  | 1 => ("TermKeeper$Glossary", "terms", "Ljava/util/ArrayList;", true)
  | _ => ("TermKeeper$Glossary", "neighbours", "Ljava/util/ArrayList;", true)
def tyX1 : Nat → FieldType := fun k => match k with
  | 0 => .object "java/util/ArrayList"
  | 1 => .object "java/util/ArrayList"
  | _ => .object "java/util/ArrayList"
abbrev wsX10 : List Cond := u_ws RX1 TX1 3
theorem nmX1 : ∀ a, a < 3 → ∀ b, b < 3 → a ≠ b → (TX1 a).2.1 ≠ (TX1 b).2.1 := by decide +kernel
theorem tyX1_ok : ∀ k, k < 3 → parseFieldDescriptor (TX1 k).2.2.1 = some (tyX1 k) := by decide +kernel
abbrev cX1_init : ByteArray := prog_3_method_1_code
def yX1_init : MethodName := ⟨RX1, "<init>", "()V"⟩
abbrev cX1_endingsHeld : ByteArray := prog_3_method_2_code
def yX1_endingsHeld : MethodName := ⟨RX1, "endingsHeld", "()I"⟩
abbrev cX1_termsHeld : ByteArray := prog_3_method_3_code
def yX1_termsHeld : MethodName := ⟨RX1, "termsHeld", "()I"⟩
abbrev cX1_holdsTerm : ByteArray := prog_3_method_4_code
def yX1_holdsTerm : MethodName := ⟨RX1, "holdsTerm", "(I)Z"⟩
abbrev cX1_termAt : ByteArray := prog_3_method_5_code
def yX1_termAt : MethodName := ⟨RX1, "termAt", "(I)LTermKeeper$Term;"⟩
abbrev cX1_addEnding : ByteArray := prog_3_method_6_code
def yX1_addEnding : MethodName := ⟨RX1, "addEnding", "(LTermKeeper$Row;)I"⟩
abbrev cX1_addTerm : ByteArray := prog_3_method_7_code
def yX1_addTerm : MethodName := ⟨RX1, "addTerm", "(LTermKeeper$Row;III)I"⟩
abbrev cX1_addNeighbour : ByteArray := prog_3_method_8_code
def yX1_addNeighbour : MethodName := ⟨RX1, "addNeighbour", "(LTermKeeper$Row;I)I"⟩
abbrev cX1_thingsNear : ByteArray := prog_3_method_9_code
def yX1_thingsNear : MethodName := ⟨RX1, "thingsNear", "(LTermKeeper$Row;II)J"⟩
abbrev cX1_thingsOf : ByteArray := prog_3_method_10_code
def yX1_thingsOf : MethodName := ⟨RX1, "thingsOf", "(J)J"⟩
abbrev cX1_goodTermOf : ByteArray := prog_3_method_11_code
def yX1_goodTermOf : MethodName := ⟨RX1, "goodTermOf", "(I)I"⟩
abbrev cX1_wayAt : ByteArray := prog_3_method_12_code
def yX1_wayAt : MethodName := ⟨RX1, "wayAt", "(LTermKeeper$Row;ILTermKeeper$Term;)I"⟩
abbrev cX1_pushForm : ByteArray := prog_3_method_13_code
def yX1_pushForm : MethodName := ⟨RX1, "pushForm", "(LTermKeeper$Row;LTermKeeper$Term;I)V"⟩
def RX2 : String := "TermKeeper$Mender"
def TX2 : u_T := fun k => match k with
  | 0 => ("TermKeeper$Mender", "glossary", "LTermKeeper$Glossary;", true)
  | 1 => ("TermKeeper$Mender", "instead", "LTermKeeper$Row;", true)
  | _ => ("TermKeeper$Mender", "mends", "I", false)
def tyX2 : Nat → FieldType := fun k => match k with
  | 0 => .object "TermKeeper$Glossary"
  | 1 => .object "TermKeeper$Row"
  | _ => .int
abbrev wsX20 : List Cond := u_ws RX2 TX2 3
theorem nmX2 : ∀ a, a < 3 → ∀ b, b < 3 → a ≠ b → (TX2 a).2.1 ≠ (TX2 b).2.1 := by decide +kernel
theorem tyX2_ok : ∀ k, k < 3 → parseFieldDescriptor (TX2 k).2.2.1 = some (tyX2 k) := by decide +kernel
abbrev cX2_init : ByteArray := prog_4_method_1_code
def yX2_init : MethodName := ⟨RX2, "<init>", "(LTermKeeper$Glossary;)V"⟩
abbrev cX2_mendsEver : ByteArray := prog_4_method_2_code
def yX2_mendsEver : MethodName := ⟨RX2, "mendsEver", "()I"⟩
abbrev cX2_mendsFirst : ByteArray := prog_4_method_3_code
def yX2_mendsFirst : MethodName := ⟨RX2, "mendsFirst", "(LTermKeeper$Row;LTermKeeper$Uses;)Z"⟩
abbrev cX2_mendsUse : ByteArray := prog_4_method_4_code
def yX2_mendsUse : MethodName := ⟨RX2, "mendsUse", "(LTermKeeper$Row;LTermKeeper$Uses;I)Z"⟩
abbrev cX2_greatBytes : ByteArray := prog_4_method_5_code
def yX2_greatBytes : MethodName := ⟨RX2, "greatBytes", "(LTermKeeper$Row;II)I"⟩
def RX3 : String := "TermKeeper$Neighbour"
def TX3 : u_T := fun k => match k with
  | 0 => ("TermKeeper$Neighbour", "word", "LTermKeeper$Row;", true)
  | _ => ("TermKeeper$Neighbour", "thing", "I", true)
def tyX3 : Nat → FieldType := fun k => match k with
  | 0 => .object "TermKeeper$Row"
  | _ => .int
abbrev wsX30 : List Cond := u_ws RX3 TX3 2
theorem nmX3 : ∀ a, a < 2 → ∀ b, b < 2 → a ≠ b → (TX3 a).2.1 ≠ (TX3 b).2.1 := by decide +kernel
theorem tyX3_ok : ∀ k, k < 2 → parseFieldDescriptor (TX3 k).2.2.1 = some (tyX3 k) := by decide +kernel
abbrev cX3_init : ByteArray := prog_5_method_1_code
def yX3_init : MethodName := ⟨RX3, "<init>", "(LTermKeeper$Row;I)V"⟩
def RX4 : String := "TermKeeper$Row"
def TX4 : u_T := fun k => match k with
  | 0 => ("TermKeeper$Row", "bytes", "[B", true)
  | _ => ("TermKeeper$Row", "size", "I", false)
def tyX4 : Nat → FieldType := fun k => match k with
  | 0 => .array .byte
  | _ => .int
abbrev wsX40 : List Cond := u_ws RX4 TX4 2
theorem nmX4 : ∀ a, a < 2 → ∀ b, b < 2 → a ≠ b → (TX4 a).2.1 ≠ (TX4 b).2.1 := by decide +kernel
theorem tyX4_ok : ∀ k, k < 2 → parseFieldDescriptor (TX4 k).2.2.1 = some (tyX4 k) := by decide +kernel
abbrev cX4_init : ByteArray := prog_6_method_1_code
def yX4_init : MethodName := ⟨RX4, "<init>", "(I)V"⟩
abbrev cX4_size : ByteArray := prog_6_method_2_code
def yX4_size : MethodName := ⟨RX4, "size", "()I"⟩
abbrev cX4_at : ByteArray := prog_6_method_3_code
def yX4_at : MethodName := ⟨RX4, "at", "(I)I"⟩
abbrev cX4_smallAt : ByteArray := prog_6_method_4_code
def yX4_smallAt : MethodName := ⟨RX4, "smallAt", "(I)I"⟩
abbrev cX4_letterAt : ByteArray := prog_6_method_5_code
def yX4_letterAt : MethodName := ⟨RX4, "letterAt", "(I)Z"⟩
abbrev cX4_push : ByteArray := prog_6_method_6_code
def yX4_push : MethodName := ⟨RX4, "push", "(I)Z"⟩
abbrev cX4_shorten : ByteArray := prog_6_method_7_code
def yX4_shorten : MethodName := ⟨RX4, "shorten", "(I)V"⟩
abbrev cX4_greaten : ByteArray := prog_6_method_8_code
def yX4_greaten : MethodName := ⟨RX4, "greaten", "(I)V"⟩
abbrev cX4_copied : ByteArray := prog_6_method_9_code
def yX4_copied : MethodName := ⟨RX4, "copied", "()LTermKeeper$Row;"⟩
abbrev cX4_sameAs : ByteArray := prog_6_method_10_code
def yX4_sameAs : MethodName := ⟨RX4, "sameAs", "(LTermKeeper$Row;)Z"⟩
abbrev cX4_wordsOfTerm : ByteArray := prog_6_method_11_code
def yX4_wordsOfTerm : MethodName := ⟨RX4, "wordsOfTerm", "()I"⟩
abbrev cX4_endOfForm : ByteArray := prog_6_method_12_code
def yX4_endOfForm : MethodName := ⟨RX4, "endOfForm", "(ILTermKeeper$Row;)I"⟩
abbrev cX4_takesInstead : ByteArray := prog_6_method_13_code
def yX4_takesInstead : MethodName := ⟨RX4, "takesInstead", "(IILTermKeeper$Row;)Z"⟩
def RX5 : String := "TermKeeper$Term"
def TX5 : u_T := fun k => match k with
  | 0 => ("TermKeeper$Term", "row", "LTermKeeper$Row;", true)
  | 1 => ("TermKeeper$Term", "words", "I", true)
  | 2 => ("TermKeeper$Term", "thing", "I", true)
  | 3 => ("TermKeeper$Term", "classes", "I", true)
  | _ => ("TermKeeper$Term", "kind", "I", false)
def tyX5 : Nat → FieldType := fun k => match k with
  | 0 => .object "TermKeeper$Row"
  | 1 => .int
  | 2 => .int
  | 3 => .int
  | _ => .int
abbrev wsX50 : List Cond := u_ws RX5 TX5 5
theorem nmX5 : ∀ a, a < 5 → ∀ b, b < 5 → a ≠ b → (TX5 a).2.1 ≠ (TX5 b).2.1 := by decide +kernel
theorem tyX5_ok : ∀ k, k < 5 → parseFieldDescriptor (TX5 k).2.2.1 = some (tyX5 k) := by decide +kernel
abbrev cX5_init : ByteArray := prog_7_method_1_code
def yX5_init : MethodName := ⟨RX5, "<init>", "(LTermKeeper$Row;IIII)V"⟩
abbrev cX5_letters : ByteArray := prog_7_method_2_code
def yX5_letters : MethodName := ⟨RX5, "letters", "()I"⟩
abbrev cX5_takesEnding : ByteArray := prog_7_method_3_code
def yX5_takesEnding : MethodName := ⟨RX5, "takesEnding", "(I)Z"⟩
def RX6 : String := "TermKeeper$Uses"
def TX6 : u_T := fun k => match k with
  | 0 => ("TermKeeper$Uses", "glossary", "LTermKeeper$Glossary;", true)
  | 1 => ("TermKeeper$Uses", "definitions", "LTermKeeper$Definitions;", true)
  | 2 => ("TermKeeper$Uses", "words", "LTermKeeper$Words;", true)
  | 3 => ("TermKeeper$Uses", "ways", "[I", true)
  | 4 => ("TermKeeper$Uses", "begins", "[I", true)
  | 5 => ("TermKeeper$Uses", "ends", "[I", true)
  | 6 => ("TermKeeper$Uses", "terms", "[I", true)
  | 7 => ("TermKeeper$Uses", "endings", "[I", true)
  | 8 => ("TermKeeper$Uses", "findings", "[I", true)
  | 9 => ("TermKeeper$Uses", "size", "I", false)
  | 10 => ("TermKeeper$Uses", "termsSeen", "J", false)
  | 11 => ("TermKeeper$Uses", "thingsSeen", "J", false)
  | _ => ("TermKeeper$Uses", "thingsSpelled", "J", false)
def tyX6 : Nat → FieldType := fun k => match k with
  | 0 => .object "TermKeeper$Glossary"
  | 1 => .object "TermKeeper$Definitions"
  | 2 => .object "TermKeeper$Words"
  | 3 => .array .int
  | 4 => .array .int
  | 5 => .array .int
  | 6 => .array .int
  | 7 => .array .int
  | 8 => .array .int
  | 9 => .int
  | 10 => .long
  | 11 => .long
  | _ => .long
abbrev wsX60 : List Cond := u_ws RX6 TX6 13
theorem nmX6 : ∀ a, a < 13 → ∀ b, b < 13 → a ≠ b → (TX6 a).2.1 ≠ (TX6 b).2.1 := by decide +kernel
theorem tyX6_ok : ∀ k, k < 13 → parseFieldDescriptor (TX6 k).2.2.1 = some (tyX6 k) := by decide +kernel
abbrev cX6_init : ByteArray := prog_8_method_1_code
def yX6_init : MethodName := ⟨RX6, "<init>", "(LTermKeeper$Glossary;LTermKeeper$Definitions;)V"⟩
abbrev cX6_size : ByteArray := prog_8_method_2_code
def yX6_size : MethodName := ⟨RX6, "size", "()I"⟩
abbrev cX6_beginOf : ByteArray := prog_8_method_3_code
def yX6_beginOf : MethodName := ⟨RX6, "beginOf", "(I)I"⟩
abbrev cX6_endOf : ByteArray := prog_8_method_4_code
def yX6_endOf : MethodName := ⟨RX6, "endOf", "(I)I"⟩
abbrev cX6_termOf : ByteArray := prog_8_method_5_code
def yX6_termOf : MethodName := ⟨RX6, "termOf", "(I)I"⟩
abbrev cX6_endingOf : ByteArray := prog_8_method_6_code
def yX6_endingOf : MethodName := ⟨RX6, "endingOf", "(I)I"⟩
abbrev cX6_findingOf : ByteArray := prog_8_method_7_code
def yX6_findingOf : MethodName := ⟨RX6, "findingOf", "(I)I"⟩
abbrev cX6_terms : ByteArray := prog_8_method_8_code
def yX6_terms : MethodName := ⟨RX6, "terms", "()J"⟩
abbrev cX6_things : ByteArray := prog_8_method_9_code
def yX6_things : MethodName := ⟨RX6, "things", "()J"⟩
abbrev cX6_usesOf : ByteArray := prog_8_method_10_code
def yX6_usesOf : MethodName := ⟨RX6, "usesOf", "(I)I"⟩
abbrev cX6_holds : ByteArray := prog_8_method_11_code
def yX6_holds : MethodName := ⟨RX6, "holds", "(I)Z"⟩
abbrev cX6_read : ByteArray := prog_8_method_12_code
def yX6_read : MethodName := ⟨RX6, "read", "(LTermKeeper$Row;)V"⟩
abbrev cX6_mostWordsAt : ByteArray := prog_8_method_13_code
def yX6_mostWordsAt : MethodName := ⟨RX6, "mostWordsAt", "(LTermKeeper$Row;I)I"⟩
abbrev cX6_keepUse : ByteArray := prog_8_method_14_code
def yX6_keepUse : MethodName := ⟨RX6, "keepUse", "(II)V"⟩
abbrev cX6_thingMeant : ByteArray := prog_8_method_15_code
def yX6_thingMeant : MethodName := ⟨RX6, "thingMeant", "(II)I"⟩
abbrev cX6_thingsPossible : ByteArray := prog_8_method_16_code
def yX6_thingsPossible : MethodName := ⟨RX6, "thingsPossible", "()J"⟩
abbrev cX6_leastTermOf : ByteArray := prog_8_method_17_code
def yX6_leastTermOf : MethodName := ⟨RX6, "leastTermOf", "(I)I"⟩
abbrev cX6_findingNow : ByteArray := prog_8_method_18_code
def yX6_findingNow : MethodName := ⟨RX6, "findingNow", "(I)I"⟩
abbrev cX6_see : ByteArray := prog_8_method_19_code
def yX6_see : MethodName := ⟨RX6, "see", "(I)V"⟩
def RX7 : String := "TermKeeper$Words"
def TX7 : u_T := fun k => match k with
  | 0 => ("TermKeeper$Words", "glossary", "LTermKeeper$Glossary;", true)
  | 1 => ("TermKeeper$Words", "begins", "[I", true)
  | 2 => ("TermKeeper$Words", "ends", "[I", true)
  | 3 => ("TermKeeper$Words", "sentences", "[I", true)
  | 4 => ("TermKeeper$Words", "near", "[J", true)
  | 5 => ("TermKeeper$Words", "tally", "[I", true)
  | 6 => ("TermKeeper$Words", "size", "I", false)
  | _ => ("TermKeeper$Words", "talliedSentence", "I", false)
def tyX7 : Nat → FieldType := fun k => match k with
  | 0 => .object "TermKeeper$Glossary"
  | 1 => .array .int
  | 2 => .array .int
  | 3 => .array .int
  | 4 => .array .long
  | 5 => .array .int
  | 6 => .int
  | _ => .int
abbrev wsX70 : List Cond := u_ws RX7 TX7 8
theorem nmX7 : ∀ a, a < 8 → ∀ b, b < 8 → a ≠ b → (TX7 a).2.1 ≠ (TX7 b).2.1 := by decide +kernel
theorem tyX7_ok : ∀ k, k < 8 → parseFieldDescriptor (TX7 k).2.2.1 = some (tyX7 k) := by decide +kernel
abbrev cX7_init : ByteArray := prog_9_method_1_code
def yX7_init : MethodName := ⟨RX7, "<init>", "(LTermKeeper$Glossary;)V"⟩
abbrev cX7_size : ByteArray := prog_9_method_2_code
def yX7_size : MethodName := ⟨RX7, "size", "()I"⟩
abbrev cX7_beginOf : ByteArray := prog_9_method_3_code
def yX7_beginOf : MethodName := ⟨RX7, "beginOf", "(I)I"⟩
abbrev cX7_endOf : ByteArray := prog_9_method_4_code
def yX7_endOf : MethodName := ⟨RX7, "endOf", "(I)I"⟩
abbrev cX7_read : ByteArray := prog_9_method_5_code
def yX7_read : MethodName := ⟨RX7, "read", "(LTermKeeper$Row;)V"⟩
abbrev cX7_keepWord : ByteArray := prog_9_method_6_code
def yX7_keepWord : MethodName := ⟨RX7, "keepWord", "(III)V"⟩
abbrev cX7_scoreOf : ByteArray := prog_9_method_7_code
def yX7_scoreOf : MethodName := ⟨RX7, "scoreOf", "(III)I"⟩
abbrev cX7_tallySentenceOf : ByteArray := prog_9_method_8_code
def yX7_tallySentenceOf : MethodName := ⟨RX7, "tallySentenceOf", "(I)V"⟩
def RX8 : String := "TermKeeper"
def TX8 : u_T := fun k => match k with
  | 0 => ("TermKeeper", "waiting", "LTermKeeper$Row;", true)
  | 1 => ("TermKeeper", "texts", "[LTermKeeper$Row;", true)
  | 2 => ("TermKeeper", "glossary", "LTermKeeper$Glossary;", true)
  | 3 => ("TermKeeper", "definitions", "LTermKeeper$Definitions;", true)
  | 4 => ("TermKeeper", "found", "LTermKeeper$Uses;", true)
  | _ => ("TermKeeper", "mender", "LTermKeeper$Mender;", true)
def tyX8 : Nat → FieldType := fun k => match k with
  | 0 => .object "TermKeeper$Row"
  | 1 => .array (.object "TermKeeper$Row")
  | 2 => .object "TermKeeper$Glossary"
  | 3 => .object "TermKeeper$Definitions"
  | 4 => .object "TermKeeper$Uses"
  | _ => .object "TermKeeper$Mender"
abbrev wsX80 : List Cond := u_ws RX8 TX8 6
theorem nmX8 : ∀ a, a < 6 → ∀ b, b < 6 → a ≠ b → (TX8 a).2.1 ≠ (TX8 b).2.1 := by decide +kernel
theorem tyX8_ok : ∀ k, k < 6 → parseFieldDescriptor (TX8 k).2.2.1 = some (tyX8 k) := by decide +kernel
abbrev cX8_init : ByteArray := prog_1_method_1_code
def yX8_init : MethodName := ⟨RX8, "<init>", "()V"⟩
abbrev cX8_letter : ByteArray := prog_1_method_2_code
def yX8_letter : MethodName := ⟨RX8, "letter", "(I)I"⟩
abbrev cX8_ending : ByteArray := prog_1_method_3_code
def yX8_ending : MethodName := ⟨RX8, "ending", "()I"⟩
abbrev cX8_term : ByteArray := prog_1_method_4_code
def yX8_term : MethodName := ⟨RX8, "term", "(III)I"⟩
abbrev cX8_neighbour : ByteArray := prog_1_method_5_code
def yX8_neighbour : MethodName := ⟨RX8, "neighbour", "(I)I"⟩
abbrev cX8_define : ByteArray := prog_1_method_6_code
def yX8_define : MethodName := ⟨RX8, "define", "(IJ)J"⟩
abbrev cX8_know : ByteArray := prog_1_method_7_code
def yX8_know : MethodName := ⟨RX8, "know", "(IZ)Z"⟩
abbrev cX8_kind : ByteArray := prog_1_method_8_code
def yX8_kind : MethodName := ⟨RX8, "kind", "(II)I"⟩
abbrev cX8_about : ByteArray := prog_1_method_9_code
def yX8_about : MethodName := ⟨RX8, "about", "(II)I"⟩
abbrev cX8_write : ByteArray := prog_1_method_10_code
def yX8_write : MethodName := ⟨RX8, "write", "(IIIIII)I"⟩
abbrev cX8_cut : ByteArray := prog_1_method_11_code
def yX8_cut : MethodName := ⟨RX8, "cut", "(II)I"⟩
abbrev cX8_byteAt : ByteArray := prog_1_method_12_code
def yX8_byteAt : MethodName := ⟨RX8, "byteAt", "(II)I"⟩
abbrev cX8_uses : ByteArray := prog_1_method_13_code
def yX8_uses : MethodName := ⟨RX8, "uses", "(I)I"⟩
abbrev cX8_use : ByteArray := prog_1_method_14_code
def yX8_use : MethodName := ⟨RX8, "use", "(III)I"⟩
abbrev cX8_mend : ByteArray := prog_1_method_15_code
def yX8_mend : MethodName := ⟨RX8, "mend", "(II)Z"⟩
abbrev cX8_mendAll : ByteArray := prog_1_method_16_code
def yX8_mendAll : MethodName := ⟨RX8, "mendAll", "(I)I"⟩
abbrev cX8_count : ByteArray := prog_1_method_17_code
def yX8_count : MethodName := ⟨RX8, "count", "(I)I"⟩
abbrev cX8_ring : ByteArray := prog_1_method_18_code
def yX8_ring : MethodName := ⟨RX8, "ring", "(I)I"⟩
abbrev cX8_fewest : ByteArray := prog_1_method_19_code
def yX8_fewest : MethodName := ⟨RX8, "fewest", "()J"⟩
abbrev cX8_crossing : ByteArray := prog_1_method_20_code
def yX8_crossing : MethodName := ⟨RX8, "crossing", "(II)J"⟩
abbrev cX8_total : ByteArray := prog_1_method_21_code
def yX8_total : MethodName := ⟨RX8, "total", "(I)I"⟩
abbrev cX8_needThing : ByteArray := prog_1_method_22_code
def yX8_needThing : MethodName := ⟨RX8, "needThing", "(I)V"⟩
abbrev cX8_needKind : ByteArray := prog_1_method_23_code
def yX8_needKind : MethodName := ⟨RX8, "needKind", "(I)V"⟩
abbrev cX8_needTerm : ByteArray := prog_1_method_24_code
def yX8_needTerm : MethodName := ⟨RX8, "needTerm", "(I)LTermKeeper$Term;"⟩
abbrev cX8_needText : ByteArray := prog_1_method_25_code
def yX8_needText : MethodName := ⟨RX8, "needText", "(I)LTermKeeper$Row;"⟩
abbrev cX8_pushNumber : ByteArray := prog_1_method_26_code
def yX8_pushNumber : MethodName := ⟨RX8, "pushNumber", "(LTermKeeper$Row;I)V"⟩
abbrev cX8_isLetter : ByteArray := prog_1_method_27_code
def yX8_isLetter : MethodName := ⟨RX8, "isLetter", "(I)Z"⟩
abbrev cX8_isGreat : ByteArray := prog_1_method_28_code
def yX8_isGreat : MethodName := ⟨RX8, "isGreat", "(I)Z"⟩
abbrev cX8_endsSentence : ByteArray := prog_1_method_29_code
def yX8_endsSentence : MethodName := ⟨RX8, "endsSentence", "(I)Z"⟩
def RX9 : String := "TermKeeperModel"
def TX9 : u_T := fun k => match k with
  | 0 => ("TermKeeperModel", "thrown", "I", false)
  | 1 => ("TermKeeperModel", "waiting", "I", false)
  | 2 => ("TermKeeperModel", "wait", "[I", true)
  | 3 => ("TermKeeperModel", "endings", "I", false)
  | 4 => ("TermKeeperModel", "terms", "I", false)
  | 5 => ("TermKeeperModel", "mends", "I", false)
  | 6 => ("TermKeeperModel", "ending", "[I", true)
  | 7 => ("TermKeeperModel", "endingSize", "[I", true)
  | 8 => ("TermKeeperModel", "letters", "[I", true)
  | 9 => ("TermKeeperModel", "sizes", "[I", true)
  | 10 => ("TermKeeperModel", "words", "[I", true)
  | 11 => ("TermKeeperModel", "thingOf", "[I", true)
  | 12 => ("TermKeeperModel", "kindOf", "[I", true)
  | 13 => ("TermKeeperModel", "classesOf", "[I", true)
  | 14 => ("TermKeeperModel", "neighbour", "[I", true)
  | 15 => ("TermKeeperModel", "neighbourSize", "[I", true)
  | 16 => ("TermKeeperModel", "neighbours", "[I", true)
  | 17 => ("TermKeeperModel", "definitions", "[J", true)
  | 18 => ("TermKeeperModel", "isKnown", "[Z", true)
  | 19 => ("TermKeeperModel", "text", "[I", true)
  | 20 => ("TermKeeperModel", "size", "[I", true)
  | 21 => ("TermKeeperModel", "found", "I", false)
  | 22 => ("TermKeeperModel", "begin", "[I", true)
  | 23 => ("TermKeeperModel", "end", "[I", true)
  | 24 => ("TermKeeperModel", "sentence", "[I", true)
  | 25 => ("TermKeeperModel", "uses", "I", false)
  | 26 => ("TermKeeperModel", "useFrom", "[I", true)
  | 27 => ("TermKeeperModel", "useTo", "[I", true)
  | 28 => ("TermKeeperModel", "useTerm", "[I", true)
  | 29 => ("TermKeeperModel", "useEnding", "[I", true)
  | 30 => ("TermKeeperModel", "useFinding", "[I", true)
  | 31 => ("TermKeeperModel", "laid", "[I", true)
  | 32 => ("TermKeeperModel", "tail", "[I", true)
  | 33 => ("TermKeeperModel", "back", "[J", true)
  | 34 => ("TermKeeperModel", "ringRow", "[I", true)
  | 35 => ("TermKeeperModel", "matter", "[I", true)
  | 36 => ("TermKeeperModel", "used", "[J", true)
  | _ => ("TermKeeperModel", "usedOther", "[J", true)
def tyX9 : Nat → FieldType := fun k => match k with
  | 0 => .int
  | 1 => .int
  | 2 => .array .int
  | 3 => .int
  | 4 => .int
  | 5 => .int
  | 6 => .array .int
  | 7 => .array .int
  | 8 => .array .int
  | 9 => .array .int
  | 10 => .array .int
  | 11 => .array .int
  | 12 => .array .int
  | 13 => .array .int
  | 14 => .array .int
  | 15 => .array .int
  | 16 => .array .int
  | 17 => .array .long
  | 18 => .array .boolean
  | 19 => .array .int
  | 20 => .array .int
  | 21 => .int
  | 22 => .array .int
  | 23 => .array .int
  | 24 => .array .int
  | 25 => .int
  | 26 => .array .int
  | 27 => .array .int
  | 28 => .array .int
  | 29 => .array .int
  | 30 => .array .int
  | 31 => .array .int
  | 32 => .array .int
  | 33 => .array .long
  | 34 => .array .int
  | 35 => .array .int
  | 36 => .array .long
  | _ => .array .long
abbrev wsX90 : List Cond := u_ws RX9 TX9 38
theorem nmX9 : ∀ a, a < 38 → ∀ b, b < 38 → a ≠ b → (TX9 a).2.1 ≠ (TX9 b).2.1 := by decide +kernel
theorem tyX9_ok : ∀ k, k < 38 → parseFieldDescriptor (TX9 k).2.2.1 = some (tyX9 k) := by decide +kernel
abbrev cX9_init : ByteArray := prog_11_method_1_code
def yX9_init : MethodName := ⟨RX9, "<init>", "()V"⟩
abbrev cX9_thrown : ByteArray := prog_11_method_2_code
def yX9_thrown : MethodName := ⟨RX9, "thrown", "()I"⟩
abbrev cX9_right : ByteArray := prog_11_method_3_code
def yX9_right : MethodName := ⟨RX9, "right", "(ZI)Z"⟩
abbrev cX9_letter : ByteArray := prog_11_method_4_code
def yX9_letter : MethodName := ⟨RX9, "letter", "(I)I"⟩
abbrev cX9_waitingWords : ByteArray := prog_11_method_5_code
def yX9_waitingWords : MethodName := ⟨RX9, "waitingWords", "(I)I"⟩
abbrev cX9_ending : ByteArray := prog_11_method_6_code
def yX9_ending : MethodName := ⟨RX9, "ending", "()I"⟩
abbrev cX9_isThing : ByteArray := prog_11_method_7_code
def yX9_isThing : MethodName := ⟨RX9, "isThing", "(I)Z"⟩
abbrev cX9_term : ByteArray := prog_11_method_8_code
def yX9_term : MethodName := ⟨RX9, "term", "(III)I"⟩
abbrev cX9_neighbour : ByteArray := prog_11_method_9_code
def yX9_neighbour : MethodName := ⟨RX9, "neighbour", "(I)I"⟩
abbrev cX9_define : ByteArray := prog_11_method_10_code
def yX9_define : MethodName := ⟨RX9, "define", "(IJ)J"⟩
abbrev cX9_know : ByteArray := prog_11_method_11_code
def yX9_know : MethodName := ⟨RX9, "know", "(IZ)Z"⟩
abbrev cX9_isTerm : ByteArray := prog_11_method_12_code
def yX9_isTerm : MethodName := ⟨RX9, "isTerm", "(I)Z"⟩
abbrev cX9_kind : ByteArray := prog_11_method_13_code
def yX9_kind : MethodName := ⟨RX9, "kind", "(II)I"⟩
abbrev cX9_about : ByteArray := prog_11_method_14_code
def yX9_about : MethodName := ⟨RX9, "about", "(II)I"⟩
abbrev cX9_isText : ByteArray := prog_11_method_15_code
def yX9_isText : MethodName := ⟨RX9, "isText", "(I)Z"⟩
abbrev cX9_write : ByteArray := prog_11_method_16_code
def yX9_write : MethodName := ⟨RX9, "write", "(IIIIII)I"⟩
abbrev cX9_lays : ByteArray := prog_11_method_17_code
def yX9_lays : MethodName := ⟨RX9, "lays", "(II)V"⟩
abbrev cX9_cut : ByteArray := prog_11_method_18_code
def yX9_cut : MethodName := ⟨RX9, "cut", "(II)I"⟩
abbrev cX9_byteAt : ByteArray := prog_11_method_19_code
def yX9_byteAt : MethodName := ⟨RX9, "byteAt", "(II)I"⟩
abbrev cX9_isGreat : ByteArray := prog_11_method_20_code
def yX9_isGreat : MethodName := ⟨RX9, "isGreat", "(I)Z"⟩
abbrev cX9_letterOf : ByteArray := prog_11_method_21_code
def yX9_letterOf : MethodName := ⟨RX9, "letterOf", "(I)I"⟩
abbrev cX9_at : ByteArray := prog_11_method_22_code
def yX9_at : MethodName := ⟨RX9, "at", "(II)I"⟩
abbrev cX9_finds : ByteArray := prog_11_method_23_code
def yX9_finds : MethodName := ⟨RX9, "finds", "(I)V"⟩
abbrev cX9_isTogether : ByteArray := prog_11_method_24_code
def yX9_isTogether : MethodName := ⟨RX9, "isTogether", "(II)Z"⟩
abbrev cX9_isForm : ByteArray := prog_11_method_25_code
def yX9_isForm : MethodName := ⟨RX9, "isForm", "(II)Z"⟩
abbrev cX9_stands : ByteArray := prog_11_method_26_code
def yX9_stands : MethodName := ⟨RX9, "stands", "(IIII)Z"⟩
abbrev cX9_way : ByteArray := prog_11_method_27_code
def yX9_way : MethodName := ⟨RX9, "way", "(III)I"⟩
abbrev cX9_score : ByteArray := prog_11_method_28_code
def yX9_score : MethodName := ⟨RX9, "score", "(IIII)I"⟩
abbrev cX9_reads : ByteArray := prog_11_method_29_code
def yX9_reads : MethodName := ⟨RX9, "reads", "(I)V"⟩
abbrev cX9_chosen : ByteArray := prog_11_method_30_code
def yX9_chosen : MethodName := ⟨RX9, "chosen", "(III)I"⟩
abbrev cX9_isAhead : ByteArray := prog_11_method_31_code
def yX9_isAhead : MethodName := ⟨RX9, "isAhead", "(IIZ)Z"⟩
abbrev cX9_finding : ByteArray := prog_11_method_32_code
def yX9_finding : MethodName := ⟨RX9, "finding", "(I)I"⟩
abbrev cX9_uses : ByteArray := prog_11_method_33_code
def yX9_uses : MethodName := ⟨RX9, "uses", "(I)I"⟩
abbrev cX9_use : ByteArray := prog_11_method_34_code
def yX9_use : MethodName := ⟨RX9, "use", "(III)I"⟩
abbrev cX9_goodFor : ByteArray := prog_11_method_35_code
def yX9_goodFor : MethodName := ⟨RX9, "goodFor", "(I)I"⟩
abbrev cX9_mends : ByteArray := prog_11_method_36_code
def yX9_mends : MethodName := ⟨RX9, "mends", "(II)Z"⟩
abbrev cX9_mend : ByteArray := prog_11_method_37_code
def yX9_mend : MethodName := ⟨RX9, "mend", "(II)Z"⟩
abbrev cX9_mendsOne : ByteArray := prog_11_method_38_code
def yX9_mendsOne : MethodName := ⟨RX9, "mendsOne", "(I)Z"⟩
abbrev cX9_mendAll : ByteArray := prog_11_method_39_code
def yX9_mendAll : MethodName := ⟨RX9, "mendAll", "(I)I"⟩
abbrev cX9_count : ByteArray := prog_11_method_40_code
def yX9_count : MethodName := ⟨RX9, "count", "(I)I"⟩
abbrev cX9_round : ByteArray := prog_11_method_41_code
def yX9_round : MethodName := ⟨RX9, "round", "(I)I"⟩
abbrev cX9_rings : ByteArray := prog_11_method_42_code
def yX9_rings : MethodName := ⟨RX9, "rings", "()I"⟩
abbrev cX9_ring : ByteArray := prog_11_method_43_code
def yX9_ring : MethodName := ⟨RX9, "ring", "(I)I"⟩
abbrev cX9_explains : ByteArray := prog_11_method_44_code
def yX9_explains : MethodName := ⟨RX9, "explains", "(JJ)Z"⟩
abbrev cX9_fewest : ByteArray := prog_11_method_45_code
def yX9_fewest : MethodName := ⟨RX9, "fewest", "()J"⟩
abbrev cX9_marks : ByteArray := prog_11_method_46_code
def yX9_marks : MethodName := ⟨RX9, "marks", "(I[J)V"⟩
abbrev cX9_crossing : ByteArray := prog_11_method_47_code
def yX9_crossing : MethodName := ⟨RX9, "crossing", "(II)J"⟩
abbrev cX9_total : ByteArray := prog_11_method_48_code
def yX9_total : MethodName := ⟨RX9, "total", "(I)I"⟩
def RJx145de : String := "java/io/Serializable"
def TJx145de : u_T := fun k => match k with
  | _ => ("", "", "", false)
def tyJx145de : Nat → FieldType := fun k => match k with
  | _ => .int
abbrev wsJx145de0 : List Cond := u_ws RJx145de TJx145de 0
theorem nmJx145de : ∀ a, a < 0 → ∀ b, b < 0 → a ≠ b → (TJx145de a).2.1 ≠ (TJx145de b).2.1 := by decide +kernel
theorem tyJx145de_ok : ∀ k, k < 0 → parseFieldDescriptor (TJx145de k).2.2.1 = some (tyJx145de k) := by decide +kernel
def RJx8e188 : String := "java/lang/Cloneable"
def TJx8e188 : u_T := fun k => match k with
  | _ => ("", "", "", false)
def tyJx8e188 : Nat → FieldType := fun k => match k with
  | _ => .int
abbrev wsJx8e1880 : List Cond := u_ws RJx8e188 TJx8e188 0
theorem nmJx8e188 : ∀ a, a < 0 → ∀ b, b < 0 → a ≠ b → (TJx8e188 a).2.1 ≠ (TJx8e188 b).2.1 := by decide +kernel
theorem tyJx8e188_ok : ∀ k, k < 0 → parseFieldDescriptor (TJx8e188 k).2.2.1 = some (tyJx8e188 k) := by decide +kernel
def RJ6 : String := "java/lang/Integer"
def TJ6 : u_T := fun k => match k with
  | _ => ("", "", "", false)
def tyJ6 : Nat → FieldType := fun k => match k with
  | _ => .int
abbrev wsJ60 : List Cond := u_ws RJ6 TJ6 0
theorem nmJ6 : ∀ a, a < 0 → ∀ b, b < 0 → a ≠ b → (TJ6 a).2.1 ≠ (TJ6 b).2.1 := by decide +kernel
theorem tyJ6_ok : ∀ k, k < 0 → parseFieldDescriptor (TJ6 k).2.2.1 = some (tyJ6 k) := by decide +kernel
abbrev cJ6_bitCount_0f7a4 : ByteArray := prog_16_method_49_code
def yJ6_bitCount_0f7a4 : MethodName := ⟨RJ6, "bitCount", "(I)I"⟩
def RJxab1ab : String := "java/lang/Iterable"
def TJxab1ab : u_T := fun k => match k with
  | _ => ("", "", "", false)
def tyJxab1ab : Nat → FieldType := fun k => match k with
  | _ => .int
abbrev wsJxab1ab0 : List Cond := u_ws RJxab1ab TJxab1ab 0
theorem nmJxab1ab : ∀ a, a < 0 → ∀ b, b < 0 → a ≠ b → (TJxab1ab a).2.1 ≠ (TJxab1ab b).2.1 := by decide +kernel
theorem tyJxab1ab_ok : ∀ k, k < 0 → parseFieldDescriptor (TJxab1ab k).2.2.1 = some (tyJxab1ab k) := by decide +kernel
def RJ13 : String := "java/lang/Long"
def TJ13 : u_T := fun k => match k with
  | _ => ("", "", "", false)
def tyJ13 : Nat → FieldType := fun k => match k with
  | _ => .int
abbrev wsJ130 : List Cond := u_ws RJ13 TJ13 0
theorem nmJ13 : ∀ a, a < 0 → ∀ b, b < 0 → a ≠ b → (TJ13 a).2.1 ≠ (TJ13 b).2.1 := by decide +kernel
theorem tyJ13_ok : ∀ k, k < 0 → parseFieldDescriptor (TJ13 k).2.2.1 = some (tyJ13 k) := by decide +kernel
abbrev cJ13_bitCount_95d88 : ByteArray := prog_18_method_50_code
def yJ13_bitCount_95d88 : MethodName := ⟨RJ13, "bitCount", "(J)I"⟩
def RJ9 : String := "java/lang/Math"
def TJ9 : u_T := fun k => match k with
  | _ => ("", "", "", false)
def tyJ9 : Nat → FieldType := fun k => match k with
  | _ => .int
abbrev wsJ90 : List Cond := u_ws RJ9 TJ9 0
theorem nmJ9 : ∀ a, a < 0 → ∀ b, b < 0 → a ≠ b → (TJ9 a).2.1 ≠ (TJ9 b).2.1 := by decide +kernel
theorem tyJ9_ok : ∀ k, k < 0 → parseFieldDescriptor (TJ9 k).2.2.1 = some (tyJ9 k) := by decide +kernel
abbrev cJ9_max_7cf53 : ByteArray := prog_19_method_65_code
def yJ9_max_7cf53 : MethodName := ⟨RJ9, "max", "(II)I"⟩
abbrev cJ9_min_7cf53 : ByteArray := prog_19_method_69_code
def yJ9_min_7cf53 : MethodName := ⟨RJ9, "min", "(II)I"⟩
def RJ0 : String := "java/lang/String"
def TJ0 : u_T := fun k => match k with
  | _ => ("", "", "", false)
def tyJ0 : Nat → FieldType := fun k => match k with
  | _ => .int
abbrev wsJ00 : List Cond := u_ws RJ0 TJ0 0
theorem nmJ0 : ∀ a, a < 0 → ∀ b, b < 0 → a ≠ b → (TJ0 a).2.1 ≠ (TJ0 b).2.1 := by decide +kernel
theorem tyJ0_ok : ∀ k, k < 0 → parseFieldDescriptor (TJ0 k).2.2.1 = some (tyJ0 k) := by decide +kernel
def RJ10 : String := "java/lang/System"
def TJ10 : u_T := fun k => match k with
  | _ => ("", "", "", false)
def tyJ10 : Nat → FieldType := fun k => match k with
  | _ => .int
abbrev wsJ100 : List Cond := u_ws RJ10 TJ10 0
theorem nmJ10 : ∀ a, a < 0 → ∀ b, b < 0 → a ≠ b → (TJ10 a).2.1 ≠ (TJ10 b).2.1 := by decide +kernel
theorem tyJ10_ok : ∀ k, k < 0 → parseFieldDescriptor (TJ10 k).2.2.1 = some (tyJ10 k) := by decide +kernel
def RJxa1e45 : String := "java/util/AbstractCollection"
def TJxa1e45 : u_T := fun k => match k with
  | _ => ("", "", "", false)
def tyJxa1e45 : Nat → FieldType := fun k => match k with
  | _ => .int
abbrev wsJxa1e450 : List Cond := u_ws RJxa1e45 TJxa1e45 0
theorem nmJxa1e45 : ∀ a, a < 0 → ∀ b, b < 0 → a ≠ b → (TJxa1e45 a).2.1 ≠ (TJxa1e45 b).2.1 := by decide +kernel
theorem tyJxa1e45_ok : ∀ k, k < 0 → parseFieldDescriptor (TJxa1e45 k).2.2.1 = some (tyJxa1e45 k) := by decide +kernel
abbrev cJxa1e45_init_da8c8 : ByteArray := prog_24_method_1_code
def yJxa1e45_init_da8c8 : MethodName := ⟨RJxa1e45, "<init>", "()V"⟩
def RJxc12de : String := "java/util/AbstractList"
def TJxc12de : u_T := fun k => match k with
  | _ => ("", "", "", false)
def tyJxc12de : Nat → FieldType := fun k => match k with
  | _ => .int
abbrev wsJxc12de0 : List Cond := u_ws RJxc12de TJxc12de 0
theorem nmJxc12de : ∀ a, a < 0 → ∀ b, b < 0 → a ≠ b → (TJxc12de a).2.1 ≠ (TJxc12de b).2.1 := by decide +kernel
theorem tyJxc12de_ok : ∀ k, k < 0 → parseFieldDescriptor (TJxc12de k).2.2.1 = some (tyJxc12de k) := by decide +kernel
abbrev cJxc12de_init_da8c8 : ByteArray := prog_25_method_1_code
def yJxc12de_init_da8c8 : MethodName := ⟨RJxc12de, "<init>", "()V"⟩
def RJx4a65c : String := "java/util/ArrayList"
def TJx4a65c : u_T := fun k => match k with
  | 0 => ("java/util/AbstractList", "modCount", "I", false)
  | 1 => ("java/util/ArrayList", "elementData", "[Ljava/lang/Object;", false)
  | _ => ("java/util/ArrayList", "size", "I", false)
def tyJx4a65c : Nat → FieldType := fun k => match k with
  | 0 => .int
  | 1 => .array (.object "java/lang/Object")
  | _ => .int
abbrev wsJx4a65c0 : List Cond := u_ws RJx4a65c TJx4a65c 3
theorem nmJx4a65c : ∀ a, a < 3 → ∀ b, b < 3 → a ≠ b → (TJx4a65c a).2.1 ≠ (TJx4a65c b).2.1 := by decide +kernel
theorem tyJx4a65c_ok : ∀ k, k < 3 → parseFieldDescriptor (TJx4a65c k).2.2.1 = some (tyJx4a65c k) := by decide +kernel
abbrev cJx4a65c_init_da8c8 : ByteArray := prog_26_method_2_code
def yJx4a65c_init_da8c8 : MethodName := ⟨RJx4a65c, "<init>", "()V"⟩
abbrev cJx4a65c_grow_92f84 : ByteArray := prog_26_method_6_code
def yJx4a65c_grow_92f84 : MethodName := ⟨RJx4a65c, "grow", "(I)[Ljava/lang/Object;"⟩
abbrev cJx4a65c_grow_d5877 : ByteArray := prog_26_method_7_code
def yJx4a65c_grow_d5877 : MethodName := ⟨RJx4a65c, "grow", "()[Ljava/lang/Object;"⟩
abbrev cJx4a65c_size_8abf5 : ByteArray := prog_26_method_8_code
def yJx4a65c_size_8abf5 : MethodName := ⟨RJx4a65c, "size", "()I"⟩
abbrev cJx4a65c_elementData_915e3 : ByteArray := prog_26_method_18_code
def yJx4a65c_elementData_915e3 : MethodName := ⟨RJx4a65c, "elementData", "(I)Ljava/lang/Object;"⟩
abbrev cJx4a65c_get_915e3 : ByteArray := prog_26_method_20_code
def yJx4a65c_get_915e3 : MethodName := ⟨RJx4a65c, "get", "(I)Ljava/lang/Object;"⟩
abbrev cJx4a65c_add_72be8 : ByteArray := prog_26_method_24_code
def yJx4a65c_add_72be8 : MethodName := ⟨RJx4a65c, "add", "(Ljava/lang/Object;[Ljava/lang/Object;I)V"⟩
abbrev cJx4a65c_add_9ea2d : ByteArray := prog_26_method_25_code
def yJx4a65c_add_9ea2d : MethodName := ⟨RJx4a65c, "add", "(Ljava/lang/Object;)Z"⟩
def RJ7 : String := "java/util/Arrays"
def TJ7 : u_T := fun k => match k with
  | _ => ("", "", "", false)
def tyJ7 : Nat → FieldType := fun k => match k with
  | _ => .int
abbrev wsJ70 : List Cond := u_ws RJ7 TJ7 0
theorem nmJ7 : ∀ a, a < 0 → ∀ b, b < 0 → a ≠ b → (TJ7 a).2.1 ≠ (TJ7 b).2.1 := by decide +kernel
theorem tyJ7_ok : ∀ k, k < 0 → parseFieldDescriptor (TJ7 k).2.2.1 = some (tyJ7 k) := by decide +kernel
abbrev cJ7_copyOf_1904c : ByteArray := prog_27_method_119_code
def yJ7_copyOf_1904c : MethodName := ⟨RJ7, "copyOf", "([Ljava/lang/Object;I)[Ljava/lang/Object;"⟩
abbrev cJ7_copyOf_6403c : ByteArray := prog_27_method_120_code
def yJ7_copyOf_6403c : MethodName := ⟨RJ7, "copyOf", "([Ljava/lang/Object;ILjava/lang/Class;)[Ljava/lang/Object;"⟩
def RJx5ef63 : String := "java/util/Collection"
def TJx5ef63 : u_T := fun k => match k with
  | _ => ("", "", "", false)
def tyJx5ef63 : Nat → FieldType := fun k => match k with
  | _ => .int
abbrev wsJx5ef630 : List Cond := u_ws RJx5ef63 TJx5ef63 0
theorem nmJx5ef63 : ∀ a, a < 0 → ∀ b, b < 0 → a ≠ b → (TJx5ef63 a).2.1 ≠ (TJx5ef63 b).2.1 := by decide +kernel
theorem tyJx5ef63_ok : ∀ k, k < 0 → parseFieldDescriptor (TJx5ef63 k).2.2.1 = some (tyJx5ef63 k) := by decide +kernel
def RJxbd725 : String := "java/util/List"
def TJxbd725 : u_T := fun k => match k with
  | _ => ("", "", "", false)
def tyJxbd725 : Nat → FieldType := fun k => match k with
  | _ => .int
abbrev wsJxbd7250 : List Cond := u_ws RJxbd725 TJxbd725 0
theorem nmJxbd725 : ∀ a, a < 0 → ∀ b, b < 0 → a ≠ b → (TJxbd725 a).2.1 ≠ (TJxbd725 b).2.1 := by decide +kernel
theorem tyJxbd725_ok : ∀ k, k < 0 → parseFieldDescriptor (TJxbd725 k).2.2.1 = some (tyJxbd725 k) := by decide +kernel
def RJ15 : String := "java/util/Objects"
def TJ15 : u_T := fun k => match k with
  | _ => ("", "", "", false)
def tyJ15 : Nat → FieldType := fun k => match k with
  | _ => .int
abbrev wsJ150 : List Cond := u_ws RJ15 TJ15 0
theorem nmJ15 : ∀ a, a < 0 → ∀ b, b < 0 → a ≠ b → (TJ15 a).2.1 ≠ (TJ15 b).2.1 := by decide +kernel
theorem tyJ15_ok : ∀ k, k < 0 → parseFieldDescriptor (TJ15 k).2.2.1 = some (tyJ15 k) := by decide +kernel
abbrev cJ15_checkIndex_7cf53 : ByteArray := prog_31_method_17_code
def yJ15_checkIndex_7cf53 : MethodName := ⟨RJ15, "checkIndex", "(II)I"⟩
def RJxf0a74 : String := "java/util/RandomAccess"
def TJxf0a74 : u_T := fun k => match k with
  | _ => ("", "", "", false)
def tyJxf0a74 : Nat → FieldType := fun k => match k with
  | _ => .int
abbrev wsJxf0a740 : List Cond := u_ws RJxf0a74 TJxf0a74 0
theorem nmJxf0a74 : ∀ a, a < 0 → ∀ b, b < 0 → a ≠ b → (TJxf0a74 a).2.1 ≠ (TJxf0a74 b).2.1 := by decide +kernel
theorem tyJxf0a74_ok : ∀ k, k < 0 → parseFieldDescriptor (TJxf0a74 k).2.2.1 = some (tyJxf0a74 k) := by decide +kernel
def RJxa66e6 : String := "java/util/SequencedCollection"
def TJxa66e6 : u_T := fun k => match k with
  | _ => ("", "", "", false)
def tyJxa66e6 : Nat → FieldType := fun k => match k with
  | _ => .int
abbrev wsJxa66e60 : List Cond := u_ws RJxa66e6 TJxa66e6 0
theorem nmJxa66e6 : ∀ a, a < 0 → ∀ b, b < 0 → a ≠ b → (TJxa66e6 a).2.1 ≠ (TJxa66e6 b).2.1 := by decide +kernel
theorem tyJxa66e6_ok : ∀ k, k < 0 → parseFieldDescriptor (TJxa66e6 k).2.2.1 = some (tyJxa66e6 k) := by decide +kernel
def RJ8 : String := "jdk/internal/util/ArraysSupport"
def TJ8 : u_T := fun k => match k with
  | _ => ("", "", "", false)
def tyJ8 : Nat → FieldType := fun k => match k with
  | _ => .int
abbrev wsJ80 : List Cond := u_ws RJ8 TJ8 0
theorem nmJ8 : ∀ a, a < 0 → ∀ b, b < 0 → a ≠ b → (TJ8 a).2.1 ≠ (TJ8 b).2.1 := by decide +kernel
theorem tyJ8_ok : ∀ k, k < 0 → parseFieldDescriptor (TJ8 k).2.2.1 = some (tyJ8 k) := by decide +kernel
abbrev cJ8_newLength_cabcc : ByteArray := prog_34_method_27_code
def yJ8_newLength_cabcc : MethodName := ⟨RJ8, "newLength", "(III)I"⟩
abbrev cJ8_hugeLength_7cf53 : ByteArray := prog_34_method_28_code
def yJ8_hugeLength_7cf53 : MethodName := ⟨RJ8, "hugeLength", "(II)I"⟩
def RJ3 : String := "jdk/internal/util/Preconditions"
def TJ3 : u_T := fun k => match k with
  | _ => ("", "", "", false)
def tyJ3 : Nat → FieldType := fun k => match k with
  | _ => .int
abbrev wsJ30 : List Cond := u_ws RJ3 TJ3 0
theorem nmJ3 : ∀ a, a < 0 → ∀ b, b < 0 → a ≠ b → (TJ3 a).2.1 ≠ (TJ3 b).2.1 := by decide +kernel
theorem tyJ3_ok : ∀ k, k < 0 → parseFieldDescriptor (TJ3 k).2.2.1 = some (tyJ3 k) := by decide +kernel
abbrev cJ3_checkIndex_8e157 : ByteArray := prog_35_method_11_code
def yJ3_checkIndex_8e157 : MethodName := ⟨RJ3, "checkIndex", "(IILjava/util/function/BiFunction;)I"⟩
def RL : String := "TermKeeperLaw"
abbrev cL_term : ByteArray := method_3_code
def yL_term : MethodName := ⟨RL, "term", "(LTermKeeper;III[J)I"⟩
abbrev cL_neighbour : ByteArray := method_4_code
def yL_neighbour : MethodName := ⟨RL, "neighbour", "(LTermKeeper;I[J)I"⟩
abbrev cL_define : ByteArray := method_5_code
def yL_define : MethodName := ⟨RL, "define", "(LTermKeeper;IJ[J)I"⟩
abbrev cL_know : ByteArray := method_6_code
def yL_know : MethodName := ⟨RL, "know", "(LTermKeeper;IZ[J)I"⟩
abbrev cL_kind : ByteArray := method_7_code
def yL_kind : MethodName := ⟨RL, "kind", "(LTermKeeper;II[J)I"⟩
abbrev cL_about : ByteArray := method_8_code
def yL_about : MethodName := ⟨RL, "about", "(LTermKeeper;II[J)I"⟩
abbrev cL_write : ByteArray := method_9_code
def yL_write : MethodName := ⟨RL, "write", "(LTermKeeper;IIIIII[J)I"⟩
abbrev cL_cut : ByteArray := method_10_code
def yL_cut : MethodName := ⟨RL, "cut", "(LTermKeeper;II[J)I"⟩
abbrev cL_byteAt : ByteArray := method_11_code
def yL_byteAt : MethodName := ⟨RL, "byteAt", "(LTermKeeper;II[J)I"⟩
abbrev cL_uses : ByteArray := method_12_code
def yL_uses : MethodName := ⟨RL, "uses", "(LTermKeeper;I[J)I"⟩
abbrev cL_use : ByteArray := method_13_code
def yL_use : MethodName := ⟨RL, "use", "(LTermKeeper;III[J)I"⟩
abbrev cL_mend : ByteArray := method_14_code
def yL_mend : MethodName := ⟨RL, "mend", "(LTermKeeper;II[J)I"⟩
abbrev cL_mendAll : ByteArray := method_15_code
def yL_mendAll : MethodName := ⟨RL, "mendAll", "(LTermKeeper;I[J)I"⟩
abbrev cL_count : ByteArray := method_16_code
def yL_count : MethodName := ⟨RL, "count", "(LTermKeeper;I[J)I"⟩
abbrev cL_ring : ByteArray := method_17_code
def yL_ring : MethodName := ⟨RL, "ring", "(LTermKeeper;I[J)I"⟩
abbrev cL_crossing : ByteArray := method_18_code
def yL_crossing : MethodName := ⟨RL, "crossing", "(LTermKeeper;II[J)I"⟩
abbrev cL_total : ByteArray := method_19_code
def yL_total : MethodName := ⟨RL, "total", "(LTermKeeper;I[J)I"⟩
abbrev cL_law : ByteArray := code
def yL_law : MethodName := ⟨RL, "law", "([I)Z"⟩
def wsX8_use_r10 : List Cond := [Cond.instanceMethod yX6_endOf, Cond.selects RX6 yX6_endOf yX6_endOf, Cond.code yX6_endOf cX6_endOf 2 (some .int), Cond.methodLink RX8 156 yX6_termOf, Cond.instanceMethod yX6_termOf, Cond.selects RX6 yX6_termOf yX6_termOf, Cond.code yX6_termOf cX6_termOf 2 (some .int), Cond.methodLink RX8 159 yX6_endingOf, Cond.instanceMethod yX6_endingOf, Cond.selects RX6 yX6_endingOf yX6_endingOf, Cond.code yX6_endingOf cX6_endingOf 2 (some .int), Cond.methodLink RX8 162 yX6_findingOf, Cond.instanceMethod yX6_findingOf, Cond.selects RX6 yX6_findingOf yX6_findingOf, Cond.code yX6_findingOf cX6_findingOf 2 (some .int)]
def wsX8_mend_r10 : List Cond := [Cond.methodLink RX6 51 yX6_holds, Cond.instanceMethod yX6_holds, Cond.selects RX6 yX6_holds yX6_holds, Cond.code yX6_holds cX6_holds 2 (some .boolean), Cond.methodLink RX2 42 yX1_holdsTerm, Cond.methodLink RX2 48 yX1_termAt, Cond.methodLink RX2 57 yX1_goodTermOf, Cond.instanceMethod yX1_goodTermOf, Cond.selects RX1 yX1_goodTermOf yX1_goodTermOf, Cond.code yX1_goodTermOf cX1_goodTermOf 4 (some .int), Cond.fieldLink RX1 72 "TermKeeper$Term" "thing" "I", Cond.fieldLink RX1 73 "TermKeeper$Term" "kind" "I", Cond.methodLink RX2 63 yX6_endingOf, Cond.instanceMethod yX6_endingOf, Cond.selects RX6 yX6_endingOf yX6_endingOf, Cond.code yX6_endingOf cX6_endingOf 2 (some .int), Cond.methodLink RX2 66 yX5_takesEnding, Cond.methodLink RX2 69 yX6_beginOf, Cond.instanceMethod yX6_beginOf, Cond.selects RX6 yX6_beginOf yX6_beginOf, Cond.code yX6_beginOf cX6_beginOf 2 (some .int), Cond.methodLink RX2 72 yX6_endOf, Cond.instanceMethod yX6_endOf, Cond.selects RX6 yX6_endOf yX6_endOf]
def wsX8_mendAll_r10 : List Cond := [Cond.fieldLink RX2 52 "TermKeeper$Term" "thing" "I", Cond.fieldLink RX2 60 "TermKeeper$Term" "kind" "I", Cond.fieldLink RX2 14 "TermKeeper$Mender" "instead" "LTermKeeper$Row;", Cond.fieldLink RX2 24 "TermKeeper$Mender" "mends" "I", Cond.methodLink RX2 38 yX6_termOf, Cond.instanceMethod yX6_termOf, Cond.selects RX6 yX6_termOf yX6_termOf, Cond.code yX6_termOf cX6_termOf 2 (some .int), Cond.methodLink RX6 51 yX6_holds, Cond.instanceMethod yX6_holds, Cond.selects RX6 yX6_holds yX6_holds, Cond.code yX6_holds cX6_holds 2 (some .boolean), Cond.methodLink RX2 42 yX1_holdsTerm, Cond.methodLink RX2 48 yX1_termAt, Cond.methodLink RX2 57 yX1_goodTermOf, Cond.instanceMethod yX1_goodTermOf, Cond.selects RX1 yX1_goodTermOf yX1_goodTermOf, Cond.code yX1_goodTermOf cX1_goodTermOf 4 (some .int), Cond.fieldLink RX1 72 "TermKeeper$Term" "thing" "I", Cond.fieldLink RX1 73 "TermKeeper$Term" "kind" "I", Cond.methodLink RX2 63 yX6_endingOf, Cond.instanceMethod yX6_endingOf, Cond.selects RX6 yX6_endingOf yX6_endingOf, Cond.code yX6_endingOf cX6_endingOf 2 (some .int)]
abbrev vwCl : List vw_C := [(RJx4a65c, TJx4a65c, 3), (RX0, TX0, 8), (RX1, TX1, 3), (RX2, TX2, 3), (RX3, TX3, 2), (RX4, TX4, 2), (RX5, TX5, 5), (RX6, TX6, 13), (RX7, TX7, 8), (RX8, TX8, 6), (RX9, TX9, 38)]
