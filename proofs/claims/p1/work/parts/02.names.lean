/-! ===== BEGIN words of one list among another's, by their places ===== -/
theorem goodIn_r {big : List Cond} (ws : List Cond) (ps : List Nat) (hp : ws = ps.filterMap (fun i => big[i]?)) (h : ws.all goodWord = true) : GoodIn big ws := by
  intro w hw
  have h1 := List.all_eq_true.mp h w hw
  rw [hp] at hw
  obtain ⟨i, -, hi⟩ := List.mem_filterMap.mp hw
  have hm : w ∈ big := by first | exact List.mem_of_getElem? hi | exact List.getElem?_mem hi
  exact ⟨hm, good_of_word h1⟩
theorem goodIn_app {big a b : List Cond} (ha : GoodIn big a) (hb : GoodIn big b) : GoodIn big (a ++ b) := fun w h => (List.mem_append.mp h).elim (ha w) (hb w)
theorem goodIn_ca {big a b : List Cond} {c : Cond} (ha : GoodIn big (c :: a)) (hb : GoodIn big b) : GoodIn big (c :: (a ++ b)) := fun w h => (List.mem_cons.mp h).elim (fun e => ha w (List.mem_cons.mpr (Or.inl e))) (fun h => (List.mem_append.mp h).elim (fun h => ha w (List.mem_cons.mpr (Or.inr h))) (hb w))
theorem goodIn_sub {big ws : List Cond} (hm : ∀ w ∈ ws, w ∈ big) (h : ws.all goodWord = true) : GoodIn big ws := fun w hw => ⟨hm w hw, good_of_word (List.all_eq_true.mp h w hw)⟩
/-! ===== END ===== -/

/-! ===== BEGIN printed: names, fields, word lists, decode rows ===== -/
def RX0 : String := "LayoutDesk$Due"
def TX0 : u_T := fun k => match k with
  | _ => ("", "", "", false)
def tyX0 : Nat → FieldType := fun k => match k with
  | _ => .int
abbrev wsX00 : List Cond := u_ws RX0 TX0 0
theorem nmX0 : ∀ a, a < 0 → ∀ b, b < 0 → a ≠ b → (TX0 a).2.1 ≠ (TX0 b).2.1 := by decide +kernel
theorem tyX0_ok : ∀ k, k < 0 → parseFieldDescriptor (TX0 k).2.2.1 = some (tyX0 k) := by decide +kernel
abbrev cX0_inOperand : ByteArray := prog_2_method_2_code
def yX0_inOperand : MethodName := ⟨RX0, "inOperand", "(I)[I"⟩
def RX1 : String := "LayoutDesk$Feed"
def TX1 : u_T := fun k => match k with
  | 0 => ("LayoutDesk$Feed", "lexemes", "LLayoutDesk$Lexemes;", true)
  | 1 => ("LayoutDesk$Feed", "tokens", "[I", true)
  | 2 => ("LayoutDesk$Feed", "contexts", "[I", true)
  | 3 => ("LayoutDesk$Feed", "size", "I", false)
  | 4 => ("LayoutDesk$Feed", "depth", "I", false)
  | 5 => ("LayoutDesk$Feed", "top", "I", false)
  | 6 => ("LayoutDesk$Feed", "position", "I", false)
  | 7 => ("LayoutDesk$Feed", "phase", "I", false)
  | _ => ("LayoutDesk$Feed", "column", "I", false)
def tyX1 : Nat → FieldType := fun k => match k with
  | 0 => .object "LayoutDesk$Lexemes"
  | 1 => .array .int
  | 2 => .array .int
  | 3 => .int
  | 4 => .int
  | 5 => .int
  | 6 => .int
  | 7 => .int
  | _ => .int
abbrev wsX10 : List Cond := u_ws RX1 TX1 9
theorem nmX1 : ∀ a, a < 9 → ∀ b, b < 9 → a ≠ b → (TX1 a).2.1 ≠ (TX1 b).2.1 := by decide +kernel
theorem tyX1_ok : ∀ k, k < 9 → parseFieldDescriptor (TX1 k).2.2.1 = some (tyX1 k) := by decide +kernel
abbrev cX1_init : ByteArray := prog_3_method_1_code
def yX1_init : MethodName := ⟨RX1, "<init>", "(LLayoutDesk$Lexemes;)V"⟩
abbrev cX1_size : ByteArray := prog_3_method_2_code
def yX1_size : MethodName := ⟨RX1, "size", "()I"⟩
abbrev cX1_position : ByteArray := prog_3_method_3_code
def yX1_position : MethodName := ⟨RX1, "position", "()I"⟩
abbrev cX1_tokenAt : ByteArray := prog_3_method_4_code
def yX1_tokenAt : MethodName := ⟨RX1, "tokenAt", "(I)I"⟩
abbrev cX1_empty : ByteArray := prog_3_method_5_code
def yX1_empty : MethodName := ⟨RX1, "empty", "()V"⟩
abbrev cX1_cut : ByteArray := prog_3_method_6_code
def yX1_cut : MethodName := ⟨RX1, "cut", "(I)V"⟩
abbrev cX1_start : ByteArray := prog_3_method_7_code
def yX1_start : MethodName := ⟨RX1, "start", "()V"⟩
abbrev cX1_sort : ByteArray := prog_3_method_8_code
def yX1_sort : MethodName := ⟨RX1, "sort", "()I"⟩
abbrev cX1_take : ByteArray := prog_3_method_9_code
def yX1_take : MethodName := ⟨RX1, "take", "()V"⟩
abbrev cX1_closeByError : ByteArray := prog_3_method_10_code
def yX1_closeByError : MethodName := ⟨RX1, "closeByError", "()Z"⟩
abbrev cX1_isPartAhead : ByteArray := prog_3_method_11_code
def yX1_isPartAhead : MethodName := ⟨RX1, "isPartAhead", "(I)Z"⟩
abbrev cX1_plainSort : ByteArray := prog_3_method_12_code
def yX1_plainSort : MethodName := ⟨RX1, "plainSort", "()I"⟩
abbrev cX1_meetLexeme : ByteArray := prog_3_method_13_code
def yX1_meetLexeme : MethodName := ⟨RX1, "meetLexeme", "()V"⟩
abbrev cX1_passIndent : ByteArray := prog_3_method_14_code
def yX1_passIndent : MethodName := ⟨RX1, "passIndent", "()V"⟩
abbrev cX1_takeOpening : ByteArray := prog_3_method_15_code
def yX1_takeOpening : MethodName := ⟨RX1, "takeOpening", "()V"⟩
abbrev cX1_takeIndent : ByteArray := prog_3_method_16_code
def yX1_takeIndent : MethodName := ⟨RX1, "takeIndent", "()V"⟩
abbrev cX1_takeLexeme : ByteArray := prog_3_method_17_code
def yX1_takeLexeme : MethodName := ⟨RX1, "takeLexeme", "()V"⟩
abbrev cX1_keep : ByteArray := prog_3_method_18_code
def yX1_keep : MethodName := ⟨RX1, "keep", "(I)V"⟩
abbrev cX1_enterContext : ByteArray := prog_3_method_19_code
def yX1_enterContext : MethodName := ⟨RX1, "enterContext", "(I)V"⟩
abbrev cX1_leaveContext : ByteArray := prog_3_method_20_code
def yX1_leaveContext : MethodName := ⟨RX1, "leaveContext", "()V"⟩
def RX2 : String := "LayoutDesk$Kind"
def TX2 : u_T := fun k => match k with
  | _ => ("", "", "", false)
def tyX2 : Nat → FieldType := fun k => match k with
  | _ => .int
abbrev wsX20 : List Cond := u_ws RX2 TX2 0
theorem nmX2 : ∀ a, a < 0 → ∀ b, b < 0 → a ≠ b → (TX2 a).2.1 ≠ (TX2 b).2.1 := by decide +kernel
theorem tyX2_ok : ∀ k, k < 0 → parseFieldDescriptor (TX2 k).2.2.1 = some (tyX2 k) := by decide +kernel
abbrev cX2_ofLeaf : ByteArray := prog_4_method_2_code
def yX2_ofLeaf : MethodName := ⟨RX2, "ofLeaf", "(I)I"⟩
abbrev cX2_ofOperand : ByteArray := prog_4_method_3_code
def yX2_ofOperand : MethodName := ⟨RX2, "ofOperand", "(I)I"⟩
abbrev cX2_isNamed : ByteArray := prog_4_method_4_code
def yX2_isNamed : MethodName := ⟨RX2, "isNamed", "(I)Z"⟩
def RX3 : String := "LayoutDesk$Lexemes"
def TX3 : u_T := fun k => match k with
  | 0 => ("LayoutDesk$Lexemes", "text", "LLayoutDesk$Text;", true)
  | 1 => ("LayoutDesk$Lexemes", "places", "[I", true)
  | 2 => ("LayoutDesk$Lexemes", "columns", "[I", true)
  | 3 => ("LayoutDesk$Lexemes", "sorts", "[I", true)
  | 4 => ("LayoutDesk$Lexemes", "lengths", "[I", true)
  | 5 => ("LayoutDesk$Lexemes", "openings", "[I", true)
  | 6 => ("LayoutDesk$Lexemes", "indents", "[I", true)
  | 7 => ("LayoutDesk$Lexemes", "size", "I", false)
  | 8 => ("LayoutDesk$Lexemes", "faultNumber", "I", false)
  | 9 => ("LayoutDesk$Lexemes", "faultPlace", "I", false)
  | 10 => ("LayoutDesk$Lexemes", "endOpening", "I", false)
  | 11 => ("LayoutDesk$Lexemes", "place", "I", false)
  | 12 => ("LayoutDesk$Lexemes", "lineStart", "I", false)
  | _ => ("LayoutDesk$Lexemes", "lineHasLexeme", "Z", false)
def tyX3 : Nat → FieldType := fun k => match k with
  | 0 => .object "LayoutDesk$Text"
  | 1 => .array .int
  | 2 => .array .int
  | 3 => .array .int
  | 4 => .array .int
  | 5 => .array .int
  | 6 => .array .int
  | 7 => .int
  | 8 => .int
  | 9 => .int
  | 10 => .int
  | 11 => .int
  | 12 => .int
  | _ => .boolean
abbrev wsX30 : List Cond := u_ws RX3 TX3 14
theorem nmX3 : ∀ a, a < 14 → ∀ b, b < 14 → a ≠ b → (TX3 a).2.1 ≠ (TX3 b).2.1 := by decide +kernel
theorem tyX3_ok : ∀ k, k < 14 → parseFieldDescriptor (TX3 k).2.2.1 = some (tyX3 k) := by decide +kernel
abbrev cX3_init : ByteArray := prog_5_method_1_code
def yX3_init : MethodName := ⟨RX3, "<init>", "(LLayoutDesk$Text;)V"⟩
abbrev cX3_size : ByteArray := prog_5_method_2_code
def yX3_size : MethodName := ⟨RX3, "size", "()I"⟩
abbrev cX3_faultNumber : ByteArray := prog_5_method_3_code
def yX3_faultNumber : MethodName := ⟨RX3, "faultNumber", "()I"⟩
abbrev cX3_faultPlace : ByteArray := prog_5_method_4_code
def yX3_faultPlace : MethodName := ⟨RX3, "faultPlace", "()I"⟩
abbrev cX3_placeOf : ByteArray := prog_5_method_5_code
def yX3_placeOf : MethodName := ⟨RX3, "placeOf", "(I)I"⟩
abbrev cX3_columnOf : ByteArray := prog_5_method_6_code
def yX3_columnOf : MethodName := ⟨RX3, "columnOf", "(I)I"⟩
abbrev cX3_sortOf : ByteArray := prog_5_method_7_code
def yX3_sortOf : MethodName := ⟨RX3, "sortOf", "(I)I"⟩
abbrev cX3_kindOf : ByteArray := prog_5_method_8_code
def yX3_kindOf : MethodName := ⟨RX3, "kindOf", "(I)I"⟩
abbrev cX3_lengthOf : ByteArray := prog_5_method_9_code
def yX3_lengthOf : MethodName := ⟨RX3, "lengthOf", "(I)I"⟩
abbrev cX3_openingOf : ByteArray := prog_5_method_10_code
def yX3_openingOf : MethodName := ⟨RX3, "openingOf", "(I)I"⟩
abbrev cX3_indentOf : ByteArray := prog_5_method_11_code
def yX3_indentOf : MethodName := ⟨RX3, "indentOf", "(I)I"⟩
abbrev cX3_scan : ByteArray := prog_5_method_12_code
def yX3_scan : MethodName := ⟨RX3, "scan", "()V"⟩
abbrev cX3_isBlockDue : ByteArray := prog_5_method_13_code
def yX3_isBlockDue : MethodName := ⟨RX3, "isBlockDue", "()Z"⟩
abbrev cX3_goOn : ByteArray := prog_5_method_14_code
def yX3_goOn : MethodName := ⟨RX3, "goOn", "(I)V"⟩
abbrev cX3_endLine : ByteArray := prog_5_method_15_code
def yX3_endLine : MethodName := ⟨RX3, "endLine", "(I)V"⟩
abbrev cX3_isLineComment : ByteArray := prog_5_method_16_code
def yX3_isLineComment : MethodName := ⟨RX3, "isLineComment", "()Z"⟩
abbrev cX3_passLineComment : ByteArray := prog_5_method_17_code
def yX3_passLineComment : MethodName := ⟨RX3, "passLineComment", "()V"⟩
abbrev cX3_passNestedComment : ByteArray := prog_5_method_18_code
def yX3_passNestedComment : MethodName := ⟨RX3, "passNestedComment", "()V"⟩
abbrev cX3_takeLexeme : ByteArray := prog_5_method_19_code
def yX3_takeLexeme : MethodName := ⟨RX3, "takeLexeme", "(I)V"⟩
abbrev cX3_add : ByteArray := prog_5_method_20_code
def yX3_add : MethodName := ⟨RX3, "add", "(III)V"⟩
abbrev cX3_refuse : ByteArray := prog_5_method_21_code
def yX3_refuse : MethodName := ⟨RX3, "refuse", "(I)V"⟩
abbrev cX3_nameLength : ByteArray := prog_5_method_22_code
def yX3_nameLength : MethodName := ⟨RX3, "nameLength", "()I"⟩
abbrev cX3_numberLength : ByteArray := prog_5_method_23_code
def yX3_numberLength : MethodName := ⟨RX3, "numberLength", "()I"⟩
abbrev cX3_operatorLength : ByteArray := prog_5_method_24_code
def yX3_operatorLength : MethodName := ⟨RX3, "operatorLength", "()I"⟩
abbrev cX3_wordSort : ByteArray := prog_5_method_25_code
def yX3_wordSort : MethodName := ⟨RX3, "wordSort", "(I)I"⟩
abbrev cX3_operatorSort : ByteArray := prog_5_method_26_code
def yX3_operatorSort : MethodName := ⟨RX3, "operatorSort", "(I)I"⟩
abbrev cX3_spells : ByteArray := prog_5_method_27_code
def yX3_spells : MethodName := ⟨RX3, "spells", "(Ljava/lang/String;I)Z"⟩
abbrev cX3_signSort : ByteArray := prog_5_method_28_code
def yX3_signSort : MethodName := ⟨RX3, "signSort", "(I)I"⟩
abbrev cX3_isSmall : ByteArray := prog_5_method_29_code
def yX3_isSmall : MethodName := ⟨RX3, "isSmall", "(I)Z"⟩
abbrev cX3_isCapital : ByteArray := prog_5_method_30_code
def yX3_isCapital : MethodName := ⟨RX3, "isCapital", "(I)Z"⟩
abbrev cX3_isFigure : ByteArray := prog_5_method_31_code
def yX3_isFigure : MethodName := ⟨RX3, "isFigure", "(I)Z"⟩
abbrev cX3_isNameByte : ByteArray := prog_5_method_32_code
def yX3_isNameByte : MethodName := ⟨RX3, "isNameByte", "(I)Z"⟩
abbrev cX3_isOperatorByte : ByteArray := prog_5_method_33_code
def yX3_isOperatorByte : MethodName := ⟨RX3, "isOperatorByte", "(I)Z"⟩
def RX4 : String := "LayoutDesk$Openings"
def TX4 : u_T := fun k => match k with
  | 0 => ("LayoutDesk$Openings", "depths", "[I", true)
  | 1 => ("LayoutDesk$Openings", "tokens", "[I", true)
  | 2 => ("LayoutDesk$Openings", "positions", "[I", true)
  | 3 => ("LayoutDesk$Openings", "lets", "[I", true)
  | 4 => ("LayoutDesk$Openings", "size", "I", false)
  | 5 => ("LayoutDesk$Openings", "letsPending", "I", false)
  | _ => ("LayoutDesk$Openings", "depth", "I", false)
def tyX4 : Nat → FieldType := fun k => match k with
  | 0 => .array .int
  | 1 => .array .int
  | 2 => .array .int
  | 3 => .array .int
  | 4 => .int
  | 5 => .int
  | _ => .int
abbrev wsX40 : List Cond := u_ws RX4 TX4 7
theorem nmX4 : ∀ a, a < 7 → ∀ b, b < 7 → a ≠ b → (TX4 a).2.1 ≠ (TX4 b).2.1 := by decide +kernel
theorem tyX4_ok : ∀ k, k < 7 → parseFieldDescriptor (TX4 k).2.2.1 = some (tyX4 k) := by decide +kernel
abbrev cX4_init : ByteArray := prog_6_method_1_code
def yX4_init : MethodName := ⟨RX4, "<init>", "()V"⟩
abbrev cX4_empty : ByteArray := prog_6_method_2_code
def yX4_empty : MethodName := ⟨RX4, "empty", "()V"⟩
abbrev cX4_enter : ByteArray := prog_6_method_3_code
def yX4_enter : MethodName := ⟨RX4, "enter", "(II)V"⟩
abbrev cX4_leave : ByteArray := prog_6_method_4_code
def yX4_leave : MethodName := ⟨RX4, "leave", "()V"⟩
abbrev cX4_enterLetStep : ByteArray := prog_6_method_5_code
def yX4_enterLetStep : MethodName := ⟨RX4, "enterLetStep", "(II)V"⟩
abbrev cX4_settleLetStep : ByteArray := prog_6_method_6_code
def yX4_settleLetStep : MethodName := ⟨RX4, "settleLetStep", "(Z)V"⟩
abbrev cX4_firstTooFarIn : ByteArray := prog_6_method_7_code
def yX4_firstTooFarIn : MethodName := ⟨RX4, "firstTooFarIn", "()I"⟩
abbrev cX4_tokenOf : ByteArray := prog_6_method_8_code
def yX4_tokenOf : MethodName := ⟨RX4, "tokenOf", "(I)I"⟩
abbrev cX4_positionOf : ByteArray := prog_6_method_9_code
def yX4_positionOf : MethodName := ⟨RX4, "positionOf", "(I)I"⟩
abbrev cX4_add : ByteArray := prog_6_method_10_code
def yX4_add : MethodName := ⟨RX4, "add", "(II)V"⟩
def RX5 : String := "LayoutDesk$Parser"
def TX5 : u_T := fun k => match k with
  | 0 => ("LayoutDesk$Parser", "lexemes", "LLayoutDesk$Lexemes;", true)
  | 1 => ("LayoutDesk$Parser", "feed", "LLayoutDesk$Feed;", true)
  | 2 => ("LayoutDesk$Parser", "openings", "LLayoutDesk$Openings;", true)
  | 3 => ("LayoutDesk$Parser", "pile", "LLayoutDesk$Pile;", true)
  | 4 => ("LayoutDesk$Parser", "tree", "LLayoutDesk$Tree;", false)
  | 5 => ("LayoutDesk$Parser", "faultNumber", "I", false)
  | _ => ("LayoutDesk$Parser", "faultPlace", "I", false)
def tyX5 : Nat → FieldType := fun k => match k with
  | 0 => .object "LayoutDesk$Lexemes"
  | 1 => .object "LayoutDesk$Feed"
  | 2 => .object "LayoutDesk$Openings"
  | 3 => .object "LayoutDesk$Pile"
  | 4 => .object "LayoutDesk$Tree"
  | 5 => .int
  | _ => .int
abbrev wsX50 : List Cond := u_ws RX5 TX5 7
theorem nmX5 : ∀ a, a < 7 → ∀ b, b < 7 → a ≠ b → (TX5 a).2.1 ≠ (TX5 b).2.1 := by decide +kernel
theorem tyX5_ok : ∀ k, k < 7 → parseFieldDescriptor (TX5 k).2.2.1 = some (tyX5 k) := by decide +kernel
abbrev cX5_init : ByteArray := prog_7_method_1_code
def yX5_init : MethodName := ⟨RX5, "<init>", "(LLayoutDesk$Lexemes;LLayoutDesk$Feed;LLayoutDesk$Tree;)V"⟩
abbrev cX5_faultNumber : ByteArray := prog_7_method_2_code
def yX5_faultNumber : MethodName := ⟨RX5, "faultNumber", "()I"⟩
abbrev cX5_faultPlace : ByteArray := prog_7_method_3_code
def yX5_faultPlace : MethodName := ⟨RX5, "faultPlace", "()I"⟩
abbrev cX5_parse : ByteArray := prog_7_method_4_code
def yX5_parse : MethodName := ⟨RX5, "parse", "(LLayoutDesk$Tree;)V"⟩
abbrev cX5_refuse : ByteArray := prog_7_method_5_code
def yX5_refuse : MethodName := ⟨RX5, "refuse", "()V"⟩
abbrev cX5_refuseTooFarIn : ByteArray := prog_7_method_6_code
def yX5_refuseTooFarIn : MethodName := ⟨RX5, "refuseTooFarIn", "()V"⟩
abbrev cX5_meetPartOfBlock : ByteArray := prog_7_method_7_code
def yX5_meetPartOfBlock : MethodName := ⟨RX5, "meetPartOfBlock", "(II)V"⟩
abbrev cX5_meetPartOfThing : ByteArray := prog_7_method_8_code
def yX5_meetPartOfThing : MethodName := ⟨RX5, "meetPartOfThing", "(II)V"⟩
abbrev cX5_meetToken : ByteArray := prog_7_method_9_code
def yX5_meetToken : MethodName := ⟨RX5, "meetToken", "(I)V"⟩
abbrev cX5_takeLeaf : ByteArray := prog_7_method_10_code
def yX5_takeLeaf : MethodName := ⟨RX5, "takeLeaf", "(I)V"⟩
abbrev cX5_enter : ByteArray := prog_7_method_11_code
def yX5_enter : MethodName := ⟨RX5, "enter", "()V"⟩
abbrev cX5_openBlock : ByteArray := prog_7_method_12_code
def yX5_openBlock : MethodName := ⟨RX5, "openBlock", "(II)V"⟩
abbrev cX5_beginsThing : ByteArray := prog_7_method_13_code
def yX5_beginsThing : MethodName := ⟨RX5, "beginsThing", "(II)Z"⟩
abbrev cX5_meetThings : ByteArray := prog_7_method_14_code
def yX5_meetThings : MethodName := ⟨RX5, "meetThings", "(II)V"⟩
abbrev cX5_meetBehindThing : ByteArray := prog_7_method_15_code
def yX5_meetBehindThing : MethodName := ⟨RX5, "meetBehindThing", "(II)V"⟩
abbrev cX5_closeBlock : ByteArray := prog_7_method_16_code
def yX5_closeBlock : MethodName := ⟨RX5, "closeBlock", "(I)V"⟩
abbrev cX5_meetDeclaration : ByteArray := prog_7_method_17_code
def yX5_meetDeclaration : MethodName := ⟨RX5, "meetDeclaration", "()V"⟩
abbrev cX5_meetWhere : ByteArray := prog_7_method_18_code
def yX5_meetWhere : MethodName := ⟨RX5, "meetWhere", "()V"⟩
abbrev cX5_meetStep : ByteArray := prog_7_method_19_code
def yX5_meetStep : MethodName := ⟨RX5, "meetStep", "()V"⟩
abbrev cX5_meetTaking : ByteArray := prog_7_method_20_code
def yX5_meetTaking : MethodName := ⟨RX5, "meetTaking", "(I)V"⟩
abbrev cX5_meetLetting : ByteArray := prog_7_method_21_code
def yX5_meetLetting : MethodName := ⟨RX5, "meetLetting", "(I)V"⟩
abbrev cX5_meetPattern : ByteArray := prog_7_method_22_code
def yX5_meetPattern : MethodName := ⟨RX5, "meetPattern", "()V"⟩
abbrev cX5_meetPatterns : ByteArray := prog_7_method_23_code
def yX5_meetPatterns : MethodName := ⟨RX5, "meetPatterns", "()V"⟩
abbrev cX5_meetWholePattern : ByteArray := prog_7_method_24_code
def yX5_meetWholePattern : MethodName := ⟨RX5, "meetWholePattern", "()V"⟩
abbrev cX5_meetOperand : ByteArray := prog_7_method_25_code
def yX5_meetOperand : MethodName := ⟨RX5, "meetOperand", "()V"⟩
abbrev cX5_meetChain : ByteArray := prog_7_method_26_code
def yX5_meetChain : MethodName := ⟨RX5, "meetChain", "(I)V"⟩
abbrev cX5_meetLinks : ByteArray := prog_7_method_27_code
def yX5_meetLinks : MethodName := ⟨RX5, "meetLinks", "()V"⟩
abbrev cX5_meetApplied : ByteArray := prog_7_method_28_code
def yX5_meetApplied : MethodName := ⟨RX5, "meetApplied", "(I)V"⟩
abbrev cX5_meetAtoms : ByteArray := prog_7_method_29_code
def yX5_meetAtoms : MethodName := ⟨RX5, "meetAtoms", "()V"⟩
abbrev cX5_meetAtom : ByteArray := prog_7_method_30_code
def yX5_meetAtom : MethodName := ⟨RX5, "meetAtom", "()V"⟩
abbrev cX5_closerOf : ByteArray := prog_7_method_31_code
def yX5_closerOf : MethodName := ⟨RX5, "closerOf", "(I)I"⟩
abbrev cX5_meetRow : ByteArray := prog_7_method_32_code
def yX5_meetRow : MethodName := ⟨RX5, "meetRow", "(I)V"⟩
def RX6 : String := "LayoutDesk$Pile"
def TX6 : u_T := fun k => match k with
  | 0 => ("LayoutDesk$Pile", "dues", "[I", true)
  | 1 => ("LayoutDesk$Pile", "nodes", "[I", true)
  | _ => ("LayoutDesk$Pile", "size", "I", false)
def tyX6 : Nat → FieldType := fun k => match k with
  | 0 => .array .int
  | 1 => .array .int
  | _ => .int
abbrev wsX60 : List Cond := u_ws RX6 TX6 3
theorem nmX6 : ∀ a, a < 3 → ∀ b, b < 3 → a ≠ b → (TX6 a).2.1 ≠ (TX6 b).2.1 := by decide +kernel
theorem tyX6_ok : ∀ k, k < 3 → parseFieldDescriptor (TX6 k).2.2.1 = some (tyX6 k) := by decide +kernel
abbrev cX6_init : ByteArray := prog_8_method_1_code
def yX6_init : MethodName := ⟨RX6, "<init>", "()V"⟩
abbrev cX6_isEmpty : ByteArray := prog_8_method_2_code
def yX6_isEmpty : MethodName := ⟨RX6, "isEmpty", "()Z"⟩
abbrev cX6_empty : ByteArray := prog_8_method_3_code
def yX6_empty : MethodName := ⟨RX6, "empty", "()V"⟩
abbrev cX6_push : ByteArray := prog_8_method_4_code
def yX6_push : MethodName := ⟨RX6, "push", "(II)V"⟩
abbrev cX6_pushRow : ByteArray := prog_8_method_5_code
def yX6_pushRow : MethodName := ⟨RX6, "pushRow", "([III)V"⟩
abbrev cX6_topDue : ByteArray := prog_8_method_6_code
def yX6_topDue : MethodName := ⟨RX6, "topDue", "()I"⟩
abbrev cX6_topNode : ByteArray := prog_8_method_7_code
def yX6_topNode : MethodName := ⟨RX6, "topNode", "()I"⟩
abbrev cX6_pop : ByteArray := prog_8_method_8_code
def yX6_pop : MethodName := ⟨RX6, "pop", "()V"⟩
def RX7 : String := "LayoutDesk$Sort"
def TX7 : u_T := fun k => match k with
  | _ => ("", "", "", false)
def tyX7 : Nat → FieldType := fun k => match k with
  | _ => .int
abbrev wsX70 : List Cond := u_ws RX7 TX7 0
theorem nmX7 : ∀ a, a < 0 → ∀ b, b < 0 → a ≠ b → (TX7 a).2.1 ≠ (TX7 b).2.1 := by decide +kernel
theorem tyX7_ok : ∀ k, k < 0 → parseFieldDescriptor (TX7 k).2.2.1 = some (tyX7 k) := by decide +kernel
abbrev cX7_kindOf : ByteArray := prog_9_method_2_code
def yX7_kindOf : MethodName := ⟨RX7, "kindOf", "(I)I"⟩
abbrev cX7_opensBlock : ByteArray := prog_9_method_3_code
def yX7_opensBlock : MethodName := ⟨RX7, "opensBlock", "(I)Z"⟩
abbrev cX7_beginsPattern : ByteArray := prog_9_method_4_code
def yX7_beginsPattern : MethodName := ⟨RX7, "beginsPattern", "(I)Z"⟩
abbrev cX7_beginsAtom : ByteArray := prog_9_method_5_code
def yX7_beginsAtom : MethodName := ⟨RX7, "beginsAtom", "(I)Z"⟩
abbrev cX7_beginsExpression : ByteArray := prog_9_method_6_code
def yX7_beginsExpression : MethodName := ⟨RX7, "beginsExpression", "(I)Z"⟩
def RX8 : String := "LayoutDesk$Text"
def TX8 : u_T := fun k => match k with
  | 0 => ("LayoutDesk$Text", "bytes", "[C", true)
  | _ => ("LayoutDesk$Text", "length", "I", false)
def tyX8 : Nat → FieldType := fun k => match k with
  | 0 => .array .char
  | _ => .int
abbrev wsX80 : List Cond := u_ws RX8 TX8 2
theorem nmX8 : ∀ a, a < 2 → ∀ b, b < 2 → a ≠ b → (TX8 a).2.1 ≠ (TX8 b).2.1 := by decide +kernel
theorem tyX8_ok : ∀ k, k < 2 → parseFieldDescriptor (TX8 k).2.2.1 = some (tyX8 k) := by decide +kernel
abbrev cX8_init : ByteArray := prog_10_method_1_code
def yX8_init : MethodName := ⟨RX8, "<init>", "()V"⟩
abbrev cX8_length : ByteArray := prog_10_method_2_code
def yX8_length : MethodName := ⟨RX8, "length", "()I"⟩
abbrev cX8_hasRoom : ByteArray := prog_10_method_3_code
def yX8_hasRoom : MethodName := ⟨RX8, "hasRoom", "(I)Z"⟩
abbrev cX8_byteAt : ByteArray := prog_10_method_4_code
def yX8_byteAt : MethodName := ⟨RX8, "byteAt", "(I)I"⟩
abbrev cX8_append : ByteArray := prog_10_method_5_code
def yX8_append : MethodName := ⟨RX8, "append", "(I)V"⟩
abbrev cX8_set : ByteArray := prog_10_method_6_code
def yX8_set : MethodName := ⟨RX8, "set", "(II)V"⟩
abbrev cX8_empty : ByteArray := prog_10_method_7_code
def yX8_empty : MethodName := ⟨RX8, "empty", "()V"⟩
abbrev cX8_copyTo : ByteArray := prog_10_method_8_code
def yX8_copyTo : MethodName := ⟨RX8, "copyTo", "([C)V"⟩
abbrev cX8_become : ByteArray := prog_10_method_9_code
def yX8_become : MethodName := ⟨RX8, "become", "([CI)V"⟩
def RX9 : String := "LayoutDesk$Tree"
def TX9 : u_T := fun k => match k with
  | 0 => ("LayoutDesk$Tree", "kinds", "[I", true)
  | 1 => ("LayoutDesk$Tree", "sizes", "[I", true)
  | 2 => ("LayoutDesk$Tree", "parents", "[I", true)
  | 3 => ("LayoutDesk$Tree", "places", "[I", true)
  | 4 => ("LayoutDesk$Tree", "lengths", "[I", true)
  | 5 => ("LayoutDesk$Tree", "letters", "[C", true)
  | _ => ("LayoutDesk$Tree", "size", "I", false)
def tyX9 : Nat → FieldType := fun k => match k with
  | 0 => .array .int
  | 1 => .array .int
  | 2 => .array .int
  | 3 => .array .int
  | 4 => .array .int
  | 5 => .array .char
  | _ => .int
abbrev wsX90 : List Cond := u_ws RX9 TX9 7
theorem nmX9 : ∀ a, a < 7 → ∀ b, b < 7 → a ≠ b → (TX9 a).2.1 ≠ (TX9 b).2.1 := by decide +kernel
theorem tyX9_ok : ∀ k, k < 7 → parseFieldDescriptor (TX9 k).2.2.1 = some (tyX9 k) := by decide +kernel
abbrev cX9_init : ByteArray := prog_11_method_1_code
def yX9_init : MethodName := ⟨RX9, "<init>", "()V"⟩
abbrev cX9_size : ByteArray := prog_11_method_2_code
def yX9_size : MethodName := ⟨RX9, "size", "()I"⟩
abbrev cX9_has : ByteArray := prog_11_method_3_code
def yX9_has : MethodName := ⟨RX9, "has", "(I)Z"⟩
abbrev cX9_empty : ByteArray := prog_11_method_4_code
def yX9_empty : MethodName := ⟨RX9, "empty", "()V"⟩
abbrev cX9_add : ByteArray := prog_11_method_5_code
def yX9_add : MethodName := ⟨RX9, "add", "(I)I"⟩
abbrev cX9_addWritten : ByteArray := prog_11_method_6_code
def yX9_addWritten : MethodName := ⟨RX9, "addWritten", "(III)I"⟩
abbrev cX9_insert : ByteArray := prog_11_method_7_code
def yX9_insert : MethodName := ⟨RX9, "insert", "(II)V"⟩
abbrev cX9_close : ByteArray := prog_11_method_8_code
def yX9_close : MethodName := ⟨RX9, "close", "(I)V"⟩
abbrev cX9_setKind : ByteArray := prog_11_method_9_code
def yX9_setKind : MethodName := ⟨RX9, "setKind", "(II)V"⟩
abbrev cX9_isWholePattern : ByteArray := prog_11_method_10_code
def yX9_isWholePattern : MethodName := ⟨RX9, "isWholePattern", "(I)Z"⟩
abbrev cX9_keep : ByteArray := prog_11_method_11_code
def yX9_keep : MethodName := ⟨RX9, "keep", "(LLayoutDesk$Text;)V"⟩
abbrev cX9_kindOf : ByteArray := prog_11_method_12_code
def yX9_kindOf : MethodName := ⟨RX9, "kindOf", "(I)I"⟩
abbrev cX9_parentOf : ByteArray := prog_11_method_13_code
def yX9_parentOf : MethodName := ⟨RX9, "parentOf", "(I)I"⟩
abbrev cX9_sizeOf : ByteArray := prog_11_method_14_code
def yX9_sizeOf : MethodName := ⟨RX9, "sizeOf", "(I)I"⟩
abbrev cX9_endOf : ByteArray := prog_11_method_15_code
def yX9_endOf : MethodName := ⟨RX9, "endOf", "(I)I"⟩
abbrev cX9_nameLengthOf : ByteArray := prog_11_method_16_code
def yX9_nameLengthOf : MethodName := ⟨RX9, "nameLengthOf", "(I)I"⟩
abbrev cX9_nameByte : ByteArray := prog_11_method_17_code
def yX9_nameByte : MethodName := ⟨RX9, "nameByte", "(II)I"⟩
abbrev cX9_numberOf : ByteArray := prog_11_method_18_code
def yX9_numberOf : MethodName := ⟨RX9, "numberOf", "(I)I"⟩
abbrev cX9_part : ByteArray := prog_11_method_19_code
def yX9_part : MethodName := ⟨RX9, "part", "(II)I"⟩
abbrev cX9_writtenByte : ByteArray := prog_11_method_20_code
def yX9_writtenByte : MethodName := ⟨RX9, "writtenByte", "(II)I"⟩
def RX10 : String := "LayoutDesk$Writer"
def TX10 : u_T := fun k => match k with
  | 0 => ("LayoutDesk$Writer", "bytes", "[C", true)
  | 1 => ("LayoutDesk$Writer", "length", "I", false)
  | 2 => ("LayoutDesk$Writer", "tree", "LLayoutDesk$Tree;", false)
  | 3 => ("LayoutDesk$Writer", "byColumns", "Z", false)
  | 4 => ("LayoutDesk$Writer", "lineBegins", "Z", false)
  | _ => ("LayoutDesk$Writer", "blockEnded", "Z", false)
def tyX10 : Nat → FieldType := fun k => match k with
  | 0 => .array .char
  | 1 => .int
  | 2 => .object "LayoutDesk$Tree"
  | 3 => .boolean
  | 4 => .boolean
  | _ => .boolean
abbrev wsX100 : List Cond := u_ws RX10 TX10 6
theorem nmX10 : ∀ a, a < 6 → ∀ b, b < 6 → a ≠ b → (TX10 a).2.1 ≠ (TX10 b).2.1 := by decide +kernel
theorem tyX10_ok : ∀ k, k < 6 → parseFieldDescriptor (TX10 k).2.2.1 = some (tyX10 k) := by decide +kernel
abbrev cX10_init : ByteArray := prog_12_method_1_code
def yX10_init : MethodName := ⟨RX10, "<init>", "(LLayoutDesk$Tree;)V"⟩
abbrev cX10_compose : ByteArray := prog_12_method_2_code
def yX10_compose : MethodName := ⟨RX10, "compose", "(LLayoutDesk$Tree;Z)V"⟩
abbrev cX10_handOver : ByteArray := prog_12_method_3_code
def yX10_handOver : MethodName := ⟨RX10, "handOver", "(LLayoutDesk$Text;)Z"⟩
abbrev cX10_put : ByteArray := prog_12_method_4_code
def yX10_put : MethodName := ⟨RX10, "put", "(I)V"⟩
abbrev cX10_beginLine : ByteArray := prog_12_method_5_code
def yX10_beginLine : MethodName := ⟨RX10, "beginLine", "(I)V"⟩
abbrev cX10_beginToken : ByteArray := prog_12_method_6_code
def yX10_beginToken : MethodName := ⟨RX10, "beginToken", "(I)V"⟩
abbrev cX10_putWord : ByteArray := prog_12_method_7_code
def yX10_putWord : MethodName := ⟨RX10, "putWord", "(Ljava/lang/String;I)V"⟩
abbrev cX10_putName : ByteArray := prog_12_method_8_code
def yX10_putName : MethodName := ⟨RX10, "putName", "(II)V"⟩
abbrev cX10_putNumber : ByteArray := prog_12_method_9_code
def yX10_putNumber : MethodName := ⟨RX10, "putNumber", "(II)V"⟩
abbrev cX10_putLines : ByteArray := prog_12_method_10_code
def yX10_putLines : MethodName := ⟨RX10, "putLines", "(III)V"⟩
abbrev cX10_putBraces : ByteArray := prog_12_method_11_code
def yX10_putBraces : MethodName := ⟨RX10, "putBraces", "(III)V"⟩
abbrev cX10_putBlock : ByteArray := prog_12_method_12_code
def yX10_putBlock : MethodName := ⟨RX10, "putBlock", "(III)V"⟩
abbrev cX10_putParts : ByteArray := prog_12_method_13_code
def yX10_putParts : MethodName := ⟨RX10, "putParts", "(ILjava/lang/String;II)V"⟩
abbrev cX10_putBody : ByteArray := prog_12_method_14_code
def yX10_putBody : MethodName := ⟨RX10, "putBody", "(ILjava/lang/String;II)V"⟩
abbrev cX10_putWorded : ByteArray := prog_12_method_15_code
def yX10_putWorded : MethodName := ⟨RX10, "putWorded", "(ILjava/lang/String;Ljava/lang/String;Ljava/lang/String;II)V"⟩
abbrev cX10_putNode : ByteArray := prog_12_method_16_code
def yX10_putNode : MethodName := ⟨RX10, "putNode", "(III)V"⟩
abbrev cX10_putThing : ByteArray := prog_12_method_17_code
def yX10_putThing : MethodName := ⟨RX10, "putThing", "(III)V"⟩
def RX11 : String := "LayoutDesk"
def TX11 : u_T := fun k => match k with
  | 0 => ("LayoutDesk", "text", "LLayoutDesk$Text;", true)
  | 1 => ("LayoutDesk", "lexemes", "LLayoutDesk$Lexemes;", true)
  | 2 => ("LayoutDesk", "feed", "LLayoutDesk$Feed;", true)
  | 3 => ("LayoutDesk", "parser", "LLayoutDesk$Parser;", true)
  | 4 => ("LayoutDesk", "writer", "LLayoutDesk$Writer;", true)
  | 5 => ("LayoutDesk", "tree", "LLayoutDesk$Tree;", false)
  | 6 => ("LayoutDesk", "spare", "LLayoutDesk$Tree;", false)
  | 7 => ("LayoutDesk", "reads", "I", false)
  | _ => ("LayoutDesk", "latestFault", "I", false)
def tyX11 : Nat → FieldType := fun k => match k with
  | 0 => .object "LayoutDesk$Text"
  | 1 => .object "LayoutDesk$Lexemes"
  | 2 => .object "LayoutDesk$Feed"
  | 3 => .object "LayoutDesk$Parser"
  | 4 => .object "LayoutDesk$Writer"
  | 5 => .object "LayoutDesk$Tree"
  | 6 => .object "LayoutDesk$Tree"
  | 7 => .int
  | _ => .int
abbrev wsX110 : List Cond := u_ws RX11 TX11 9
theorem nmX11 : ∀ a, a < 9 → ∀ b, b < 9 → a ≠ b → (TX11 a).2.1 ≠ (TX11 b).2.1 := by decide +kernel
theorem tyX11_ok : ∀ k, k < 9 → parseFieldDescriptor (TX11 k).2.2.1 = some (tyX11 k) := by decide +kernel
abbrev cX11_init : ByteArray := prog_1_method_1_code
def yX11_init : MethodName := ⟨RX11, "<init>", "()V"⟩
abbrev cX11_type : ByteArray := prog_1_method_2_code
def yX11_type : MethodName := ⟨RX11, "type", "(JJI)I"⟩
abbrev cX11_space : ByteArray := prog_1_method_3_code
def yX11_space : MethodName := ⟨RX11, "space", "(ZI)I"⟩
abbrev cX11_clear : ByteArray := prog_1_method_4_code
def yX11_clear : MethodName := ⟨RX11, "clear", "()I"⟩
abbrev cX11_at : ByteArray := prog_1_method_5_code
def yX11_at : MethodName := ⟨RX11, "at", "(I)I"⟩
abbrev cX11_alter : ByteArray := prog_1_method_6_code
def yX11_alter : MethodName := ⟨RX11, "alter", "(II)I"⟩
abbrev cX11_read : ByteArray := prog_1_method_7_code
def yX11_read : MethodName := ⟨RX11, "read", "()I"⟩
abbrev cX11_fault : ByteArray := prog_1_method_8_code
def yX11_fault : MethodName := ⟨RX11, "fault", "()I"⟩
abbrev cX11_lexeme : ByteArray := prog_1_method_9_code
def yX11_lexeme : MethodName := ⟨RX11, "lexeme", "(II)I"⟩
abbrev cX11_token : ByteArray := prog_1_method_10_code
def yX11_token : MethodName := ⟨RX11, "token", "(I)I"⟩
abbrev cX11_count : ByteArray := prog_1_method_11_code
def yX11_count : MethodName := ⟨RX11, "count", "(I)I"⟩
abbrev cX11_node : ByteArray := prog_1_method_12_code
def yX11_node : MethodName := ⟨RX11, "node", "(II)I"⟩
abbrev cX11_letter : ByteArray := prog_1_method_13_code
def yX11_letter : MethodName := ⟨RX11, "letter", "(II)I"⟩
abbrev cX11_child : ByteArray := prog_1_method_14_code
def yX11_child : MethodName := ⟨RX11, "child", "(II)I"⟩
abbrev cX11_write : ByteArray := prog_1_method_15_code
def yX11_write : MethodName := ⟨RX11, "write", "(I)I"⟩
abbrev cX11_digest : ByteArray := prog_1_method_16_code
def yX11_digest : MethodName := ⟨RX11, "digest", "()J"⟩
def RX12 : String := "LayoutDeskModel"
def TX12 : u_T := fun k => match k with
  | 0 => ("LayoutDeskModel", "size", "I", false)
  | 1 => ("LayoutDeskModel", "text", "[I", true)
  | 2 => ("LayoutDeskModel", "lexemes", "I", false)
  | 3 => ("LayoutDeskModel", "places", "[I", true)
  | 4 => ("LayoutDeskModel", "columns", "[I", true)
  | 5 => ("LayoutDeskModel", "kinds", "[I", true)
  | 6 => ("LayoutDeskModel", "codes", "[I", true)
  | 7 => ("LayoutDeskModel", "sizes", "[I", true)
  | 8 => ("LayoutDeskModel", "openings", "[I", true)
  | 9 => ("LayoutDeskModel", "indents", "[I", true)
  | 10 => ("LayoutDeskModel", "numbers", "[I", true)
  | 11 => ("LayoutDeskModel", "letters", "[I", true)
  | 12 => ("LayoutDeskModel", "fault", "I", false)
  | 13 => ("LayoutDeskModel", "faultAt", "I", false)
  | 14 => ("LayoutDeskModel", "nodes", "I", false)
  | 15 => ("LayoutDeskModel", "nodeKind", "[I", true)
  | 16 => ("LayoutDeskModel", "nodeLexeme", "[I", true)
  | 17 => ("LayoutDeskModel", "nodeEnd", "[I", true)
  | 18 => ("LayoutDeskModel", "top", "I", false)
  | 19 => ("LayoutDeskModel", "level", "[I", true)
  | 20 => ("LayoutDeskModel", "phase", "[I", true)
  | 21 => ("LayoutDeskModel", "start", "[I", true)
  | 22 => ("LayoutDeskModel", "what", "[I", true)
  | 23 => ("LayoutDeskModel", "opened", "I", false)
  | 24 => ("LayoutDeskModel", "codeBehind", "I", false)
  | 25 => ("LayoutDeskModel", "tokens", "I", false)
  | 26 => ("LayoutDeskModel", "token", "[I", true)
  | 27 => ("LayoutDeskModel", "contexts", "I", false)
  | 28 => ("LayoutDeskModel", "context", "[I", true)
  | 29 => ("LayoutDeskModel", "hasTree", "Z", false)
  | 30 => ("LayoutDeskModel", "many", "I", false)
  | 31 => ("LayoutDeskModel", "treeKind", "[I", true)
  | 32 => ("LayoutDeskModel", "treeEnd", "[I", true)
  | 33 => ("LayoutDeskModel", "treeIn", "[I", true)
  | 34 => ("LayoutDeskModel", "treeNumber", "[I", true)
  | 35 => ("LayoutDeskModel", "treeSize", "[I", true)
  | 36 => ("LayoutDeskModel", "treeLetters", "[I", true)
  | 37 => ("LayoutDeskModel", "reads", "I", false)
  | 38 => ("LayoutDeskModel", "outs", "I", false)
  | 39 => ("LayoutDeskModel", "out", "[I", true)
  | 40 => ("LayoutDeskModel", "byColumns", "Z", false)
  | 41 => ("LayoutDeskModel", "isFresh", "Z", false)
  | 42 => ("LayoutDeskModel", "isBehind", "Z", false)
  | 43 => ("LayoutDeskModel", "column", "I", false)
  | 44 => ("LayoutDeskModel", "waits", "I", false)
  | _ => ("LayoutDeskModel", "waiting", "[I", true)
def tyX12 : Nat → FieldType := fun k => match k with
  | 0 => .int
  | 1 => .array .int
  | 2 => .int
  | 3 => .array .int
  | 4 => .array .int
  | 5 => .array .int
  | 6 => .array .int
  | 7 => .array .int
  | 8 => .array .int
  | 9 => .array .int
  | 10 => .array .int
  | 11 => .array .int
  | 12 => .int
  | 13 => .int
  | 14 => .int
  | 15 => .array .int
  | 16 => .array .int
  | 17 => .array .int
  | 18 => .int
  | 19 => .array .int
  | 20 => .array .int
  | 21 => .array .int
  | 22 => .array .int
  | 23 => .int
  | 24 => .int
  | 25 => .int
  | 26 => .array .int
  | 27 => .int
  | 28 => .array .int
  | 29 => .boolean
  | 30 => .int
  | 31 => .array .int
  | 32 => .array .int
  | 33 => .array .int
  | 34 => .array .int
  | 35 => .array .int
  | 36 => .array .int
  | 37 => .int
  | 38 => .int
  | 39 => .array .int
  | 40 => .boolean
  | 41 => .boolean
  | 42 => .boolean
  | 43 => .int
  | 44 => .int
  | _ => .array .int
abbrev wsX120 : List Cond := u_ws RX12 TX12 46
theorem nmX12 : ∀ a, a < 46 → ∀ b, b < 46 → a ≠ b → (TX12 a).2.1 ≠ (TX12 b).2.1 := by decide +kernel
theorem tyX12_ok : ∀ k, k < 46 → parseFieldDescriptor (TX12 k).2.2.1 = some (tyX12 k) := by decide +kernel
abbrev cX12_init : ByteArray := prog_14_method_1_code
def yX12_init : MethodName := ⟨RX12, "<init>", "()V"⟩
abbrev cX12_in : ByteArray := prog_14_method_3_code
def yX12_in : MethodName := ⟨RX12, "in", "(JJJ)Z"⟩
abbrev cX12_type : ByteArray := prog_14_method_4_code
def yX12_type : MethodName := ⟨RX12, "type", "(JJI)I"⟩
abbrev cX12_space : ByteArray := prog_14_method_5_code
def yX12_space : MethodName := ⟨RX12, "space", "(ZI)I"⟩
abbrev cX12_clear : ByteArray := prog_14_method_6_code
def yX12_clear : MethodName := ⟨RX12, "clear", "()I"⟩
abbrev cX12_at : ByteArray := prog_14_method_7_code
def yX12_at : MethodName := ⟨RX12, "at", "(I)I"⟩
abbrev cX12_alter : ByteArray := prog_14_method_8_code
def yX12_alter : MethodName := ⟨RX12, "alter", "(II)I"⟩
abbrev cX12_fails : ByteArray := prog_14_method_9_code
def yX12_fails : MethodName := ⟨RX12, "fails", "(II)Z"⟩
abbrev cX12_byteAt : ByteArray := prog_14_method_10_code
def yX12_byteAt : MethodName := ⟨RX12, "byteAt", "(I)I"⟩
abbrev cX12_isLow : ByteArray := prog_14_method_11_code
def yX12_isLow : MethodName := ⟨RX12, "isLow", "(I)Z"⟩
abbrev cX12_isHigh : ByteArray := prog_14_method_12_code
def yX12_isHigh : MethodName := ⟨RX12, "isHigh", "(I)Z"⟩
abbrev cX12_isFigure : ByteArray := prog_14_method_13_code
def yX12_isFigure : MethodName := ⟨RX12, "isFigure", "(I)Z"⟩
abbrev cX12_isOperator : ByteArray := prog_14_method_14_code
def yX12_isOperator : MethodName := ⟨RX12, "isOperator", "(I)Z"⟩
abbrev cX12_isSign : ByteArray := prog_14_method_15_code
def yX12_isSign : MethodName := ⟨RX12, "isSign", "(I)Z"⟩
abbrev cX12_wordOf : ByteArray := prog_14_method_16_code
def yX12_wordOf : MethodName := ⟨RX12, "wordOf", "(J)I"⟩
abbrev cX12_skips : ByteArray := prog_14_method_17_code
def yX12_skips : MethodName := ⟨RX12, "skips", "(I)I"⟩
abbrev cX12_isCut : ByteArray := prog_14_method_18_code
def yX12_isCut : MethodName := ⟨RX12, "isCut", "()Z"⟩
abbrev cX12_node : ByteArray := prog_14_method_19_code
def yX12_node : MethodName := ⟨RX12, "node", "(IIZ)I"⟩
abbrev cX12_wrap : ByteArray := prog_14_method_20_code
def yX12_wrap : MethodName := ⟨RX12, "wrap", "(II)V"⟩
abbrev cX12_push : ByteArray := prog_14_method_21_code
def yX12_push : MethodName := ⟨RX12, "push", "(III)V"⟩
abbrev cX12_isOpen : ByteArray := prog_14_method_22_code
def yX12_isOpen : MethodName := ⟨RX12, "isOpen", "(I)Z"⟩
abbrev cX12_beginsAtom : ByteArray := prog_14_method_23_code
def yX12_beginsAtom : MethodName := ⟨RX12, "beginsAtom", "(I)Z"⟩
abbrev cX12_beginsOperand : ByteArray := prog_14_method_24_code
def yX12_beginsOperand : MethodName := ⟨RX12, "beginsOperand", "(I)Z"⟩
abbrev cX12_beginsPattern : ByteArray := prog_14_method_25_code
def yX12_beginsPattern : MethodName := ⟨RX12, "beginsPattern", "(I)Z"⟩
abbrev cX12_isPattern : ByteArray := prog_14_method_26_code
def yX12_isPattern : MethodName := ⟨RX12, "isPattern", "(I)Z"⟩
abbrev cX12_accepts : ByteArray := prog_14_method_27_code
def yX12_accepts : MethodName := ⟨RX12, "accepts", "(III)Z"⟩
abbrev cX12_mayEnd : ByteArray := prog_14_method_28_code
def yX12_mayEnd : MethodName := ⟨RX12, "mayEnd", "(II)Z"⟩
abbrev cX12_after : ByteArray := prog_14_method_29_code
def yX12_after : MethodName := ⟨RX12, "after", "(I)I"⟩
abbrev cX12_finds : ByteArray := prog_14_method_30_code
def yX12_finds : MethodName := ⟨RX12, "finds", "(I)I"⟩
abbrev cX12_ends : ByteArray := prog_14_method_31_code
def yX12_ends : MethodName := ⟨RX12, "ends", "()V"⟩
abbrev cX12_within : ByteArray := prog_14_method_32_code
def yX12_within : MethodName := ⟨RX12, "within", "(I)I"⟩
abbrev cX12_leafs : ByteArray := prog_14_method_33_code
def yX12_leafs : MethodName := ⟨RX12, "leafs", "(II)V"⟩
abbrev cX12_opens : ByteArray := prog_14_method_34_code
def yX12_opens : MethodName := ⟨RX12, "opens", "(III)V"⟩
abbrev cX12_atom : ByteArray := prog_14_method_35_code
def yX12_atom : MethodName := ⟨RX12, "atom", "(II)V"⟩
abbrev cX12_pattern : ByteArray := prog_14_method_36_code
def yX12_pattern : MethodName := ⟨RX12, "pattern", "(II)V"⟩
abbrev cX12_whole : ByteArray := prog_14_method_37_code
def yX12_whole : MethodName := ⟨RX12, "whole", "(II)V"⟩
abbrev cX12_expects : ByteArray := prog_14_method_38_code
def yX12_expects : MethodName := ⟨RX12, "expects", "()V"⟩
abbrev cX12_operand : ByteArray := prog_14_method_39_code
def yX12_operand : MethodName := ⟨RX12, "operand", "(IIZ)V"⟩
abbrev cX12_begins : ByteArray := prog_14_method_40_code
def yX12_begins : MethodName := ⟨RX12, "begins", "(III)V"⟩
abbrev cX12_inBlock : ByteArray := prog_14_method_41_code
def yX12_inBlock : MethodName := ⟨RX12, "inBlock", "(III)V"⟩
abbrev cX12_inBrackets : ByteArray := prog_14_method_42_code
def yX12_inBrackets : MethodName := ⟨RX12, "inBrackets", "(III)V"⟩
abbrev cX12_goesTo : ByteArray := prog_14_method_43_code
def yX12_goesTo : MethodName := ⟨RX12, "goesTo", "(II)V"⟩
abbrev cX12_does : ByteArray := prog_14_method_44_code
def yX12_does : MethodName := ⟨RX12, "does", "(III)V"⟩
abbrev cX12_opensBy : ByteArray := prog_14_method_45_code
def yX12_opensBy : MethodName := ⟨RX12, "opensBy", "(I)Z"⟩
abbrev cX12_comes : ByteArray := prog_14_method_46_code
def yX12_comes : MethodName := ⟨RX12, "comes", "(IIII)Z"⟩
abbrev cX12_put : ByteArray := prog_14_method_47_code
def yX12_put : MethodName := ⟨RX12, "put", "(III)Z"⟩
abbrev cX12_now : ByteArray := prog_14_method_48_code
def yX12_now : MethodName := ⟨RX12, "now", "()I"⟩
abbrev cX12_behindOf : ByteArray := prog_14_method_49_code
def yX12_behindOf : MethodName := ⟨RX12, "behindOf", "(I)I"⟩
abbrev cX12_readLexeme : ByteArray := prog_14_method_50_code
def yX12_readLexeme : MethodName := ⟨RX12, "readLexeme", "(I)Z"⟩
abbrev cX12_isProgram : ByteArray := prog_14_method_51_code
def yX12_isProgram : MethodName := ⟨RX12, "isProgram", "()Z"⟩
abbrev cX12_takeTree : ByteArray := prog_14_method_52_code
def yX12_takeTree : MethodName := ⟨RX12, "takeTree", "()V"⟩
abbrev cX12_read : ByteArray := prog_14_method_53_code
def yX12_read : MethodName := ⟨RX12, "read", "()I"⟩
abbrev cX12_fault : ByteArray := prog_14_method_54_code
def yX12_fault : MethodName := ⟨RX12, "fault", "()I"⟩
abbrev cX12_lexeme : ByteArray := prog_14_method_55_code
def yX12_lexeme : MethodName := ⟨RX12, "lexeme", "(II)I"⟩
abbrev cX12_token : ByteArray := prog_14_method_56_code
def yX12_token : MethodName := ⟨RX12, "token", "(I)I"⟩
abbrev cX12_count : ByteArray := prog_14_method_57_code
def yX12_count : MethodName := ⟨RX12, "count", "(I)I"⟩
abbrev cX12_isNode : ByteArray := prog_14_method_58_code
def yX12_isNode : MethodName := ⟨RX12, "isNode", "(I)Z"⟩
abbrev cX12_node_ : ByteArray := prog_14_method_59_code
def yX12_node_ : MethodName := ⟨RX12, "node", "(II)I"⟩
abbrev cX12_letter : ByteArray := prog_14_method_60_code
def yX12_letter : MethodName := ⟨RX12, "letter", "(II)I"⟩
abbrev cX12_childOf : ByteArray := prog_14_method_61_code
def yX12_childOf : MethodName := ⟨RX12, "childOf", "(II)I"⟩
abbrev cX12_child : ByteArray := prog_14_method_62_code
def yX12_child : MethodName := ⟨RX12, "child", "(II)I"⟩
abbrev cX12_digest : ByteArray := prog_14_method_63_code
def yX12_digest : MethodName := ⟨RX12, "digest", "()J"⟩
abbrev cX12_say : ByteArray := prog_14_method_64_code
def yX12_say : MethodName := ⟨RX12, "say", "(I)V"⟩
abbrev cX12_line : ByteArray := prog_14_method_65_code
def yX12_line : MethodName := ⟨RX12, "line", "(I)V"⟩
abbrev cX12_gap : ByteArray := prog_14_method_66_code
def yX12_gap : MethodName := ⟨RX12, "gap", "()V"⟩
abbrev cX12_says : ByteArray := prog_14_method_67_code
def yX12_says : MethodName := ⟨RX12, "says", "(J)V"⟩
abbrev cX12_sayNumber : ByteArray := prog_14_method_68_code
def yX12_sayNumber : MethodName := ⟨RX12, "sayNumber", "(I)V"⟩
abbrev cX12_sayName : ByteArray := prog_14_method_69_code
def yX12_sayName : MethodName := ⟨RX12, "sayName", "(I)V"⟩
abbrev cX12_later : ByteArray := prog_14_method_70_code
def yX12_later : MethodName := ⟨RX12, "later", "(I)V"⟩
abbrev cX12_sayCode : ByteArray := prog_14_method_71_code
def yX12_sayCode : MethodName := ⟨RX12, "sayCode", "(I)V"⟩
abbrev cX12_manyIn : ByteArray := prog_14_method_72_code
def yX12_manyIn : MethodName := ⟨RX12, "manyIn", "(I)I"⟩
abbrev cX12_laterChildren : ByteArray := prog_14_method_73_code
def yX12_laterChildren : MethodName := ⟨RX12, "laterChildren", "(IIII)V"⟩
abbrev cX12_block : ByteArray := prog_14_method_74_code
def yX12_block : MethodName := ⟨RX12, "block", "(I)V"⟩
abbrev cX12_declares : ByteArray := prog_14_method_75_code
def yX12_declares : MethodName := ⟨RX12, "declares", "(I)V"⟩
abbrev cX12_tells : ByteArray := prog_14_method_76_code
def yX12_tells : MethodName := ⟨RX12, "tells", "(I)V"⟩
abbrev cX12_write : ByteArray := prog_14_method_77_code
def yX12_write : MethodName := ⟨RX12, "write", "(I)I"⟩
def RJ11 : String := "java/lang/Character"
def TJ11 : u_T := fun k => match k with
  | _ => ("", "", "", false)
def tyJ11 : Nat → FieldType := fun k => match k with
  | _ => .int
abbrev wsJ110 : List Cond := u_ws RJ11 TJ11 0
theorem nmJ11 : ∀ a, a < 0 → ∀ b, b < 0 → a ≠ b → (TJ11 a).2.1 ≠ (TJ11 b).2.1 := by decide +kernel
theorem tyJ11_ok : ∀ k, k < 0 → parseFieldDescriptor (TJ11 k).2.2.1 = some (tyJ11 k) := by decide +kernel
abbrev cJ11_isValidCodePoint_9a6ad : ByteArray := prog_15_method_11_code
def yJ11_isValidCodePoint_9a6ad : MethodName := ⟨RJ11, "isValidCodePoint", "(I)Z"⟩
abbrev cJ11_highSurrogate_5068e : ByteArray := prog_15_method_28_code
def yJ11_highSurrogate_5068e : MethodName := ⟨RJ11, "highSurrogate", "(I)C"⟩
abbrev cJ11_lowSurrogate_5068e : ByteArray := prog_15_method_29_code
def yJ11_lowSurrogate_5068e : MethodName := ⟨RJ11, "lowSurrogate", "(I)C"⟩
def RJ9 : String := "java/lang/Math"
def TJ9 : u_T := fun k => match k with
  | _ => ("", "", "", false)
def tyJ9 : Nat → FieldType := fun k => match k with
  | _ => .int
abbrev wsJ90 : List Cond := u_ws RJ9 TJ9 0
theorem nmJ9 : ∀ a, a < 0 → ∀ b, b < 0 → a ≠ b → (TJ9 a).2.1 ≠ (TJ9 b).2.1 := by decide +kernel
theorem tyJ9_ok : ∀ k, k < 0 → parseFieldDescriptor (TJ9 k).2.2.1 = some (tyJ9 k) := by decide +kernel
abbrev cJ9_max_7cf53 : ByteArray := prog_16_method_65_code
def yJ9_max_7cf53 : MethodName := ⟨RJ9, "max", "(II)I"⟩
abbrev cJ9_min_7cf53 : ByteArray := prog_16_method_69_code
def yJ9_min_7cf53 : MethodName := ⟨RJ9, "min", "(II)I"⟩
def RJ0 : String := "java/lang/String"
def TJ0 : u_T := fun k => match k with
  | _ => ("", "", "", false)
def tyJ0 : Nat → FieldType := fun k => match k with
  | _ => .int
abbrev wsJ00 : List Cond := u_ws RJ0 TJ0 0
theorem nmJ0 : ∀ a, a < 0 → ∀ b, b < 0 → a ≠ b → (TJ0 a).2.1 ≠ (TJ0 b).2.1 := by decide +kernel
theorem tyJ0_ok : ∀ k, k < 0 → parseFieldDescriptor (TJ0 k).2.2.1 = some (tyJ0 k) := by decide +kernel
abbrev cJ0_length_8abf5 : ByteArray := prog_17_method_54_code
def yJ0_length_8abf5 : MethodName := ⟨RJ0, "length", "()I"⟩
abbrev cJ0_isEmpty_aae02 : ByteArray := prog_17_method_55_code
def yJ0_isEmpty_aae02 : MethodName := ⟨RJ0, "isEmpty", "()Z"⟩
abbrev cJ0_charAt_5068e : ByteArray := prog_17_method_56_code
def yJ0_charAt_5068e : MethodName := ⟨RJ0, "charAt", "(I)C"⟩
abbrev cJ0_indexOf_0f7a4 : ByteArray := prog_17_method_79_code
def yJ0_indexOf_0f7a4 : MethodName := ⟨RJ0, "indexOf", "(I)I"⟩
abbrev cJ0_indexOf_7cf53 : ByteArray := prog_17_method_80_code
def yJ0_indexOf_7cf53 : MethodName := ⟨RJ0, "indexOf", "(II)I"⟩
abbrev cJ0_coder_7d493 : ByteArray := prog_17_method_152_code
def yJ0_coder_7d493 : MethodName := ⟨RJ0, "coder", "()B"⟩
abbrev cJ0_isLatin1_aae02 : ByteArray := prog_17_method_154_code
def yJ0_isLatin1_aae02 : MethodName := ⟨RJ0, "isLatin1", "()Z"⟩
abbrev cJ0_checkIndex_df160 : ByteArray := prog_17_method_155_code
def yJ0_checkIndex_df160 : MethodName := ⟨RJ0, "checkIndex", "(II)V"⟩
abbrev cJ0_checkBoundsBeginEnd_23922 : ByteArray := prog_17_method_158_code
def yJ0_checkBoundsBeginEnd_23922 : MethodName := ⟨RJ0, "checkBoundsBeginEnd", "(III)V"⟩
def RJ1 : String := "java/lang/StringLatin1"
def TJ1 : u_T := fun k => match k with
  | _ => ("", "", "", false)
def tyJ1 : Nat → FieldType := fun k => match k with
  | _ => .int
abbrev wsJ10 : List Cond := u_ws RJ1 TJ1 0
theorem nmJ1 : ∀ a, a < 0 → ∀ b, b < 0 → a ≠ b → (TJ1 a).2.1 ≠ (TJ1 b).2.1 := by decide +kernel
theorem tyJ1_ok : ∀ k, k < 0 → parseFieldDescriptor (TJ1 k).2.2.1 = some (tyJ1 k) := by decide +kernel
abbrev cJ1_charAt_3b067 : ByteArray := prog_18_method_2_code
def yJ1_charAt_3b067 : MethodName := ⟨RJ1, "charAt", "([BI)C"⟩
abbrev cJ1_canEncode_9a6ad : ByteArray := prog_18_method_4_code
def yJ1_canEncode_9a6ad : MethodName := ⟨RJ1, "canEncode", "(I)Z"⟩
abbrev cJ1_indexOf_4cfef : ByteArray := prog_18_method_22_code
def yJ1_indexOf_4cfef : MethodName := ⟨RJ1, "indexOf", "([BIII)I"⟩
abbrev cJ1_indexOfChar_4cfef : ByteArray := prog_18_method_23_code
def yJ1_indexOfChar_4cfef : MethodName := ⟨RJ1, "indexOfChar", "([BIII)I"⟩
def RJ2 : String := "java/lang/StringUTF16"
def TJ2 : u_T := fun k => match k with
  | _ => ("", "", "", false)
def tyJ2 : Nat → FieldType := fun k => match k with
  | _ => .int
abbrev wsJ20 : List Cond := u_ws RJ2 TJ2 0
theorem nmJ2 : ∀ a, a < 0 → ∀ b, b < 0 → a ≠ b → (TJ2 a).2.1 ≠ (TJ2 b).2.1 := by decide +kernel
theorem tyJ2_ok : ∀ k, k < 0 → parseFieldDescriptor (TJ2 k).2.2.1 = some (tyJ2 k) := by decide +kernel
abbrev cJ2_getChar_3b067 : ByteArray := prog_19_method_5_code
def yJ2_getChar_3b067 : MethodName := ⟨RJ2, "getChar", "([BI)C"⟩
abbrev cJ2_length_9d52b : ByteArray := prog_19_method_6_code
def yJ2_length_9d52b : MethodName := ⟨RJ2, "length", "([B)I"⟩
abbrev cJ2_indexOf_4cfef : ByteArray := prog_19_method_40_code
def yJ2_indexOf_4cfef : MethodName := ⟨RJ2, "indexOf", "([BIII)I"⟩
abbrev cJ2_indexOfChar_4cfef : ByteArray := prog_19_method_47_code
def yJ2_indexOfChar_4cfef : MethodName := ⟨RJ2, "indexOfChar", "([BIII)I"⟩
abbrev cJ2_indexOfCharUnsafe_4cfef : ByteArray := prog_19_method_48_code
def yJ2_indexOfCharUnsafe_4cfef : MethodName := ⟨RJ2, "indexOfCharUnsafe", "([BIII)I"⟩
abbrev cJ2_indexOfSupplementary_4cfef : ByteArray := prog_19_method_49_code
def yJ2_indexOfSupplementary_4cfef : MethodName := ⟨RJ2, "indexOfSupplementary", "([BIII)I"⟩
abbrev cJ2_charAt_3b067 : ByteArray := prog_19_method_83_code
def yJ2_charAt_3b067 : MethodName := ⟨RJ2, "charAt", "([BI)C"⟩
abbrev cJ2_checkIndex_2214a : ByteArray := prog_19_method_91_code
def yJ2_checkIndex_2214a : MethodName := ⟨RJ2, "checkIndex", "(I[B)V"⟩
abbrev cJ2_checkBoundsBeginEnd_d044e : ByteArray := prog_19_method_93_code
def yJ2_checkBoundsBeginEnd_d044e : MethodName := ⟨RJ2, "checkBoundsBeginEnd", "(II[B)V"⟩
def RJ10 : String := "java/lang/System"
def TJ10 : u_T := fun k => match k with
  | _ => ("", "", "", false)
def tyJ10 : Nat → FieldType := fun k => match k with
  | _ => .int
abbrev wsJ100 : List Cond := u_ws RJ10 TJ10 0
theorem nmJ10 : ∀ a, a < 0 → ∀ b, b < 0 → a ≠ b → (TJ10 a).2.1 ≠ (TJ10 b).2.1 := by decide +kernel
theorem tyJ10_ok : ∀ k, k < 0 → parseFieldDescriptor (TJ10 k).2.2.1 = some (tyJ10 k) := by decide +kernel
def RJ3 : String := "jdk/internal/util/Preconditions"
def TJ3 : u_T := fun k => match k with
  | _ => ("", "", "", false)
def tyJ3 : Nat → FieldType := fun k => match k with
  | _ => .int
abbrev wsJ30 : List Cond := u_ws RJ3 TJ3 0
theorem nmJ3 : ∀ a, a < 0 → ∀ b, b < 0 → a ≠ b → (TJ3 a).2.1 ≠ (TJ3 b).2.1 := by decide +kernel
theorem tyJ3_ok : ∀ k, k < 0 → parseFieldDescriptor (TJ3 k).2.2.1 = some (tyJ3 k) := by decide +kernel
abbrev cJ3_checkIndex_8e157 : ByteArray := prog_21_method_11_code
def yJ3_checkIndex_8e157 : MethodName := ⟨RJ3, "checkIndex", "(IILjava/util/function/BiFunction;)I"⟩
abbrev cJ3_checkFromToIndex_8c36e : ByteArray := prog_21_method_12_code
def yJ3_checkFromToIndex_8c36e : MethodName := ⟨RJ3, "checkFromToIndex", "(IIILjava/util/function/BiFunction;)I"⟩
def RL : String := "LayoutDeskLaw"
abbrev cL_law : ByteArray := code
def yL_law : MethodName := ⟨RL, "law", "([I)Z"⟩
theorem dX1_init_0 : decode cX1_init 0 = .ok (.aload_n 0, 1) := by decide +kernel
theorem dX1_init_1 : decode cX1_init 1 = .ok (.invokespecial 5, 3) := by decide +kernel
theorem dX1_init_4 : decode cX1_init 4 = .ok (.aload_n 0, 1) := by decide +kernel
theorem dX1_init_5 : decode cX1_init 5 = .ok (.aload_n 1, 1) := by decide +kernel
theorem dX1_init_6 : decode cX1_init 6 = .ok (.putfield 11, 3) := by decide +kernel
theorem dX1_init_9 : decode cX1_init 9 = .ok (.aload_n 0, 1) := by decide +kernel
theorem dX1_init_10 : decode cX1_init 10 = .ok (.sipush 3204, 3) := by decide +kernel
theorem dX1_init_13 : decode cX1_init 13 = .ok (.newarray .int, 2) := by decide +kernel
theorem dX1_init_15 : decode cX1_init 15 = .ok (.putfield 17, 3) := by decide +kernel
theorem dX1_init_18 : decode cX1_init 18 = .ok (.aload_n 0, 1) := by decide +kernel
theorem dX1_init_19 : decode cX1_init 19 = .ok (.sipush 801, 3) := by decide +kernel
theorem dX1_init_22 : decode cX1_init 22 = .ok (.newarray .int, 2) := by decide +kernel
theorem dX1_init_24 : decode cX1_init 24 = .ok (.putfield 21, 3) := by decide +kernel
theorem dX1_init_27 : decode cX1_init 27 = .ok (.return_, 1) := by decide +kernel
theorem dX1_size_0 : decode cX1_size 0 = .ok (.aload_n 0, 1) := by decide +kernel
theorem dX1_size_1 : decode cX1_size 1 = .ok (.getfield 24, 3) := by decide +kernel
theorem dX1_size_4 : decode cX1_size 4 = .ok (.ireturn, 1) := by decide +kernel
theorem dX1_position_0 : decode cX1_position 0 = .ok (.aload_n 0, 1) := by decide +kernel
theorem dX1_position_1 : decode cX1_position 1 = .ok (.getfield 28, 3) := by decide +kernel
theorem dX1_position_4 : decode cX1_position 4 = .ok (.ireturn, 1) := by decide +kernel
theorem dX1_tokenAt_0 : decode cX1_tokenAt 0 = .ok (.iload_n 1, 1) := by decide +kernel
theorem dX1_tokenAt_1 : decode cX1_tokenAt 1 = .ok (.ifCond .lt 20, 3) := by decide +kernel
theorem dX1_tokenAt_4 : decode cX1_tokenAt 4 = .ok (.iload_n 1, 1) := by decide +kernel
theorem dX1_tokenAt_5 : decode cX1_tokenAt 5 = .ok (.aload_n 0, 1) := by decide +kernel
theorem dX1_tokenAt_6 : decode cX1_tokenAt 6 = .ok (.getfield 24, 3) := by decide +kernel
theorem dX1_tokenAt_9 : decode cX1_tokenAt 9 = .ok (.if_icmp .ge 12, 3) := by decide +kernel
theorem dX1_tokenAt_21 : decode cX1_tokenAt 21 = .ok (.iconst (-1), 1) := by decide +kernel
theorem dX1_tokenAt_22 : decode cX1_tokenAt 22 = .ok (.ireturn, 1) := by decide +kernel
theorem dX1_empty_0 : decode cX1_empty 0 = .ok (.aload_n 0, 1) := by decide +kernel
theorem dX1_empty_1 : decode cX1_empty 1 = .ok (.iconst 0, 1) := by decide +kernel
theorem dX1_empty_2 : decode cX1_empty 2 = .ok (.putfield 24, 3) := by decide +kernel
theorem dX1_empty_5 : decode cX1_empty 5 = .ok (.return_, 1) := by decide +kernel
theorem dX1_start_0 : decode cX1_start 0 = .ok (.aload_n 0, 1) := by decide +kernel
theorem dX1_start_1 : decode cX1_start 1 = .ok (.iconst 0, 1) := by decide +kernel
theorem dX1_start_2 : decode cX1_start 2 = .ok (.putfield 24, 3) := by decide +kernel
theorem dX1_start_5 : decode cX1_start 5 = .ok (.aload_n 0, 1) := by decide +kernel
theorem dX1_start_6 : decode cX1_start 6 = .ok (.iconst 0, 1) := by decide +kernel
theorem dX1_start_7 : decode cX1_start 7 = .ok (.putfield 40, 3) := by decide +kernel
theorem dX1_start_10 : decode cX1_start 10 = .ok (.aload_n 0, 1) := by decide +kernel
theorem dX1_start_11 : decode cX1_start 11 = .ok (.iconst (-1), 1) := by decide +kernel
theorem dX1_start_12 : decode cX1_start 12 = .ok (.putfield 43, 3) := by decide +kernel
theorem dX1_start_15 : decode cX1_start 15 = .ok (.aload_n 0, 1) := by decide +kernel
theorem dX1_start_16 : decode cX1_start 16 = .ok (.iconst 0, 1) := by decide +kernel
theorem dX1_start_17 : decode cX1_start 17 = .ok (.putfield 28, 3) := by decide +kernel
theorem dX1_start_20 : decode cX1_start 20 = .ok (.aload_n 0, 1) := by decide +kernel
theorem dX1_start_21 : decode cX1_start 21 = .ok (.invokevirtual 46, 3) := by decide +kernel
theorem dX1_start_24 : decode cX1_start 24 = .ok (.return_, 1) := by decide +kernel
theorem dX1_sort_0 : decode cX1_sort 0 = .ok (.aload_n 0, 1) := by decide +kernel
theorem dX1_sort_1 : decode cX1_sort 1 = .ok (.getfield 49, 3) := by decide +kernel
theorem dX1_sort_4 : decode cX1_sort 4 = .ok (.tableswitch 53 1 3 #[34, 28, 31], 28) := by decide +kernel
theorem dX1_sort_32 : decode cX1_sort 32 = .ok (.bipush 10, 2) := by decide +kernel
theorem dX1_sort_34 : decode cX1_sort 34 = .ok (.ireturn, 1) := by decide +kernel
theorem dX1_sort_35 : decode cX1_sort 35 = .ok (.bipush 11, 2) := by decide +kernel
theorem dX1_sort_37 : decode cX1_sort 37 = .ok (.ireturn, 1) := by decide +kernel
theorem dX1_sort_57 : decode cX1_sort 57 = .ok (.aload_n 0, 1) := by decide +kernel
theorem dX1_sort_58 : decode cX1_sort 58 = .ok (.invokevirtual 57, 3) := by decide +kernel
theorem dX1_sort_61 : decode cX1_sort 61 = .ok (.ireturn, 1) := by decide +kernel
theorem dX1_take_0 : decode cX1_take 0 = .ok (.aload_n 0, 1) := by decide +kernel
theorem dX1_take_1 : decode cX1_take 1 = .ok (.getfield 49, 3) := by decide +kernel
theorem dX1_take_4 : decode cX1_take 4 = .ok (.tableswitch 60 1 3 #[53, 28, 35], 28) := by decide +kernel
theorem dX1_take_32 : decode cX1_take 32 = .ok (.aload_n 0, 1) := by decide +kernel
theorem dX1_take_33 : decode cX1_take 33 = .ok (.invokevirtual 61, 3) := by decide +kernel
theorem dX1_take_36 : decode cX1_take 36 = .ok (.goto 63, 3) := by decide +kernel
theorem dX1_take_39 : decode cX1_take 39 = .ok (.aload_n 0, 1) := by decide +kernel
theorem dX1_take_40 : decode cX1_take 40 = .ok (.bipush (-12), 2) := by decide +kernel
theorem dX1_take_42 : decode cX1_take 42 = .ok (.invokevirtual 64, 3) := by decide +kernel
theorem dX1_take_45 : decode cX1_take 45 = .ok (.aload_n 0, 1) := by decide +kernel
theorem dX1_take_46 : decode cX1_take 46 = .ok (.iconst 1, 1) := by decide +kernel
theorem dX1_take_47 : decode cX1_take 47 = .ok (.putfield 49, 3) := by decide +kernel
theorem dX1_take_50 : decode cX1_take 50 = .ok (.aload_n 0, 1) := by decide +kernel
theorem dX1_take_51 : decode cX1_take 51 = .ok (.invokevirtual 68, 3) := by decide +kernel
theorem dX1_take_54 : decode cX1_take 54 = .ok (.goto 45, 3) := by decide +kernel
theorem dX1_take_99 : decode cX1_take 99 = .ok (.return_, 1) := by decide +kernel
theorem dX1_plainSort_0 : decode cX1_plainSort 0 = .ok (.aload_n 0, 1) := by decide +kernel
theorem dX1_plainSort_1 : decode cX1_plainSort 1 = .ok (.getfield 28, 3) := by decide +kernel
theorem dX1_plainSort_4 : decode cX1_plainSort 4 = .ok (.aload_n 0, 1) := by decide +kernel
theorem dX1_plainSort_5 : decode cX1_plainSort 5 = .ok (.getfield 11, 3) := by decide +kernel
theorem dX1_plainSort_8 : decode cX1_plainSort 8 = .ok (.invokevirtual 74, 3) := by decide +kernel
theorem dX1_plainSort_11 : decode cX1_plainSort 11 = .ok (.if_icmp .lt 18, 3) := by decide +kernel
theorem dX1_plainSort_14 : decode cX1_plainSort 14 = .ok (.aload_n 0, 1) := by decide +kernel
theorem dX1_plainSort_15 : decode cX1_plainSort 15 = .ok (.getfield 43, 3) := by decide +kernel
theorem dX1_plainSort_18 : decode cX1_plainSort 18 = .ok (.ifCond .le 8, 3) := by decide +kernel
theorem dX1_plainSort_26 : decode cX1_plainSort 26 = .ok (.bipush 25, 2) := by decide +kernel
theorem dX1_plainSort_28 : decode cX1_plainSort 28 = .ok (.ireturn, 1) := by decide +kernel
theorem dX1_meetLexeme_0 : decode cX1_meetLexeme 0 = .ok (.aload_n 0, 1) := by decide +kernel
theorem dX1_meetLexeme_1 : decode cX1_meetLexeme 1 = .ok (.getfield 11, 3) := by decide +kernel
theorem dX1_meetLexeme_4 : decode cX1_meetLexeme 4 = .ok (.aload_n 0, 1) := by decide +kernel
theorem dX1_meetLexeme_5 : decode cX1_meetLexeme 5 = .ok (.getfield 28, 3) := by decide +kernel
theorem dX1_meetLexeme_8 : decode cX1_meetLexeme 8 = .ok (.invokevirtual 92, 3) := by decide +kernel
theorem dX1_meetLexeme_11 : decode cX1_meetLexeme 11 = .ok (.istore_n 1, 1) := by decide +kernel
theorem dX1_meetLexeme_12 : decode cX1_meetLexeme 12 = .ok (.aload_n 0, 1) := by decide +kernel
theorem dX1_meetLexeme_13 : decode cX1_meetLexeme 13 = .ok (.getfield 11, 3) := by decide +kernel
theorem dX1_meetLexeme_16 : decode cX1_meetLexeme 16 = .ok (.aload_n 0, 1) := by decide +kernel
theorem dX1_meetLexeme_17 : decode cX1_meetLexeme 17 = .ok (.getfield 28, 3) := by decide +kernel
theorem dX1_meetLexeme_20 : decode cX1_meetLexeme 20 = .ok (.invokevirtual 89, 3) := by decide +kernel
theorem dX1_meetLexeme_23 : decode cX1_meetLexeme 23 = .ok (.istore_n 2, 1) := by decide +kernel
theorem dX1_meetLexeme_24 : decode cX1_meetLexeme 24 = .ok (.iload_n 1, 1) := by decide +kernel
theorem dX1_meetLexeme_25 : decode cX1_meetLexeme 25 = .ok (.iconst (-1), 1) := by decide +kernel
theorem dX1_meetLexeme_26 : decode cX1_meetLexeme 26 = .ok (.if_icmp .eq 16, 3) := by decide +kernel
theorem dX1_meetLexeme_29 : decode cX1_meetLexeme 29 = .ok (.aload_n 0, 1) := by decide +kernel
theorem dX1_meetLexeme_30 : decode cX1_meetLexeme 30 = .ok (.iconst 2, 1) := by decide +kernel
theorem dX1_meetLexeme_31 : decode cX1_meetLexeme 31 = .ok (.putfield 49, 3) := by decide +kernel
theorem dX1_meetLexeme_34 : decode cX1_meetLexeme 34 = .ok (.aload_n 0, 1) := by decide +kernel
theorem dX1_meetLexeme_35 : decode cX1_meetLexeme 35 = .ok (.iload_n 1, 1) := by decide +kernel
theorem dX1_meetLexeme_36 : decode cX1_meetLexeme 36 = .ok (.putfield 54, 3) := by decide +kernel
theorem dX1_meetLexeme_39 : decode cX1_meetLexeme 39 = .ok (.goto 30, 3) := by decide +kernel
theorem dX1_meetLexeme_69 : decode cX1_meetLexeme 69 = .ok (.return_, 1) := by decide +kernel
theorem dX1_passIndent_0 : decode cX1_passIndent 0 = .ok (.aload_n 0, 1) := by decide +kernel
theorem dX1_passIndent_1 : decode cX1_passIndent 1 = .ok (.getfield 54, 3) := by decide +kernel
theorem dX1_passIndent_4 : decode cX1_passIndent 4 = .ok (.aload_n 0, 1) := by decide +kernel
theorem dX1_passIndent_5 : decode cX1_passIndent 5 = .ok (.getfield 43, 3) := by decide +kernel
theorem dX1_passIndent_8 : decode cX1_passIndent 8 = .ok (.if_icmp .le 8, 3) := by decide +kernel
theorem dX1_passIndent_11 : decode cX1_passIndent 11 = .ok (.aload_n 0, 1) := by decide +kernel
theorem dX1_passIndent_12 : decode cX1_passIndent 12 = .ok (.iconst 0, 1) := by decide +kernel
theorem dX1_passIndent_13 : decode cX1_passIndent 13 = .ok (.putfield 49, 3) := by decide +kernel
theorem dX1_passIndent_16 : decode cX1_passIndent 16 = .ok (.return_, 1) := by decide +kernel
theorem dX1_takeOpening_0 : decode cX1_takeOpening 0 = .ok (.aload_n 0, 1) := by decide +kernel
theorem dX1_takeOpening_1 : decode cX1_takeOpening 1 = .ok (.bipush (-10), 2) := by decide +kernel
theorem dX1_takeOpening_3 : decode cX1_takeOpening 3 = .ok (.invokevirtual 64, 3) := by decide +kernel
theorem dX1_takeOpening_6 : decode cX1_takeOpening 6 = .ok (.aload_n 0, 1) := by decide +kernel
theorem dX1_takeOpening_7 : decode cX1_takeOpening 7 = .ok (.getfield 54, 3) := by decide +kernel
theorem dX1_takeOpening_10 : decode cX1_takeOpening 10 = .ok (.iconst 0, 1) := by decide +kernel
theorem dX1_takeOpening_11 : decode cX1_takeOpening 11 = .ok (.aload_n 0, 1) := by decide +kernel
theorem dX1_takeOpening_12 : decode cX1_takeOpening 12 = .ok (.getfield 43, 3) := by decide +kernel
theorem dX1_takeOpening_15 : decode cX1_takeOpening 15 = .ok (.invokestatic 37, 3) := by decide +kernel
theorem dX1_takeOpening_18 : decode cX1_takeOpening 18 = .ok (.if_icmp .le 19, 3) := by decide +kernel
theorem dX1_takeOpening_37 : decode cX1_takeOpening 37 = .ok (.aload_n 0, 1) := by decide +kernel
theorem dX1_takeOpening_38 : decode cX1_takeOpening 38 = .ok (.iconst 3, 1) := by decide +kernel
theorem dX1_takeOpening_39 : decode cX1_takeOpening 39 = .ok (.putfield 49, 3) := by decide +kernel
theorem dX1_takeOpening_42 : decode cX1_takeOpening 42 = .ok (.return_, 1) := by decide +kernel
theorem dX1_keep_0 : decode cX1_keep 0 = .ok (.aload_n 0, 1) := by decide +kernel
theorem dX1_keep_1 : decode cX1_keep 1 = .ok (.getfield 24, 3) := by decide +kernel
theorem dX1_keep_4 : decode cX1_keep 4 = .ok (.sipush 3204, 3) := by decide +kernel
theorem dX1_keep_7 : decode cX1_keep 7 = .ok (.if_icmp .ge 23, 3) := by decide +kernel
theorem dX1_keep_10 : decode cX1_keep 10 = .ok (.aload_n 0, 1) := by decide +kernel
theorem dX1_keep_11 : decode cX1_keep 11 = .ok (.getfield 17, 3) := by decide +kernel
theorem dX1_keep_14 : decode cX1_keep 14 = .ok (.aload_n 0, 1) := by decide +kernel
theorem dX1_keep_15 : decode cX1_keep 15 = .ok (.getfield 24, 3) := by decide +kernel
theorem dX1_keep_18 : decode cX1_keep 18 = .ok (.iload_n 1, 1) := by decide +kernel
theorem dX1_keep_19 : decode cX1_keep 19 = .ok (.iastore, 1) := by decide +kernel
theorem dX1_keep_20 : decode cX1_keep 20 = .ok (.aload_n 0, 1) := by decide +kernel
theorem dX1_keep_21 : decode cX1_keep 21 = .ok (.dup, 1) := by decide +kernel
theorem dX1_keep_22 : decode cX1_keep 22 = .ok (.getfield 24, 3) := by decide +kernel
theorem dX1_keep_25 : decode cX1_keep 25 = .ok (.iconst 1, 1) := by decide +kernel
theorem dX1_keep_26 : decode cX1_keep 26 = .ok (.iadd, 1) := by decide +kernel
theorem dX1_keep_27 : decode cX1_keep 27 = .ok (.putfield 24, 3) := by decide +kernel
theorem dX1_keep_30 : decode cX1_keep 30 = .ok (.return_, 1) := by decide +kernel
theorem dX3_init_0 : decode cX3_init 0 = .ok (.aload_n 0, 1) := by decide +kernel
theorem dX3_init_1 : decode cX3_init 1 = .ok (.invokespecial 3, 3) := by decide +kernel
theorem dX3_init_4 : decode cX3_init 4 = .ok (.aload_n 0, 1) := by decide +kernel
theorem dX3_init_5 : decode cX3_init 5 = .ok (.aload_n 1, 1) := by decide +kernel
theorem dX3_init_6 : decode cX3_init 6 = .ok (.putfield 9, 3) := by decide +kernel
theorem dX3_init_9 : decode cX3_init 9 = .ok (.aload_n 0, 1) := by decide +kernel
theorem dX3_init_10 : decode cX3_init 10 = .ok (.sipush 800, 3) := by decide +kernel
theorem dX3_init_13 : decode cX3_init 13 = .ok (.newarray .int, 2) := by decide +kernel
theorem dX3_init_15 : decode cX3_init 15 = .ok (.putfield 15, 3) := by decide +kernel
theorem dX3_init_18 : decode cX3_init 18 = .ok (.aload_n 0, 1) := by decide +kernel
theorem dX3_init_19 : decode cX3_init 19 = .ok (.sipush 800, 3) := by decide +kernel
theorem dX3_init_22 : decode cX3_init 22 = .ok (.newarray .int, 2) := by decide +kernel
theorem dX3_init_24 : decode cX3_init 24 = .ok (.putfield 19, 3) := by decide +kernel
theorem dX3_init_27 : decode cX3_init 27 = .ok (.aload_n 0, 1) := by decide +kernel
theorem dX3_init_28 : decode cX3_init 28 = .ok (.sipush 800, 3) := by decide +kernel
theorem dX3_init_31 : decode cX3_init 31 = .ok (.newarray .int, 2) := by decide +kernel
theorem dX3_init_33 : decode cX3_init 33 = .ok (.putfield 22, 3) := by decide +kernel
theorem dX3_init_36 : decode cX3_init 36 = .ok (.aload_n 0, 1) := by decide +kernel
theorem dX3_init_37 : decode cX3_init 37 = .ok (.sipush 800, 3) := by decide +kernel
theorem dX3_init_40 : decode cX3_init 40 = .ok (.newarray .int, 2) := by decide +kernel
theorem dX3_init_42 : decode cX3_init 42 = .ok (.putfield 25, 3) := by decide +kernel
theorem dX3_init_45 : decode cX3_init 45 = .ok (.aload_n 0, 1) := by decide +kernel
theorem dX3_init_46 : decode cX3_init 46 = .ok (.sipush 800, 3) := by decide +kernel
theorem dX3_init_49 : decode cX3_init 49 = .ok (.newarray .int, 2) := by decide +kernel
theorem dX3_init_51 : decode cX3_init 51 = .ok (.putfield 28, 3) := by decide +kernel
theorem dX3_init_54 : decode cX3_init 54 = .ok (.aload_n 0, 1) := by decide +kernel
theorem dX3_init_55 : decode cX3_init 55 = .ok (.sipush 800, 3) := by decide +kernel
theorem dX3_init_58 : decode cX3_init 58 = .ok (.newarray .int, 2) := by decide +kernel
theorem dX3_init_60 : decode cX3_init 60 = .ok (.putfield 31, 3) := by decide +kernel
theorem dX3_init_63 : decode cX3_init 63 = .ok (.return_, 1) := by decide +kernel
theorem dX3_size_0 : decode cX3_size 0 = .ok (.aload_n 0, 1) := by decide +kernel
theorem dX3_size_1 : decode cX3_size 1 = .ok (.getfield 34, 3) := by decide +kernel
theorem dX3_size_4 : decode cX3_size 4 = .ok (.ireturn, 1) := by decide +kernel
theorem dX3_faultNumber_0 : decode cX3_faultNumber 0 = .ok (.aload_n 0, 1) := by decide +kernel
theorem dX3_faultNumber_1 : decode cX3_faultNumber 1 = .ok (.getfield 38, 3) := by decide +kernel
theorem dX3_faultNumber_4 : decode cX3_faultNumber 4 = .ok (.ireturn, 1) := by decide +kernel
theorem dX3_openingOf_0 : decode cX3_openingOf 0 = .ok (.iload_n 1, 1) := by decide +kernel
theorem dX3_openingOf_1 : decode cX3_openingOf 1 = .ok (.ifCond .lt 20, 3) := by decide +kernel
theorem dX3_openingOf_4 : decode cX3_openingOf 4 = .ok (.iload_n 1, 1) := by decide +kernel
theorem dX3_openingOf_5 : decode cX3_openingOf 5 = .ok (.aload_n 0, 1) := by decide +kernel
theorem dX3_openingOf_6 : decode cX3_openingOf 6 = .ok (.getfield 34, 3) := by decide +kernel
theorem dX3_openingOf_9 : decode cX3_openingOf 9 = .ok (.if_icmp .ge 12, 3) := by decide +kernel
theorem dX3_openingOf_21 : decode cX3_openingOf 21 = .ok (.aload_n 0, 1) := by decide +kernel
theorem dX3_openingOf_22 : decode cX3_openingOf 22 = .ok (.getfield 59, 3) := by decide +kernel
theorem dX3_openingOf_25 : decode cX3_openingOf 25 = .ok (.ireturn, 1) := by decide +kernel
theorem dX3_indentOf_0 : decode cX3_indentOf 0 = .ok (.iload_n 1, 1) := by decide +kernel
theorem dX3_indentOf_1 : decode cX3_indentOf 1 = .ok (.ifCond .lt 20, 3) := by decide +kernel
theorem dX3_indentOf_4 : decode cX3_indentOf 4 = .ok (.iload_n 1, 1) := by decide +kernel
theorem dX3_indentOf_5 : decode cX3_indentOf 5 = .ok (.aload_n 0, 1) := by decide +kernel
theorem dX3_indentOf_6 : decode cX3_indentOf 6 = .ok (.getfield 34, 3) := by decide +kernel
theorem dX3_indentOf_9 : decode cX3_indentOf 9 = .ok (.if_icmp .ge 12, 3) := by decide +kernel
theorem dX3_indentOf_21 : decode cX3_indentOf 21 = .ok (.iconst (-1), 1) := by decide +kernel
theorem dX3_indentOf_22 : decode cX3_indentOf 22 = .ok (.ireturn, 1) := by decide +kernel
theorem dX3_scan_0 : decode cX3_scan 0 = .ok (.aload_n 0, 1) := by decide +kernel
theorem dX3_scan_1 : decode cX3_scan 1 = .ok (.iconst 0, 1) := by decide +kernel
theorem dX3_scan_2 : decode cX3_scan 2 = .ok (.putfield 34, 3) := by decide +kernel
theorem dX3_scan_5 : decode cX3_scan 5 = .ok (.aload_n 0, 1) := by decide +kernel
theorem dX3_scan_6 : decode cX3_scan 6 = .ok (.iconst 0, 1) := by decide +kernel
theorem dX3_scan_7 : decode cX3_scan 7 = .ok (.putfield 38, 3) := by decide +kernel
theorem dX3_scan_10 : decode cX3_scan 10 = .ok (.aload_n 0, 1) := by decide +kernel
theorem dX3_scan_11 : decode cX3_scan 11 = .ok (.iconst 0, 1) := by decide +kernel
theorem dX3_scan_12 : decode cX3_scan 12 = .ok (.putfield 41, 3) := by decide +kernel
theorem dX3_scan_15 : decode cX3_scan 15 = .ok (.aload_n 0, 1) := by decide +kernel
theorem dX3_scan_16 : decode cX3_scan 16 = .ok (.iconst 0, 1) := by decide +kernel
theorem dX3_scan_17 : decode cX3_scan 17 = .ok (.putfield 62, 3) := by decide +kernel
theorem dX3_scan_20 : decode cX3_scan 20 = .ok (.aload_n 0, 1) := by decide +kernel
theorem dX3_scan_21 : decode cX3_scan 21 = .ok (.iconst 0, 1) := by decide +kernel
theorem dX3_scan_22 : decode cX3_scan 22 = .ok (.putfield 65, 3) := by decide +kernel
theorem dX3_scan_25 : decode cX3_scan 25 = .ok (.aload_n 0, 1) := by decide +kernel
theorem dX3_scan_26 : decode cX3_scan 26 = .ok (.iconst 0, 1) := by decide +kernel
theorem dX3_scan_27 : decode cX3_scan 27 = .ok (.putfield 68, 3) := by decide +kernel
theorem dX3_scan_30 : decode cX3_scan 30 = .ok (.aload_n 0, 1) := by decide +kernel
theorem dX3_scan_31 : decode cX3_scan 31 = .ok (.getfield 9, 3) := by decide +kernel
theorem dX3_scan_34 : decode cX3_scan 34 = .ok (.invokevirtual 44, 3) := by decide +kernel
theorem dX3_scan_37 : decode cX3_scan 37 = .ok (.istore_n 1, 1) := by decide +kernel
theorem dX3_scan_38 : decode cX3_scan 38 = .ok (.iconst 0, 1) := by decide +kernel
theorem dX3_scan_39 : decode cX3_scan 39 = .ok (.istore_n 2, 1) := by decide +kernel
theorem dX3_scan_40 : decode cX3_scan 40 = .ok (.iload_n 2, 1) := by decide +kernel
theorem dX3_scan_41 : decode cX3_scan 41 = .ok (.iload_n 1, 1) := by decide +kernel
theorem dX3_scan_42 : decode cX3_scan 42 = .ok (.if_icmp .ge 39, 3) := by decide +kernel
theorem dX3_scan_81 : decode cX3_scan 81 = .ok (.aload_n 0, 1) := by decide +kernel
theorem dX3_scan_82 : decode cX3_scan 82 = .ok (.aload_n 0, 1) := by decide +kernel
theorem dX3_scan_83 : decode cX3_scan 83 = .ok (.invokevirtual 79, 3) := by decide +kernel
theorem dX3_scan_86 : decode cX3_scan 86 = .ok (.ifCond .eq 7, 3) := by decide +kernel
theorem dX3_scan_89 : decode cX3_scan 89 = .ok (.iconst 0, 1) := by decide +kernel
theorem dX3_scan_90 : decode cX3_scan 90 = .ok (.goto 4, 3) := by decide +kernel
theorem dX3_scan_94 : decode cX3_scan 94 = .ok (.putfield 59, 3) := by decide +kernel
theorem dX3_scan_97 : decode cX3_scan 97 = .ok (.return_, 1) := by decide +kernel
theorem dX3_isBlockDue_0 : decode cX3_isBlockDue 0 = .ok (.aload_n 0, 1) := by decide +kernel
theorem dX3_isBlockDue_1 : decode cX3_isBlockDue 1 = .ok (.getfield 34, 3) := by decide +kernel
theorem dX3_isBlockDue_4 : decode cX3_isBlockDue 4 = .ok (.ifCond .eq 19, 3) := by decide +kernel
theorem dX3_isBlockDue_23 : decode cX3_isBlockDue 23 = .ok (.iconst 1, 1) := by decide +kernel
theorem dX3_isBlockDue_24 : decode cX3_isBlockDue 24 = .ok (.goto 4, 3) := by decide +kernel
theorem dX3_isBlockDue_28 : decode cX3_isBlockDue 28 = .ok (.ireturn, 1) := by decide +kernel
theorem dX4_init_0 : decode cX4_init 0 = .ok (.aload_n 0, 1) := by decide +kernel
theorem dX4_init_1 : decode cX4_init 1 = .ok (.invokespecial 5, 3) := by decide +kernel
theorem dX4_init_4 : decode cX4_init 4 = .ok (.aload_n 0, 1) := by decide +kernel
theorem dX4_init_5 : decode cX4_init 5 = .ok (.sipush 1602, 3) := by decide +kernel
theorem dX4_init_8 : decode cX4_init 8 = .ok (.newarray .int, 2) := by decide +kernel
theorem dX4_init_10 : decode cX4_init 10 = .ok (.putfield 13, 3) := by decide +kernel
theorem dX4_init_13 : decode cX4_init 13 = .ok (.aload_n 0, 1) := by decide +kernel
theorem dX4_init_14 : decode cX4_init 14 = .ok (.sipush 1602, 3) := by decide +kernel
theorem dX4_init_17 : decode cX4_init 17 = .ok (.newarray .int, 2) := by decide +kernel
theorem dX4_init_19 : decode cX4_init 19 = .ok (.putfield 17, 3) := by decide +kernel
theorem dX4_init_22 : decode cX4_init 22 = .ok (.aload_n 0, 1) := by decide +kernel
theorem dX4_init_23 : decode cX4_init 23 = .ok (.sipush 1602, 3) := by decide +kernel
theorem dX4_init_26 : decode cX4_init 26 = .ok (.newarray .int, 2) := by decide +kernel
theorem dX4_init_28 : decode cX4_init 28 = .ok (.putfield 20, 3) := by decide +kernel
theorem dX4_init_31 : decode cX4_init 31 = .ok (.aload_n 0, 1) := by decide +kernel
theorem dX4_init_32 : decode cX4_init 32 = .ok (.sipush 800, 3) := by decide +kernel
theorem dX4_init_35 : decode cX4_init 35 = .ok (.newarray .int, 2) := by decide +kernel
theorem dX4_init_37 : decode cX4_init 37 = .ok (.putfield 23, 3) := by decide +kernel
theorem dX4_init_40 : decode cX4_init 40 = .ok (.return_, 1) := by decide +kernel
theorem dX4_empty_0 : decode cX4_empty 0 = .ok (.aload_n 0, 1) := by decide +kernel
theorem dX4_empty_1 : decode cX4_empty 1 = .ok (.iconst 0, 1) := by decide +kernel
theorem dX4_empty_2 : decode cX4_empty 2 = .ok (.putfield 26, 3) := by decide +kernel
theorem dX4_empty_5 : decode cX4_empty 5 = .ok (.aload_n 0, 1) := by decide +kernel
theorem dX4_empty_6 : decode cX4_empty 6 = .ok (.iconst 0, 1) := by decide +kernel
theorem dX4_empty_7 : decode cX4_empty 7 = .ok (.putfield 30, 3) := by decide +kernel
theorem dX4_empty_10 : decode cX4_empty 10 = .ok (.aload_n 0, 1) := by decide +kernel
theorem dX4_empty_11 : decode cX4_empty 11 = .ok (.iconst 0, 1) := by decide +kernel
theorem dX4_empty_12 : decode cX4_empty 12 = .ok (.putfield 33, 3) := by decide +kernel
theorem dX4_empty_15 : decode cX4_empty 15 = .ok (.return_, 1) := by decide +kernel
theorem dX4_enter_0 : decode cX4_enter 0 = .ok (.aload_n 0, 1) := by decide +kernel
theorem dX4_enter_1 : decode cX4_enter 1 = .ok (.dup, 1) := by decide +kernel
theorem dX4_enter_2 : decode cX4_enter 2 = .ok (.getfield 33, 3) := by decide +kernel
theorem dX4_enter_5 : decode cX4_enter 5 = .ok (.iconst 1, 1) := by decide +kernel
theorem dX4_enter_6 : decode cX4_enter 6 = .ok (.iadd, 1) := by decide +kernel
theorem dX4_enter_7 : decode cX4_enter 7 = .ok (.putfield 33, 3) := by decide +kernel
theorem dX4_enter_10 : decode cX4_enter 10 = .ok (.aload_n 0, 1) := by decide +kernel
theorem dX4_enter_11 : decode cX4_enter 11 = .ok (.iload_n 1, 1) := by decide +kernel
theorem dX4_enter_12 : decode cX4_enter 12 = .ok (.iload_n 2, 1) := by decide +kernel
theorem dX4_enter_13 : decode cX4_enter 13 = .ok (.invokevirtual 36, 3) := by decide +kernel
theorem dX4_enter_16 : decode cX4_enter 16 = .ok (.return_, 1) := by decide +kernel
theorem dX4_leave_0 : decode cX4_leave 0 = .ok (.aload_n 0, 1) := by decide +kernel
theorem dX4_leave_1 : decode cX4_leave 1 = .ok (.dup, 1) := by decide +kernel
theorem dX4_leave_2 : decode cX4_leave 2 = .ok (.getfield 33, 3) := by decide +kernel
theorem dX4_leave_5 : decode cX4_leave 5 = .ok (.iconst 1, 1) := by decide +kernel
theorem dX4_leave_6 : decode cX4_leave 6 = .ok (.isub, 1) := by decide +kernel
theorem dX4_leave_7 : decode cX4_leave 7 = .ok (.putfield 33, 3) := by decide +kernel
theorem dX4_leave_10 : decode cX4_leave 10 = .ok (.return_, 1) := by decide +kernel
theorem dX4_firstTooFarIn_0 : decode cX4_firstTooFarIn 0 = .ok (.iconst 0, 1) := by decide +kernel
theorem dX4_firstTooFarIn_1 : decode cX4_firstTooFarIn 1 = .ok (.istore_n 1, 1) := by decide +kernel
theorem dX4_firstTooFarIn_2 : decode cX4_firstTooFarIn 2 = .ok (.iload_n 1, 1) := by decide +kernel
theorem dX4_firstTooFarIn_3 : decode cX4_firstTooFarIn 3 = .ok (.aload_n 0, 1) := by decide +kernel
theorem dX4_firstTooFarIn_4 : decode cX4_firstTooFarIn 4 = .ok (.getfield 26, 3) := by decide +kernel
theorem dX4_firstTooFarIn_7 : decode cX4_firstTooFarIn 7 = .ok (.if_icmp .ge 22, 3) := by decide +kernel
theorem dX4_firstTooFarIn_10 : decode cX4_firstTooFarIn 10 = .ok (.aload_n 0, 1) := by decide +kernel
theorem dX4_firstTooFarIn_11 : decode cX4_firstTooFarIn 11 = .ok (.getfield 13, 3) := by decide +kernel
theorem dX4_firstTooFarIn_14 : decode cX4_firstTooFarIn 14 = .ok (.iload_n 1, 1) := by decide +kernel
theorem dX4_firstTooFarIn_15 : decode cX4_firstTooFarIn 15 = .ok (.iaload, 1) := by decide +kernel
theorem dX4_firstTooFarIn_16 : decode cX4_firstTooFarIn 16 = .ok (.bipush 30, 2) := by decide +kernel
theorem dX4_firstTooFarIn_18 : decode cX4_firstTooFarIn 18 = .ok (.if_icmp .le 5, 3) := by decide +kernel
theorem dX4_firstTooFarIn_23 : decode cX4_firstTooFarIn 23 = .ok (.iinc 1 1, 3) := by decide +kernel
theorem dX4_firstTooFarIn_26 : decode cX4_firstTooFarIn 26 = .ok (.goto (-24), 3) := by decide +kernel
theorem dX4_firstTooFarIn_29 : decode cX4_firstTooFarIn 29 = .ok (.iconst (-1), 1) := by decide +kernel
theorem dX4_firstTooFarIn_30 : decode cX4_firstTooFarIn 30 = .ok (.ireturn, 1) := by decide +kernel
theorem dX4_add_0 : decode cX4_add 0 = .ok (.aload_n 0, 1) := by decide +kernel
theorem dX4_add_1 : decode cX4_add 1 = .ok (.getfield 26, 3) := by decide +kernel
theorem dX4_add_4 : decode cX4_add 4 = .ok (.sipush 1602, 3) := by decide +kernel
theorem dX4_add_7 : decode cX4_add 7 = .ok (.if_icmp .ge 46, 3) := by decide +kernel
theorem dX4_add_10 : decode cX4_add 10 = .ok (.aload_n 0, 1) := by decide +kernel
theorem dX4_add_11 : decode cX4_add 11 = .ok (.getfield 13, 3) := by decide +kernel
theorem dX4_add_14 : decode cX4_add 14 = .ok (.aload_n 0, 1) := by decide +kernel
theorem dX4_add_15 : decode cX4_add 15 = .ok (.getfield 26, 3) := by decide +kernel
theorem dX4_add_18 : decode cX4_add 18 = .ok (.aload_n 0, 1) := by decide +kernel
theorem dX4_add_19 : decode cX4_add 19 = .ok (.getfield 33, 3) := by decide +kernel
theorem dX4_add_22 : decode cX4_add 22 = .ok (.iastore, 1) := by decide +kernel
theorem dX4_add_23 : decode cX4_add 23 = .ok (.aload_n 0, 1) := by decide +kernel
theorem dX4_add_24 : decode cX4_add 24 = .ok (.getfield 17, 3) := by decide +kernel
theorem dX4_add_27 : decode cX4_add 27 = .ok (.aload_n 0, 1) := by decide +kernel
theorem dX4_add_28 : decode cX4_add 28 = .ok (.getfield 26, 3) := by decide +kernel
theorem dX4_add_31 : decode cX4_add 31 = .ok (.iload_n 1, 1) := by decide +kernel
theorem dX4_add_32 : decode cX4_add 32 = .ok (.iastore, 1) := by decide +kernel
theorem dX4_add_33 : decode cX4_add 33 = .ok (.aload_n 0, 1) := by decide +kernel
theorem dX4_add_34 : decode cX4_add 34 = .ok (.getfield 20, 3) := by decide +kernel
theorem dX4_add_37 : decode cX4_add 37 = .ok (.aload_n 0, 1) := by decide +kernel
theorem dX4_add_38 : decode cX4_add 38 = .ok (.getfield 26, 3) := by decide +kernel
theorem dX4_add_41 : decode cX4_add 41 = .ok (.iload_n 2, 1) := by decide +kernel
theorem dX4_add_42 : decode cX4_add 42 = .ok (.iastore, 1) := by decide +kernel
theorem dX4_add_43 : decode cX4_add 43 = .ok (.aload_n 0, 1) := by decide +kernel
theorem dX4_add_44 : decode cX4_add 44 = .ok (.dup, 1) := by decide +kernel
theorem dX4_add_45 : decode cX4_add 45 = .ok (.getfield 26, 3) := by decide +kernel
theorem dX4_add_48 : decode cX4_add 48 = .ok (.iconst 1, 1) := by decide +kernel
theorem dX4_add_49 : decode cX4_add 49 = .ok (.iadd, 1) := by decide +kernel
theorem dX4_add_50 : decode cX4_add 50 = .ok (.putfield 26, 3) := by decide +kernel
theorem dX4_add_53 : decode cX4_add 53 = .ok (.return_, 1) := by decide +kernel
theorem dX5_init_0 : decode cX5_init 0 = .ok (.aload_n 0, 1) := by decide +kernel
theorem dX5_init_1 : decode cX5_init 1 = .ok (.invokespecial 3, 3) := by decide +kernel
theorem dX5_init_4 : decode cX5_init 4 = .ok (.aload_n 0, 1) := by decide +kernel
theorem dX5_init_5 : decode cX5_init 5 = .ok (.aload_n 1, 1) := by decide +kernel
theorem dX5_init_6 : decode cX5_init 6 = .ok (.putfield 9, 3) := by decide +kernel
theorem dX5_init_9 : decode cX5_init 9 = .ok (.aload_n 0, 1) := by decide +kernel
theorem dX5_init_10 : decode cX5_init 10 = .ok (.aload_n 2, 1) := by decide +kernel
theorem dX5_init_11 : decode cX5_init 11 = .ok (.putfield 15, 3) := by decide +kernel
theorem dX5_init_14 : decode cX5_init 14 = .ok (.aload_n 0, 1) := by decide +kernel
theorem dX5_init_15 : decode cX5_init 15 = .ok (.new 19, 3) := by decide +kernel
theorem dX5_init_18 : decode cX5_init 18 = .ok (.dup, 1) := by decide +kernel
theorem dX5_init_19 : decode cX5_init 19 = .ok (.invokespecial 21, 3) := by decide +kernel
theorem dX5_init_22 : decode cX5_init 22 = .ok (.putfield 22, 3) := by decide +kernel
theorem dX5_init_25 : decode cX5_init 25 = .ok (.aload_n 0, 1) := by decide +kernel
theorem dX5_init_26 : decode cX5_init 26 = .ok (.new 26, 3) := by decide +kernel
theorem dX5_init_29 : decode cX5_init 29 = .ok (.dup, 1) := by decide +kernel
theorem dX5_init_30 : decode cX5_init 30 = .ok (.invokespecial 28, 3) := by decide +kernel
theorem dX5_init_33 : decode cX5_init 33 = .ok (.putfield 29, 3) := by decide +kernel
theorem dX5_init_36 : decode cX5_init 36 = .ok (.aload_n 0, 1) := by decide +kernel
theorem dX5_init_37 : decode cX5_init 37 = .ok (.aload_n 3, 1) := by decide +kernel
theorem dX5_init_38 : decode cX5_init 38 = .ok (.putfield 33, 3) := by decide +kernel
theorem dX5_init_41 : decode cX5_init 41 = .ok (.return_, 1) := by decide +kernel
theorem dX5_faultNumber_0 : decode cX5_faultNumber 0 = .ok (.aload_n 0, 1) := by decide +kernel
theorem dX5_faultNumber_1 : decode cX5_faultNumber 1 = .ok (.getfield 37, 3) := by decide +kernel
theorem dX5_faultNumber_4 : decode cX5_faultNumber 4 = .ok (.ireturn, 1) := by decide +kernel
theorem dX5_parse_0 : decode cX5_parse 0 = .ok (.aload_n 0, 1) := by decide +kernel
theorem dX5_parse_1 : decode cX5_parse 1 = .ok (.aload_n 1, 1) := by decide +kernel
theorem dX5_parse_2 : decode cX5_parse 2 = .ok (.putfield 33, 3) := by decide +kernel
theorem dX5_parse_5 : decode cX5_parse 5 = .ok (.aload_n 0, 1) := by decide +kernel
theorem dX5_parse_6 : decode cX5_parse 6 = .ok (.getfield 33, 3) := by decide +kernel
theorem dX5_parse_9 : decode cX5_parse 9 = .ok (.invokevirtual 44, 3) := by decide +kernel
theorem dX5_parse_12 : decode cX5_parse 12 = .ok (.aload_n 0, 1) := by decide +kernel
theorem dX5_parse_13 : decode cX5_parse 13 = .ok (.getfield 22, 3) := by decide +kernel
theorem dX5_parse_16 : decode cX5_parse 16 = .ok (.invokevirtual 49, 3) := by decide +kernel
theorem dX5_parse_19 : decode cX5_parse 19 = .ok (.aload_n 0, 1) := by decide +kernel
theorem dX5_parse_20 : decode cX5_parse 20 = .ok (.getfield 29, 3) := by decide +kernel
theorem dX5_parse_23 : decode cX5_parse 23 = .ok (.invokevirtual 50, 3) := by decide +kernel
theorem dX5_parse_26 : decode cX5_parse 26 = .ok (.aload_n 0, 1) := by decide +kernel
theorem dX5_parse_27 : decode cX5_parse 27 = .ok (.iconst 0, 1) := by decide +kernel
theorem dX5_parse_28 : decode cX5_parse 28 = .ok (.putfield 37, 3) := by decide +kernel
theorem dX5_parse_31 : decode cX5_parse 31 = .ok (.aload_n 0, 1) := by decide +kernel
theorem dX5_parse_32 : decode cX5_parse 32 = .ok (.iconst 0, 1) := by decide +kernel
theorem dX5_parse_33 : decode cX5_parse 33 = .ok (.putfield 41, 3) := by decide +kernel
theorem dX5_parse_36 : decode cX5_parse 36 = .ok (.aload_n 0, 1) := by decide +kernel
theorem dX5_parse_37 : decode cX5_parse 37 = .ok (.getfield 15, 3) := by decide +kernel
theorem dX5_parse_40 : decode cX5_parse 40 = .ok (.invokevirtual 51, 3) := by decide +kernel
theorem dX5_parse_43 : decode cX5_parse 43 = .ok (.aload_n 0, 1) := by decide +kernel
theorem dX5_parse_44 : decode cX5_parse 44 = .ok (.bipush 35, 2) := by decide +kernel
theorem dX5_parse_46 : decode cX5_parse 46 = .ok (.aload_n 0, 1) := by decide +kernel
theorem dX5_parse_47 : decode cX5_parse 47 = .ok (.getfield 33, 3) := by decide +kernel
theorem dX5_parse_50 : decode cX5_parse 50 = .ok (.iconst 0, 1) := by decide +kernel
theorem dX5_parse_51 : decode cX5_parse 51 = .ok (.invokevirtual 60, 3) := by decide +kernel
theorem dX5_parse_54 : decode cX5_parse 54 = .ok (.invokevirtual 64, 3) := by decide +kernel
theorem dX5_parse_57 : decode cX5_parse 57 = .ok (.iconst 0, 1) := by decide +kernel
theorem dX5_parse_58 : decode cX5_parse 58 = .ok (.istore_n 2, 1) := by decide +kernel
theorem dX5_parse_59 : decode cX5_parse 59 = .ok (.iload_n 2, 1) := by decide +kernel
theorem dX5_parse_60 : decode cX5_parse 60 = .ok (.ldc 68, 2) := by decide +kernel
theorem dX5_parse_62 : decode cX5_parse 62 = .ok (.if_icmp .ge 87, 3) := by decide +kernel
theorem dX5_parse_65 : decode cX5_parse 65 = .ok (.aload_n 0, 1) := by decide +kernel
theorem dX5_parse_66 : decode cX5_parse 66 = .ok (.getfield 29, 3) := by decide +kernel
theorem dX5_parse_69 : decode cX5_parse 69 = .ok (.invokevirtual 69, 3) := by decide +kernel
theorem dX5_parse_72 : decode cX5_parse 72 = .ok (.ifCond .ne 77, 3) := by decide +kernel
theorem dX5_parse_75 : decode cX5_parse 75 = .ok (.aload_n 0, 1) := by decide +kernel
theorem dX5_parse_76 : decode cX5_parse 76 = .ok (.getfield 37, 3) := by decide +kernel
theorem dX5_parse_79 : decode cX5_parse 79 = .ok (.ifCond .ne 70, 3) := by decide +kernel
theorem dX5_parse_82 : decode cX5_parse 82 = .ok (.aload_n 0, 1) := by decide +kernel
theorem dX5_parse_83 : decode cX5_parse 83 = .ok (.getfield 29, 3) := by decide +kernel
theorem dX5_parse_86 : decode cX5_parse 86 = .ok (.invokevirtual 73, 3) := by decide +kernel
theorem dX5_parse_89 : decode cX5_parse 89 = .ok (.istore_n 3, 1) := by decide +kernel
theorem dX5_parse_90 : decode cX5_parse 90 = .ok (.aload_n 0, 1) := by decide +kernel
theorem dX5_parse_91 : decode cX5_parse 91 = .ok (.getfield 29, 3) := by decide +kernel
theorem dX5_parse_94 : decode cX5_parse 94 = .ok (.invokevirtual 77, 3) := by decide +kernel
theorem dX5_parse_97 : decode cX5_parse 97 = .ok (.istore 4, 2) := by decide +kernel
theorem dX5_parse_99 : decode cX5_parse 99 = .ok (.aload_n 0, 1) := by decide +kernel
theorem dX5_parse_100 : decode cX5_parse 100 = .ok (.getfield 29, 3) := by decide +kernel
theorem dX5_parse_103 : decode cX5_parse 103 = .ok (.invokevirtual 80, 3) := by decide +kernel
theorem dX5_parse_106 : decode cX5_parse 106 = .ok (.iload_n 3, 1) := by decide +kernel
theorem dX5_parse_107 : decode cX5_parse 107 = .ok (.bipush 32, 2) := by decide +kernel
theorem dX5_parse_109 : decode cX5_parse 109 = .ok (.if_icmp .ge 11, 3) := by decide +kernel
theorem dX5_parse_120 : decode cX5_parse 120 = .ok (.iload_n 3, 1) := by decide +kernel
theorem dX5_parse_121 : decode cX5_parse 121 = .ok (.bipush 47, 2) := by decide +kernel
theorem dX5_parse_123 : decode cX5_parse 123 = .ok (.if_icmp .ge 13, 3) := by decide +kernel
theorem dX5_parse_126 : decode cX5_parse 126 = .ok (.aload_n 0, 1) := by decide +kernel
theorem dX5_parse_127 : decode cX5_parse 127 = .ok (.iload_n 3, 1) := by decide +kernel
theorem dX5_parse_128 : decode cX5_parse 128 = .ok (.iload 4, 2) := by decide +kernel
theorem dX5_parse_130 : decode cX5_parse 130 = .ok (.invokevirtual 87, 3) := by decide +kernel
theorem dX5_parse_133 : decode cX5_parse 133 = .ok (.goto 10, 3) := by decide +kernel
theorem dX5_parse_143 : decode cX5_parse 143 = .ok (.iinc 2 1, 3) := by decide +kernel
theorem dX5_parse_146 : decode cX5_parse 146 = .ok (.goto (-87), 3) := by decide +kernel
theorem dX5_parse_149 : decode cX5_parse 149 = .ok (.aload_n 0, 1) := by decide +kernel
theorem dX5_parse_150 : decode cX5_parse 150 = .ok (.getfield 37, 3) := by decide +kernel
theorem dX5_parse_153 : decode cX5_parse 153 = .ok (.ifCond .ne 19, 3) := by decide +kernel
theorem dX5_parse_156 : decode cX5_parse 156 = .ok (.aload_n 0, 1) := by decide +kernel
theorem dX5_parse_157 : decode cX5_parse 157 = .ok (.getfield 15, 3) := by decide +kernel
theorem dX5_parse_160 : decode cX5_parse 160 = .ok (.invokevirtual 93, 3) := by decide +kernel
theorem dX5_parse_163 : decode cX5_parse 163 = .ok (.bipush 25, 2) := by decide +kernel
theorem dX5_parse_165 : decode cX5_parse 165 = .ok (.if_icmp .eq 7, 3) := by decide +kernel
theorem dX5_parse_172 : decode cX5_parse 172 = .ok (.aload_n 0, 1) := by decide +kernel
theorem dX5_parse_173 : decode cX5_parse 173 = .ok (.invokevirtual 101, 3) := by decide +kernel
theorem dX5_parse_176 : decode cX5_parse 176 = .ok (.return_, 1) := by decide +kernel
theorem dX5_refuseTooFarIn_0 : decode cX5_refuseTooFarIn 0 = .ok (.aload_n 0, 1) := by decide +kernel
theorem dX5_refuseTooFarIn_1 : decode cX5_refuseTooFarIn 1 = .ok (.getfield 22, 3) := by decide +kernel
theorem dX5_refuseTooFarIn_4 : decode cX5_refuseTooFarIn 4 = .ok (.invokevirtual 112, 3) := by decide +kernel
theorem dX5_refuseTooFarIn_7 : decode cX5_refuseTooFarIn 7 = .ok (.istore_n 1, 1) := by decide +kernel
theorem dX5_refuseTooFarIn_8 : decode cX5_refuseTooFarIn 8 = .ok (.iload_n 1, 1) := by decide +kernel
theorem dX5_refuseTooFarIn_9 : decode cX5_refuseTooFarIn 9 = .ok (.iconst (-1), 1) := by decide +kernel
theorem dX5_refuseTooFarIn_10 : decode cX5_refuseTooFarIn 10 = .ok (.if_icmp .eq 42, 3) := by decide +kernel
theorem dX5_refuseTooFarIn_52 : decode cX5_refuseTooFarIn 52 = .ok (.return_, 1) := by decide +kernel
theorem dX5_meetPartOfBlock_0 : decode cX5_meetPartOfBlock 0 = .ok (.iload_n 1, 1) := by decide +kernel
theorem dX5_meetPartOfBlock_1 : decode cX5_meetPartOfBlock 1 = .ok (.tableswitch 199 32 45 #[71, 89, 107, 125, 125, 125, 134, 141, 165, 172, 172, 172, 184, 191], 71) := by decide +kernel
theorem dX5_meetPartOfBlock_126 : decode cX5_meetPartOfBlock 126 = .ok (.aload_n 0, 1) := by decide +kernel
theorem dX5_meetPartOfBlock_127 : decode cX5_meetPartOfBlock 127 = .ok (.iload_n 1, 1) := by decide +kernel
theorem dX5_meetPartOfBlock_128 : decode cX5_meetPartOfBlock 128 = .ok (.iload_n 2, 1) := by decide +kernel
theorem dX5_meetPartOfBlock_129 : decode cX5_meetPartOfBlock 129 = .ok (.invokevirtual 124, 3) := by decide +kernel
theorem dX5_meetPartOfBlock_132 : decode cX5_meetPartOfBlock 132 = .ok (.goto 73, 3) := by decide +kernel
theorem dX5_meetPartOfBlock_205 : decode cX5_meetPartOfBlock 205 = .ok (.return_, 1) := by decide +kernel
theorem dX5_enter_0 : decode cX5_enter 0 = .ok (.aload_n 0, 1) := by decide +kernel
theorem dX5_enter_1 : decode cX5_enter 1 = .ok (.getfield 22, 3) := by decide +kernel
theorem dX5_enter_4 : decode cX5_enter 4 = .ok (.aload_n 0, 1) := by decide +kernel
theorem dX5_enter_5 : decode cX5_enter 5 = .ok (.getfield 15, 3) := by decide +kernel
theorem dX5_enter_8 : decode cX5_enter 8 = .ok (.invokevirtual 209, 3) := by decide +kernel
theorem dX5_enter_11 : decode cX5_enter 11 = .ok (.aload_n 0, 1) := by decide +kernel
theorem dX5_enter_12 : decode cX5_enter 12 = .ok (.getfield 15, 3) := by decide +kernel
theorem dX5_enter_15 : decode cX5_enter 15 = .ok (.invokevirtual 104, 3) := by decide +kernel
theorem dX5_enter_18 : decode cX5_enter 18 = .ok (.invokevirtual 210, 3) := by decide +kernel
theorem dX5_enter_21 : decode cX5_enter 21 = .ok (.return_, 1) := by decide +kernel
theorem dX5_openBlock_0 : decode cX5_openBlock 0 = .ok (.aload_n 0, 1) := by decide +kernel
theorem dX5_openBlock_1 : decode cX5_openBlock 1 = .ok (.getfield 15, 3) := by decide +kernel
theorem dX5_openBlock_4 : decode cX5_openBlock 4 = .ok (.invokevirtual 93, 3) := by decide +kernel
theorem dX5_openBlock_7 : decode cX5_openBlock 7 = .ok (.bipush 10, 2) := by decide +kernel
theorem dX5_openBlock_9 : decode cX5_openBlock 9 = .ok (.if_icmp .eq 8, 3) := by decide +kernel
theorem dX5_openBlock_17 : decode cX5_openBlock 17 = .ok (.aload_n 0, 1) := by decide +kernel
theorem dX5_openBlock_18 : decode cX5_openBlock 18 = .ok (.invokevirtual 213, 3) := by decide +kernel
theorem dX5_openBlock_21 : decode cX5_openBlock 21 = .ok (.aload_n 0, 1) := by decide +kernel
theorem dX5_openBlock_22 : decode cX5_openBlock 22 = .ok (.getfield 15, 3) := by decide +kernel
theorem dX5_openBlock_25 : decode cX5_openBlock 25 = .ok (.invokevirtual 199, 3) := by decide +kernel
theorem dX5_openBlock_28 : decode cX5_openBlock 28 = .ok (.aload_n 0, 1) := by decide +kernel
theorem dX5_openBlock_29 : decode cX5_openBlock 29 = .ok (.getfield 29, 3) := by decide +kernel
theorem dX5_openBlock_32 : decode cX5_openBlock 32 = .ok (.iload_n 1, 1) := by decide +kernel
theorem dX5_openBlock_33 : decode cX5_openBlock 33 = .ok (.iload_n 2, 1) := by decide +kernel
theorem dX5_openBlock_34 : decode cX5_openBlock 34 = .ok (.invokevirtual 165, 3) := by decide +kernel
theorem dX5_openBlock_37 : decode cX5_openBlock 37 = .ok (.return_, 1) := by decide +kernel
theorem dX5_beginsThing_0 : decode cX5_beginsThing 0 = .ok (.iload_n 0, 1) := by decide +kernel
theorem dX5_beginsThing_1 : decode cX5_beginsThing 1 = .ok (.lookupswitch 42 #[(35, 27), (36, 37)], 27) := by decide +kernel
theorem dX5_beginsThing_28 : decode cX5_beginsThing 28 = .ok (.iload_n 1, 1) := by decide +kernel
theorem dX5_beginsThing_29 : decode cX5_beginsThing 29 = .ok (.ifCond .ne 7, 3) := by decide +kernel
theorem dX5_beginsThing_36 : decode cX5_beginsThing 36 = .ok (.iconst 0, 1) := by decide +kernel
theorem dX5_beginsThing_37 : decode cX5_beginsThing 37 = .ok (.ireturn, 1) := by decide +kernel
theorem dX5_meetThings_0 : decode cX5_meetThings 0 = .ok (.iload_n 1, 1) := by decide +kernel
theorem dX5_meetThings_1 : decode cX5_meetThings 1 = .ok (.aload_n 0, 1) := by decide +kernel
theorem dX5_meetThings_2 : decode cX5_meetThings 2 = .ok (.getfield 15, 3) := by decide +kernel
theorem dX5_meetThings_5 : decode cX5_meetThings 5 = .ok (.invokevirtual 93, 3) := by decide +kernel
theorem dX5_meetThings_8 : decode cX5_meetThings 8 = .ok (.invokestatic 221, 3) := by decide +kernel
theorem dX5_meetThings_11 : decode cX5_meetThings 11 = .ok (.ifCond .eq 29, 3) := by decide +kernel
theorem dX5_meetThings_40 : decode cX5_meetThings 40 = .ok (.aload_n 0, 1) := by decide +kernel
theorem dX5_meetThings_41 : decode cX5_meetThings 41 = .ok (.iload_n 1, 1) := by decide +kernel
theorem dX5_meetThings_42 : decode cX5_meetThings 42 = .ok (.iload_n 2, 1) := by decide +kernel
theorem dX5_meetThings_43 : decode cX5_meetThings 43 = .ok (.invokevirtual 141, 3) := by decide +kernel
theorem dX5_meetThings_46 : decode cX5_meetThings 46 = .ok (.return_, 1) := by decide +kernel
theorem dX5_meetBehindThing_0 : decode cX5_meetBehindThing 0 = .ok (.aload_n 0, 1) := by decide +kernel
theorem dX5_meetBehindThing_1 : decode cX5_meetBehindThing 1 = .ok (.getfield 15, 3) := by decide +kernel
theorem dX5_meetBehindThing_4 : decode cX5_meetBehindThing 4 = .ok (.invokevirtual 93, 3) := by decide +kernel
theorem dX5_meetBehindThing_7 : decode cX5_meetBehindThing 7 = .ok (.istore_n 3, 1) := by decide +kernel
theorem dX5_meetBehindThing_8 : decode cX5_meetBehindThing 8 = .ok (.iload_n 3, 1) := by decide +kernel
theorem dX5_meetBehindThing_9 : decode cX5_meetBehindThing 9 = .ok (.bipush 9, 2) := by decide +kernel
theorem dX5_meetBehindThing_11 : decode cX5_meetBehindThing 11 = .ok (.if_icmp .ne 22, 3) := by decide +kernel
theorem dX5_meetBehindThing_33 : decode cX5_meetBehindThing 33 = .ok (.iload_n 3, 1) := by decide +kernel
theorem dX5_meetBehindThing_34 : decode cX5_meetBehindThing 34 = .ok (.bipush 11, 2) := by decide +kernel
theorem dX5_meetBehindThing_36 : decode cX5_meetBehindThing 36 = .ok (.if_icmp .ne 18, 3) := by decide +kernel
theorem dX5_meetBehindThing_39 : decode cX5_meetBehindThing 39 = .ok (.aload_n 0, 1) := by decide +kernel
theorem dX5_meetBehindThing_40 : decode cX5_meetBehindThing 40 = .ok (.getfield 15, 3) := by decide +kernel
theorem dX5_meetBehindThing_43 : decode cX5_meetBehindThing 43 = .ok (.invokevirtual 199, 3) := by decide +kernel
theorem dX5_meetBehindThing_46 : decode cX5_meetBehindThing 46 = .ok (.aload_n 0, 1) := by decide +kernel
theorem dX5_meetBehindThing_47 : decode cX5_meetBehindThing 47 = .ok (.iload_n 2, 1) := by decide +kernel
theorem dX5_meetBehindThing_48 : decode cX5_meetBehindThing 48 = .ok (.invokevirtual 225, 3) := by decide +kernel
theorem dX5_meetBehindThing_51 : decode cX5_meetBehindThing 51 = .ok (.goto 25, 3) := by decide +kernel
theorem dX5_meetBehindThing_76 : decode cX5_meetBehindThing 76 = .ok (.return_, 1) := by decide +kernel
theorem dX5_closeBlock_0 : decode cX5_closeBlock 0 = .ok (.aload_n 0, 1) := by decide +kernel
theorem dX5_closeBlock_1 : decode cX5_closeBlock 1 = .ok (.getfield 33, 3) := by decide +kernel
theorem dX5_closeBlock_4 : decode cX5_closeBlock 4 = .ok (.iload_n 1, 1) := by decide +kernel
theorem dX5_closeBlock_5 : decode cX5_closeBlock 5 = .ok (.invokevirtual 189, 3) := by decide +kernel
theorem dX5_closeBlock_8 : decode cX5_closeBlock 8 = .ok (.aload_n 0, 1) := by decide +kernel
theorem dX5_closeBlock_9 : decode cX5_closeBlock 9 = .ok (.getfield 22, 3) := by decide +kernel
theorem dX5_closeBlock_12 : decode cX5_closeBlock 12 = .ok (.invokevirtual 192, 3) := by decide +kernel
theorem dX5_closeBlock_15 : decode cX5_closeBlock 15 = .ok (.return_, 1) := by decide +kernel
theorem dX6_init_0 : decode cX6_init 0 = .ok (.aload_n 0, 1) := by decide +kernel
theorem dX6_init_1 : decode cX6_init 1 = .ok (.invokespecial 5, 3) := by decide +kernel
theorem dX6_init_4 : decode cX6_init 4 = .ok (.aload_n 0, 1) := by decide +kernel
theorem dX6_init_5 : decode cX6_init 5 = .ok (.sipush 4812, 3) := by decide +kernel
theorem dX6_init_8 : decode cX6_init 8 = .ok (.newarray .int, 2) := by decide +kernel
theorem dX6_init_10 : decode cX6_init 10 = .ok (.putfield 13, 3) := by decide +kernel
theorem dX6_init_13 : decode cX6_init 13 = .ok (.aload_n 0, 1) := by decide +kernel
theorem dX6_init_14 : decode cX6_init 14 = .ok (.sipush 4812, 3) := by decide +kernel
theorem dX6_init_17 : decode cX6_init 17 = .ok (.newarray .int, 2) := by decide +kernel
theorem dX6_init_19 : decode cX6_init 19 = .ok (.putfield 17, 3) := by decide +kernel
theorem dX6_init_22 : decode cX6_init 22 = .ok (.return_, 1) := by decide +kernel
theorem dX6_isEmpty_0 : decode cX6_isEmpty 0 = .ok (.aload_n 0, 1) := by decide +kernel
theorem dX6_isEmpty_1 : decode cX6_isEmpty 1 = .ok (.getfield 20, 3) := by decide +kernel
theorem dX6_isEmpty_4 : decode cX6_isEmpty 4 = .ok (.ifCond .gt 7, 3) := by decide +kernel
theorem dX6_isEmpty_7 : decode cX6_isEmpty 7 = .ok (.iconst 1, 1) := by decide +kernel
theorem dX6_isEmpty_8 : decode cX6_isEmpty 8 = .ok (.goto 4, 3) := by decide +kernel
theorem dX6_isEmpty_11 : decode cX6_isEmpty 11 = .ok (.iconst 0, 1) := by decide +kernel
theorem dX6_isEmpty_12 : decode cX6_isEmpty 12 = .ok (.ireturn, 1) := by decide +kernel
theorem dX6_empty_0 : decode cX6_empty 0 = .ok (.aload_n 0, 1) := by decide +kernel
theorem dX6_empty_1 : decode cX6_empty 1 = .ok (.iconst 0, 1) := by decide +kernel
theorem dX6_empty_2 : decode cX6_empty 2 = .ok (.putfield 20, 3) := by decide +kernel
theorem dX6_empty_5 : decode cX6_empty 5 = .ok (.return_, 1) := by decide +kernel
theorem dX6_push_0 : decode cX6_push 0 = .ok (.aload_n 0, 1) := by decide +kernel
theorem dX6_push_1 : decode cX6_push 1 = .ok (.getfield 20, 3) := by decide +kernel
theorem dX6_push_4 : decode cX6_push 4 = .ok (.sipush 4812, 3) := by decide +kernel
theorem dX6_push_7 : decode cX6_push 7 = .ok (.if_icmp .ge 33, 3) := by decide +kernel
theorem dX6_push_10 : decode cX6_push 10 = .ok (.aload_n 0, 1) := by decide +kernel
theorem dX6_push_11 : decode cX6_push 11 = .ok (.getfield 13, 3) := by decide +kernel
theorem dX6_push_14 : decode cX6_push 14 = .ok (.aload_n 0, 1) := by decide +kernel
theorem dX6_push_15 : decode cX6_push 15 = .ok (.getfield 20, 3) := by decide +kernel
theorem dX6_push_18 : decode cX6_push 18 = .ok (.iload_n 1, 1) := by decide +kernel
theorem dX6_push_19 : decode cX6_push 19 = .ok (.iastore, 1) := by decide +kernel
theorem dX6_push_20 : decode cX6_push 20 = .ok (.aload_n 0, 1) := by decide +kernel
theorem dX6_push_21 : decode cX6_push 21 = .ok (.getfield 17, 3) := by decide +kernel
theorem dX6_push_24 : decode cX6_push 24 = .ok (.aload_n 0, 1) := by decide +kernel
theorem dX6_push_25 : decode cX6_push 25 = .ok (.getfield 20, 3) := by decide +kernel
theorem dX6_push_28 : decode cX6_push 28 = .ok (.iload_n 2, 1) := by decide +kernel
theorem dX6_push_29 : decode cX6_push 29 = .ok (.iastore, 1) := by decide +kernel
theorem dX6_push_30 : decode cX6_push 30 = .ok (.aload_n 0, 1) := by decide +kernel
theorem dX6_push_31 : decode cX6_push 31 = .ok (.dup, 1) := by decide +kernel
theorem dX6_push_32 : decode cX6_push 32 = .ok (.getfield 20, 3) := by decide +kernel
theorem dX6_push_35 : decode cX6_push 35 = .ok (.iconst 1, 1) := by decide +kernel
theorem dX6_push_36 : decode cX6_push 36 = .ok (.iadd, 1) := by decide +kernel
theorem dX6_push_37 : decode cX6_push 37 = .ok (.putfield 20, 3) := by decide +kernel
theorem dX6_push_40 : decode cX6_push 40 = .ok (.return_, 1) := by decide +kernel
theorem dX6_topDue_0 : decode cX6_topDue 0 = .ok (.aload_n 0, 1) := by decide +kernel
theorem dX6_topDue_1 : decode cX6_topDue 1 = .ok (.getfield 20, 3) := by decide +kernel
theorem dX6_topDue_4 : decode cX6_topDue 4 = .ok (.ifCond .le 27, 3) := by decide +kernel
theorem dX6_topDue_7 : decode cX6_topDue 7 = .ok (.aload_n 0, 1) := by decide +kernel
theorem dX6_topDue_8 : decode cX6_topDue 8 = .ok (.getfield 20, 3) := by decide +kernel
theorem dX6_topDue_11 : decode cX6_topDue 11 = .ok (.sipush 4812, 3) := by decide +kernel
theorem dX6_topDue_14 : decode cX6_topDue 14 = .ok (.if_icmp .gt 17, 3) := by decide +kernel
theorem dX6_topDue_17 : decode cX6_topDue 17 = .ok (.aload_n 0, 1) := by decide +kernel
theorem dX6_topDue_18 : decode cX6_topDue 18 = .ok (.getfield 13, 3) := by decide +kernel
theorem dX6_topDue_21 : decode cX6_topDue 21 = .ok (.aload_n 0, 1) := by decide +kernel
theorem dX6_topDue_22 : decode cX6_topDue 22 = .ok (.getfield 20, 3) := by decide +kernel
theorem dX6_topDue_25 : decode cX6_topDue 25 = .ok (.iconst 1, 1) := by decide +kernel
theorem dX6_topDue_26 : decode cX6_topDue 26 = .ok (.isub, 1) := by decide +kernel
theorem dX6_topDue_27 : decode cX6_topDue 27 = .ok (.iaload, 1) := by decide +kernel
theorem dX6_topDue_28 : decode cX6_topDue 28 = .ok (.goto 4, 3) := by decide +kernel
theorem dX6_topDue_32 : decode cX6_topDue 32 = .ok (.ireturn, 1) := by decide +kernel
theorem dX6_topNode_0 : decode cX6_topNode 0 = .ok (.aload_n 0, 1) := by decide +kernel
theorem dX6_topNode_1 : decode cX6_topNode 1 = .ok (.getfield 20, 3) := by decide +kernel
theorem dX6_topNode_4 : decode cX6_topNode 4 = .ok (.ifCond .le 27, 3) := by decide +kernel
theorem dX6_topNode_7 : decode cX6_topNode 7 = .ok (.aload_n 0, 1) := by decide +kernel
theorem dX6_topNode_8 : decode cX6_topNode 8 = .ok (.getfield 20, 3) := by decide +kernel
theorem dX6_topNode_11 : decode cX6_topNode 11 = .ok (.sipush 4812, 3) := by decide +kernel
theorem dX6_topNode_14 : decode cX6_topNode 14 = .ok (.if_icmp .gt 17, 3) := by decide +kernel
theorem dX6_topNode_17 : decode cX6_topNode 17 = .ok (.aload_n 0, 1) := by decide +kernel
theorem dX6_topNode_18 : decode cX6_topNode 18 = .ok (.getfield 17, 3) := by decide +kernel
theorem dX6_topNode_21 : decode cX6_topNode 21 = .ok (.aload_n 0, 1) := by decide +kernel
theorem dX6_topNode_22 : decode cX6_topNode 22 = .ok (.getfield 20, 3) := by decide +kernel
theorem dX6_topNode_25 : decode cX6_topNode 25 = .ok (.iconst 1, 1) := by decide +kernel
theorem dX6_topNode_26 : decode cX6_topNode 26 = .ok (.isub, 1) := by decide +kernel
theorem dX6_topNode_27 : decode cX6_topNode 27 = .ok (.iaload, 1) := by decide +kernel
theorem dX6_topNode_28 : decode cX6_topNode 28 = .ok (.goto 4, 3) := by decide +kernel
theorem dX6_topNode_32 : decode cX6_topNode 32 = .ok (.ireturn, 1) := by decide +kernel
theorem dX6_pop_0 : decode cX6_pop 0 = .ok (.aload_n 0, 1) := by decide +kernel
theorem dX6_pop_1 : decode cX6_pop 1 = .ok (.getfield 20, 3) := by decide +kernel
theorem dX6_pop_4 : decode cX6_pop 4 = .ok (.ifCond .le 13, 3) := by decide +kernel
theorem dX6_pop_7 : decode cX6_pop 7 = .ok (.aload_n 0, 1) := by decide +kernel
theorem dX6_pop_8 : decode cX6_pop 8 = .ok (.dup, 1) := by decide +kernel
theorem dX6_pop_9 : decode cX6_pop 9 = .ok (.getfield 20, 3) := by decide +kernel
theorem dX6_pop_12 : decode cX6_pop 12 = .ok (.iconst 1, 1) := by decide +kernel
theorem dX6_pop_13 : decode cX6_pop 13 = .ok (.isub, 1) := by decide +kernel
theorem dX6_pop_14 : decode cX6_pop 14 = .ok (.putfield 20, 3) := by decide +kernel
theorem dX6_pop_17 : decode cX6_pop 17 = .ok (.return_, 1) := by decide +kernel
theorem dX8_init_0 : decode cX8_init 0 = .ok (.aload_n 0, 1) := by decide +kernel
theorem dX8_init_1 : decode cX8_init 1 = .ok (.invokespecial 3, 3) := by decide +kernel
theorem dX8_init_4 : decode cX8_init 4 = .ok (.aload_n 0, 1) := by decide +kernel
theorem dX8_init_5 : decode cX8_init 5 = .ok (.sipush 3000, 3) := by decide +kernel
theorem dX8_init_8 : decode cX8_init 8 = .ok (.newarray .char, 2) := by decide +kernel
theorem dX8_init_10 : decode cX8_init 10 = .ok (.putfield 11, 3) := by decide +kernel
theorem dX8_init_13 : decode cX8_init 13 = .ok (.return_, 1) := by decide +kernel
theorem dX8_length_0 : decode cX8_length 0 = .ok (.aload_n 0, 1) := by decide +kernel
theorem dX8_length_1 : decode cX8_length 1 = .ok (.getfield 15, 3) := by decide +kernel
theorem dX8_length_4 : decode cX8_length 4 = .ok (.ireturn, 1) := by decide +kernel
theorem dX8_hasRoom_0 : decode cX8_hasRoom 0 = .ok (.iload_n 1, 1) := by decide +kernel
theorem dX8_hasRoom_1 : decode cX8_hasRoom 1 = .ok (.sipush 3000, 3) := by decide +kernel
theorem dX8_hasRoom_4 : decode cX8_hasRoom 4 = .ok (.aload_n 0, 1) := by decide +kernel
theorem dX8_hasRoom_5 : decode cX8_hasRoom 5 = .ok (.getfield 15, 3) := by decide +kernel
theorem dX8_hasRoom_8 : decode cX8_hasRoom 8 = .ok (.isub, 1) := by decide +kernel
theorem dX8_hasRoom_9 : decode cX8_hasRoom 9 = .ok (.if_icmp .gt 7, 3) := by decide +kernel
theorem dX8_hasRoom_12 : decode cX8_hasRoom 12 = .ok (.iconst 1, 1) := by decide +kernel
theorem dX8_hasRoom_13 : decode cX8_hasRoom 13 = .ok (.goto 4, 3) := by decide +kernel
theorem dX8_hasRoom_16 : decode cX8_hasRoom 16 = .ok (.iconst 0, 1) := by decide +kernel
theorem dX8_hasRoom_17 : decode cX8_hasRoom 17 = .ok (.ireturn, 1) := by decide +kernel
theorem dX8_byteAt_0 : decode cX8_byteAt 0 = .ok (.iload_n 1, 1) := by decide +kernel
theorem dX8_byteAt_1 : decode cX8_byteAt 1 = .ok (.ifCond .lt 20, 3) := by decide +kernel
theorem dX8_byteAt_4 : decode cX8_byteAt 4 = .ok (.iload_n 1, 1) := by decide +kernel
theorem dX8_byteAt_5 : decode cX8_byteAt 5 = .ok (.aload_n 0, 1) := by decide +kernel
theorem dX8_byteAt_6 : decode cX8_byteAt 6 = .ok (.getfield 15, 3) := by decide +kernel
theorem dX8_byteAt_9 : decode cX8_byteAt 9 = .ok (.if_icmp .ge 12, 3) := by decide +kernel
theorem dX8_byteAt_21 : decode cX8_byteAt 21 = .ok (.iconst (-1), 1) := by decide +kernel
theorem dX8_byteAt_22 : decode cX8_byteAt 22 = .ok (.ireturn, 1) := by decide +kernel
theorem dX8_append_0 : decode cX8_append 0 = .ok (.aload_n 0, 1) := by decide +kernel
theorem dX8_append_1 : decode cX8_append 1 = .ok (.getfield 15, 3) := by decide +kernel
theorem dX8_append_4 : decode cX8_append 4 = .ok (.sipush 3000, 3) := by decide +kernel
theorem dX8_append_7 : decode cX8_append 7 = .ok (.if_icmp .ge 28, 3) := by decide +kernel
theorem dX8_append_10 : decode cX8_append 10 = .ok (.aload_n 0, 1) := by decide +kernel
theorem dX8_append_11 : decode cX8_append 11 = .ok (.getfield 11, 3) := by decide +kernel
theorem dX8_append_14 : decode cX8_append 14 = .ok (.aload_n 0, 1) := by decide +kernel
theorem dX8_append_15 : decode cX8_append 15 = .ok (.getfield 15, 3) := by decide +kernel
theorem dX8_append_18 : decode cX8_append 18 = .ok (.iload_n 1, 1) := by decide +kernel
theorem dX8_append_19 : decode cX8_append 19 = .ok (.sipush 255, 3) := by decide +kernel
theorem dX8_append_22 : decode cX8_append 22 = .ok (.iand, 1) := by decide +kernel
theorem dX8_append_23 : decode cX8_append 23 = .ok (.i2c, 1) := by decide +kernel
theorem dX8_append_24 : decode cX8_append 24 = .ok (.castore, 1) := by decide +kernel
theorem dX8_append_25 : decode cX8_append 25 = .ok (.aload_n 0, 1) := by decide +kernel
theorem dX8_append_26 : decode cX8_append 26 = .ok (.dup, 1) := by decide +kernel
theorem dX8_append_27 : decode cX8_append 27 = .ok (.getfield 15, 3) := by decide +kernel
theorem dX8_append_30 : decode cX8_append 30 = .ok (.iconst 1, 1) := by decide +kernel
theorem dX8_append_31 : decode cX8_append 31 = .ok (.iadd, 1) := by decide +kernel
theorem dX8_append_32 : decode cX8_append 32 = .ok (.putfield 15, 3) := by decide +kernel
theorem dX8_append_35 : decode cX8_append 35 = .ok (.return_, 1) := by decide +kernel
theorem dX8_empty_0 : decode cX8_empty 0 = .ok (.aload_n 0, 1) := by decide +kernel
theorem dX8_empty_1 : decode cX8_empty 1 = .ok (.iconst 0, 1) := by decide +kernel
theorem dX8_empty_2 : decode cX8_empty 2 = .ok (.putfield 15, 3) := by decide +kernel
theorem dX8_empty_5 : decode cX8_empty 5 = .ok (.return_, 1) := by decide +kernel
theorem dX8_copyTo_0 : decode cX8_copyTo 0 = .ok (.aload_n 0, 1) := by decide +kernel
theorem dX8_copyTo_1 : decode cX8_copyTo 1 = .ok (.getfield 11, 3) := by decide +kernel
theorem dX8_copyTo_4 : decode cX8_copyTo 4 = .ok (.iconst 0, 1) := by decide +kernel
theorem dX8_copyTo_5 : decode cX8_copyTo 5 = .ok (.aload_n 1, 1) := by decide +kernel
theorem dX8_copyTo_6 : decode cX8_copyTo 6 = .ok (.iconst 0, 1) := by decide +kernel
theorem dX8_copyTo_7 : decode cX8_copyTo 7 = .ok (.aload_n 0, 1) := by decide +kernel
theorem dX8_copyTo_8 : decode cX8_copyTo 8 = .ok (.getfield 15, 3) := by decide +kernel
theorem dX8_copyTo_11 : decode cX8_copyTo 11 = .ok (.aload_n 1, 1) := by decide +kernel
theorem dX8_copyTo_12 : decode cX8_copyTo 12 = .ok (.arraylength, 1) := by decide +kernel
theorem dX8_copyTo_13 : decode cX8_copyTo 13 = .ok (.invokestatic 19, 3) := by decide +kernel
theorem dX8_copyTo_16 : decode cX8_copyTo 16 = .ok (.invokestatic 25, 3) := by decide +kernel
theorem dX8_copyTo_19 : decode cX8_copyTo 19 = .ok (.return_, 1) := by decide +kernel
theorem dX9_init_0 : decode cX9_init 0 = .ok (.aload_n 0, 1) := by decide +kernel
theorem dX9_init_1 : decode cX9_init 1 = .ok (.invokespecial 5, 3) := by decide +kernel
theorem dX9_init_4 : decode cX9_init 4 = .ok (.aload_n 0, 1) := by decide +kernel
theorem dX9_init_5 : decode cX9_init 5 = .ok (.sipush 1601, 3) := by decide +kernel
theorem dX9_init_8 : decode cX9_init 8 = .ok (.newarray .int, 2) := by decide +kernel
theorem dX9_init_10 : decode cX9_init 10 = .ok (.putfield 13, 3) := by decide +kernel
theorem dX9_init_13 : decode cX9_init 13 = .ok (.aload_n 0, 1) := by decide +kernel
theorem dX9_init_14 : decode cX9_init 14 = .ok (.sipush 1601, 3) := by decide +kernel
theorem dX9_init_17 : decode cX9_init 17 = .ok (.newarray .int, 2) := by decide +kernel
theorem dX9_init_19 : decode cX9_init 19 = .ok (.putfield 17, 3) := by decide +kernel
theorem dX9_init_22 : decode cX9_init 22 = .ok (.aload_n 0, 1) := by decide +kernel
theorem dX9_init_23 : decode cX9_init 23 = .ok (.sipush 1601, 3) := by decide +kernel
theorem dX9_init_26 : decode cX9_init 26 = .ok (.newarray .int, 2) := by decide +kernel
theorem dX9_init_28 : decode cX9_init 28 = .ok (.putfield 20, 3) := by decide +kernel
theorem dX9_init_31 : decode cX9_init 31 = .ok (.aload_n 0, 1) := by decide +kernel
theorem dX9_init_32 : decode cX9_init 32 = .ok (.sipush 1601, 3) := by decide +kernel
theorem dX9_init_35 : decode cX9_init 35 = .ok (.newarray .int, 2) := by decide +kernel
theorem dX9_init_37 : decode cX9_init 37 = .ok (.putfield 23, 3) := by decide +kernel
theorem dX9_init_40 : decode cX9_init 40 = .ok (.aload_n 0, 1) := by decide +kernel
theorem dX9_init_41 : decode cX9_init 41 = .ok (.sipush 1601, 3) := by decide +kernel
theorem dX9_init_44 : decode cX9_init 44 = .ok (.newarray .int, 2) := by decide +kernel
theorem dX9_init_46 : decode cX9_init 46 = .ok (.putfield 26, 3) := by decide +kernel
theorem dX9_init_49 : decode cX9_init 49 = .ok (.aload_n 0, 1) := by decide +kernel
theorem dX9_init_50 : decode cX9_init 50 = .ok (.sipush 3000, 3) := by decide +kernel
theorem dX9_init_53 : decode cX9_init 53 = .ok (.newarray .char, 2) := by decide +kernel
theorem dX9_init_55 : decode cX9_init 55 = .ok (.putfield 31, 3) := by decide +kernel
theorem dX9_init_58 : decode cX9_init 58 = .ok (.return_, 1) := by decide +kernel
theorem dX9_size_0 : decode cX9_size 0 = .ok (.aload_n 0, 1) := by decide +kernel
theorem dX9_size_1 : decode cX9_size 1 = .ok (.getfield 35, 3) := by decide +kernel
theorem dX9_size_4 : decode cX9_size 4 = .ok (.ireturn, 1) := by decide +kernel
theorem dX9_has_0 : decode cX9_has 0 = .ok (.iload_n 1, 1) := by decide +kernel
theorem dX9_has_1 : decode cX9_has 1 = .ok (.ifCond .lt 15, 3) := by decide +kernel
theorem dX9_has_4 : decode cX9_has 4 = .ok (.iload_n 1, 1) := by decide +kernel
theorem dX9_has_5 : decode cX9_has 5 = .ok (.aload_n 0, 1) := by decide +kernel
theorem dX9_has_6 : decode cX9_has 6 = .ok (.getfield 35, 3) := by decide +kernel
theorem dX9_has_9 : decode cX9_has 9 = .ok (.if_icmp .ge 7, 3) := by decide +kernel
theorem dX9_has_12 : decode cX9_has 12 = .ok (.iconst 1, 1) := by decide +kernel
theorem dX9_has_13 : decode cX9_has 13 = .ok (.goto 4, 3) := by decide +kernel
theorem dX9_has_16 : decode cX9_has 16 = .ok (.iconst 0, 1) := by decide +kernel
theorem dX9_has_17 : decode cX9_has 17 = .ok (.ireturn, 1) := by decide +kernel
theorem dX9_empty_0 : decode cX9_empty 0 = .ok (.aload_n 0, 1) := by decide +kernel
theorem dX9_empty_1 : decode cX9_empty 1 = .ok (.iconst 0, 1) := by decide +kernel
theorem dX9_empty_2 : decode cX9_empty 2 = .ok (.putfield 35, 3) := by decide +kernel
theorem dX9_empty_5 : decode cX9_empty 5 = .ok (.return_, 1) := by decide +kernel
theorem dX9_add_0 : decode cX9_add 0 = .ok (.aload_n 0, 1) := by decide +kernel
theorem dX9_add_1 : decode cX9_add 1 = .ok (.iload_n 1, 1) := by decide +kernel
theorem dX9_add_2 : decode cX9_add 2 = .ok (.iconst 0, 1) := by decide +kernel
theorem dX9_add_3 : decode cX9_add 3 = .ok (.iconst 0, 1) := by decide +kernel
theorem dX9_add_4 : decode cX9_add 4 = .ok (.invokevirtual 39, 3) := by decide +kernel
theorem dX9_add_7 : decode cX9_add 7 = .ok (.ireturn, 1) := by decide +kernel
theorem dX9_addWritten_0 : decode cX9_addWritten 0 = .ok (.aload_n 0, 1) := by decide +kernel
theorem dX9_addWritten_1 : decode cX9_addWritten 1 = .ok (.getfield 35, 3) := by decide +kernel
theorem dX9_addWritten_4 : decode cX9_addWritten 4 = .ok (.istore 4, 2) := by decide +kernel
theorem dX9_addWritten_6 : decode cX9_addWritten 6 = .ok (.aload_n 0, 1) := by decide +kernel
theorem dX9_addWritten_7 : decode cX9_addWritten 7 = .ok (.getfield 35, 3) := by decide +kernel
theorem dX9_addWritten_10 : decode cX9_addWritten 10 = .ok (.sipush 1601, 3) := by decide +kernel
theorem dX9_addWritten_13 : decode cX9_addWritten 13 = .ok (.if_icmp .ge 53, 3) := by decide +kernel
theorem dX9_addWritten_16 : decode cX9_addWritten 16 = .ok (.aload_n 0, 1) := by decide +kernel
theorem dX9_addWritten_17 : decode cX9_addWritten 17 = .ok (.getfield 13, 3) := by decide +kernel
theorem dX9_addWritten_20 : decode cX9_addWritten 20 = .ok (.aload_n 0, 1) := by decide +kernel
theorem dX9_addWritten_21 : decode cX9_addWritten 21 = .ok (.getfield 35, 3) := by decide +kernel
theorem dX9_addWritten_24 : decode cX9_addWritten 24 = .ok (.iload_n 1, 1) := by decide +kernel
theorem dX9_addWritten_25 : decode cX9_addWritten 25 = .ok (.iastore, 1) := by decide +kernel
theorem dX9_addWritten_26 : decode cX9_addWritten 26 = .ok (.aload_n 0, 1) := by decide +kernel
theorem dX9_addWritten_27 : decode cX9_addWritten 27 = .ok (.getfield 17, 3) := by decide +kernel
theorem dX9_addWritten_30 : decode cX9_addWritten 30 = .ok (.aload_n 0, 1) := by decide +kernel
theorem dX9_addWritten_31 : decode cX9_addWritten 31 = .ok (.getfield 35, 3) := by decide +kernel
theorem dX9_addWritten_34 : decode cX9_addWritten 34 = .ok (.iconst 1, 1) := by decide +kernel
theorem dX9_addWritten_35 : decode cX9_addWritten 35 = .ok (.iastore, 1) := by decide +kernel
theorem dX9_addWritten_36 : decode cX9_addWritten 36 = .ok (.aload_n 0, 1) := by decide +kernel
theorem dX9_addWritten_37 : decode cX9_addWritten 37 = .ok (.getfield 23, 3) := by decide +kernel
theorem dX9_addWritten_40 : decode cX9_addWritten 40 = .ok (.aload_n 0, 1) := by decide +kernel
theorem dX9_addWritten_41 : decode cX9_addWritten 41 = .ok (.getfield 35, 3) := by decide +kernel
theorem dX9_addWritten_44 : decode cX9_addWritten 44 = .ok (.iload_n 2, 1) := by decide +kernel
theorem dX9_addWritten_45 : decode cX9_addWritten 45 = .ok (.iastore, 1) := by decide +kernel
theorem dX9_addWritten_46 : decode cX9_addWritten 46 = .ok (.aload_n 0, 1) := by decide +kernel
theorem dX9_addWritten_47 : decode cX9_addWritten 47 = .ok (.getfield 26, 3) := by decide +kernel
theorem dX9_addWritten_50 : decode cX9_addWritten 50 = .ok (.aload_n 0, 1) := by decide +kernel
theorem dX9_addWritten_51 : decode cX9_addWritten 51 = .ok (.getfield 35, 3) := by decide +kernel
theorem dX9_addWritten_54 : decode cX9_addWritten 54 = .ok (.iload_n 3, 1) := by decide +kernel
theorem dX9_addWritten_55 : decode cX9_addWritten 55 = .ok (.iastore, 1) := by decide +kernel
theorem dX9_addWritten_56 : decode cX9_addWritten 56 = .ok (.aload_n 0, 1) := by decide +kernel
theorem dX9_addWritten_57 : decode cX9_addWritten 57 = .ok (.dup, 1) := by decide +kernel
theorem dX9_addWritten_58 : decode cX9_addWritten 58 = .ok (.getfield 35, 3) := by decide +kernel
theorem dX9_addWritten_61 : decode cX9_addWritten 61 = .ok (.iconst 1, 1) := by decide +kernel
theorem dX9_addWritten_62 : decode cX9_addWritten 62 = .ok (.iadd, 1) := by decide +kernel
theorem dX9_addWritten_63 : decode cX9_addWritten 63 = .ok (.putfield 35, 3) := by decide +kernel
theorem dX9_addWritten_66 : decode cX9_addWritten 66 = .ok (.iload 4, 2) := by decide +kernel
theorem dX9_addWritten_68 : decode cX9_addWritten 68 = .ok (.ireturn, 1) := by decide +kernel
theorem dX9_close_0 : decode cX9_close 0 = .ok (.aload_n 0, 1) := by decide +kernel
theorem dX9_close_1 : decode cX9_close 1 = .ok (.iload_n 1, 1) := by decide +kernel
theorem dX9_close_2 : decode cX9_close 2 = .ok (.invokevirtual 53, 3) := by decide +kernel
theorem dX9_close_5 : decode cX9_close 5 = .ok (.ifCond .eq 15, 3) := by decide +kernel
theorem dX9_close_8 : decode cX9_close 8 = .ok (.aload_n 0, 1) := by decide +kernel
theorem dX9_close_9 : decode cX9_close 9 = .ok (.getfield 17, 3) := by decide +kernel
theorem dX9_close_12 : decode cX9_close 12 = .ok (.iload_n 1, 1) := by decide +kernel
theorem dX9_close_13 : decode cX9_close 13 = .ok (.aload_n 0, 1) := by decide +kernel
theorem dX9_close_14 : decode cX9_close 14 = .ok (.getfield 35, 3) := by decide +kernel
theorem dX9_close_17 : decode cX9_close 17 = .ok (.iload_n 1, 1) := by decide +kernel
theorem dX9_close_18 : decode cX9_close 18 = .ok (.isub, 1) := by decide +kernel
theorem dX9_close_19 : decode cX9_close 19 = .ok (.iastore, 1) := by decide +kernel
theorem dX9_close_20 : decode cX9_close 20 = .ok (.return_, 1) := by decide +kernel
theorem dX9_keep_0 : decode cX9_keep 0 = .ok (.aload_n 1, 1) := by decide +kernel
theorem dX9_keep_1 : decode cX9_keep 1 = .ok (.aload_n 0, 1) := by decide +kernel
theorem dX9_keep_2 : decode cX9_keep 2 = .ok (.getfield 31, 3) := by decide +kernel
theorem dX9_keep_5 : decode cX9_keep 5 = .ok (.invokevirtual 69, 3) := by decide +kernel
theorem dX9_keep_8 : decode cX9_keep 8 = .ok (.aload_n 0, 1) := by decide +kernel
theorem dX9_keep_9 : decode cX9_keep 9 = .ok (.getfield 35, 3) := by decide +kernel
theorem dX9_keep_12 : decode cX9_keep 12 = .ok (.ifCond .le 10, 3) := by decide +kernel
theorem dX9_keep_15 : decode cX9_keep 15 = .ok (.aload_n 0, 1) := by decide +kernel
theorem dX9_keep_16 : decode cX9_keep 16 = .ok (.getfield 20, 3) := by decide +kernel
theorem dX9_keep_19 : decode cX9_keep 19 = .ok (.iconst 0, 1) := by decide +kernel
theorem dX9_keep_20 : decode cX9_keep 20 = .ok (.iconst (-1), 1) := by decide +kernel
theorem dX9_keep_21 : decode cX9_keep 21 = .ok (.iastore, 1) := by decide +kernel
theorem dX9_keep_22 : decode cX9_keep 22 = .ok (.iconst 0, 1) := by decide +kernel
theorem dX9_keep_23 : decode cX9_keep 23 = .ok (.istore_n 2, 1) := by decide +kernel
theorem dX9_keep_24 : decode cX9_keep 24 = .ok (.iload_n 2, 1) := by decide +kernel
theorem dX9_keep_25 : decode cX9_keep 25 = .ok (.aload_n 0, 1) := by decide +kernel
theorem dX9_keep_26 : decode cX9_keep 26 = .ok (.getfield 35, 3) := by decide +kernel
theorem dX9_keep_29 : decode cX9_keep 29 = .ok (.if_icmp .ge 52, 3) := by decide +kernel
theorem dX9_keep_32 : decode cX9_keep 32 = .ok (.aload_n 0, 1) := by decide +kernel
theorem dX9_keep_33 : decode cX9_keep 33 = .ok (.iload_n 2, 1) := by decide +kernel
theorem dX9_keep_34 : decode cX9_keep 34 = .ok (.invokevirtual 73, 3) := by decide +kernel
theorem dX9_keep_37 : decode cX9_keep 37 = .ok (.istore_n 3, 1) := by decide +kernel
theorem dX9_keep_38 : decode cX9_keep 38 = .ok (.iload_n 2, 1) := by decide +kernel
theorem dX9_keep_39 : decode cX9_keep 39 = .ok (.iconst 1, 1) := by decide +kernel
theorem dX9_keep_40 : decode cX9_keep 40 = .ok (.iadd, 1) := by decide +kernel
theorem dX9_keep_41 : decode cX9_keep 41 = .ok (.istore 4, 2) := by decide +kernel
theorem dX9_keep_43 : decode cX9_keep 43 = .ok (.iload 4, 2) := by decide +kernel
theorem dX9_keep_45 : decode cX9_keep 45 = .ok (.iload_n 3, 1) := by decide +kernel
theorem dX9_keep_46 : decode cX9_keep 46 = .ok (.if_icmp .ge 29, 3) := by decide +kernel
theorem dX9_keep_75 : decode cX9_keep 75 = .ok (.iinc 2 1, 3) := by decide +kernel
theorem dX9_keep_78 : decode cX9_keep 78 = .ok (.goto (-54), 3) := by decide +kernel
theorem dX9_keep_81 : decode cX9_keep 81 = .ok (.return_, 1) := by decide +kernel
theorem dX9_sizeOf_0 : decode cX9_sizeOf 0 = .ok (.aload_n 0, 1) := by decide +kernel
theorem dX9_sizeOf_1 : decode cX9_sizeOf 1 = .ok (.iload_n 1, 1) := by decide +kernel
theorem dX9_sizeOf_2 : decode cX9_sizeOf 2 = .ok (.invokevirtual 53, 3) := by decide +kernel
theorem dX9_sizeOf_5 : decode cX9_sizeOf 5 = .ok (.ifCond .eq 12, 3) := by decide +kernel
theorem dX9_sizeOf_8 : decode cX9_sizeOf 8 = .ok (.aload_n 0, 1) := by decide +kernel
theorem dX9_sizeOf_9 : decode cX9_sizeOf 9 = .ok (.getfield 17, 3) := by decide +kernel
theorem dX9_sizeOf_12 : decode cX9_sizeOf 12 = .ok (.iload_n 1, 1) := by decide +kernel
theorem dX9_sizeOf_13 : decode cX9_sizeOf 13 = .ok (.iaload, 1) := by decide +kernel
theorem dX9_sizeOf_14 : decode cX9_sizeOf 14 = .ok (.goto 4, 3) := by decide +kernel
theorem dX9_sizeOf_18 : decode cX9_sizeOf 18 = .ok (.ireturn, 1) := by decide +kernel
theorem dX9_endOf_0 : decode cX9_endOf 0 = .ok (.aload_n 0, 1) := by decide +kernel
theorem dX9_endOf_1 : decode cX9_endOf 1 = .ok (.getfield 35, 3) := by decide +kernel
theorem dX9_endOf_4 : decode cX9_endOf 4 = .ok (.iload_n 1, 1) := by decide +kernel
theorem dX9_endOf_5 : decode cX9_endOf 5 = .ok (.aload_n 0, 1) := by decide +kernel
theorem dX9_endOf_6 : decode cX9_endOf 6 = .ok (.iload_n 1, 1) := by decide +kernel
theorem dX9_endOf_7 : decode cX9_endOf 7 = .ok (.invokevirtual 76, 3) := by decide +kernel
theorem dX9_endOf_10 : decode cX9_endOf 10 = .ok (.iadd, 1) := by decide +kernel
theorem dX9_endOf_11 : decode cX9_endOf 11 = .ok (.invokestatic 79, 3) := by decide +kernel
theorem dX9_endOf_14 : decode cX9_endOf 14 = .ok (.ireturn, 1) := by decide +kernel
theorem dX10_init_0 : decode cX10_init 0 = .ok (.aload_n 0, 1) := by decide +kernel
theorem dX10_init_1 : decode cX10_init 1 = .ok (.invokespecial 1, 3) := by decide +kernel
theorem dX10_init_4 : decode cX10_init 4 = .ok (.aload_n 0, 1) := by decide +kernel
theorem dX10_init_5 : decode cX10_init 5 = .ok (.sipush 3000, 3) := by decide +kernel
theorem dX10_init_8 : decode cX10_init 8 = .ok (.newarray .char, 2) := by decide +kernel
theorem dX10_init_10 : decode cX10_init 10 = .ok (.putfield 9, 3) := by decide +kernel
theorem dX10_init_13 : decode cX10_init 13 = .ok (.aload_n 0, 1) := by decide +kernel
theorem dX10_init_14 : decode cX10_init 14 = .ok (.aload_n 1, 1) := by decide +kernel
theorem dX10_init_15 : decode cX10_init 15 = .ok (.putfield 15, 3) := by decide +kernel
theorem dX10_init_18 : decode cX10_init 18 = .ok (.return_, 1) := by decide +kernel
theorem dX11_init_0 : decode cX11_init 0 = .ok (.aload_n 0, 1) := by decide +kernel
theorem dX11_init_1 : decode cX11_init 1 = .ok (.invokespecial 1, 3) := by decide +kernel
theorem dX11_init_4 : decode cX11_init 4 = .ok (.aload_n 0, 1) := by decide +kernel
theorem dX11_init_5 : decode cX11_init 5 = .ok (.new 7, 3) := by decide +kernel
theorem dX11_init_8 : decode cX11_init 8 = .ok (.dup, 1) := by decide +kernel
theorem dX11_init_9 : decode cX11_init 9 = .ok (.invokespecial 9, 3) := by decide +kernel
theorem dX11_init_12 : decode cX11_init 12 = .ok (.putfield 10, 3) := by decide +kernel
theorem dX11_init_15 : decode cX11_init 15 = .ok (.aload_n 0, 1) := by decide +kernel
theorem dX11_init_16 : decode cX11_init 16 = .ok (.new 16, 3) := by decide +kernel
theorem dX11_init_19 : decode cX11_init 19 = .ok (.dup, 1) := by decide +kernel
theorem dX11_init_20 : decode cX11_init 20 = .ok (.aload_n 0, 1) := by decide +kernel
theorem dX11_init_21 : decode cX11_init 21 = .ok (.getfield 10, 3) := by decide +kernel
theorem dX11_init_24 : decode cX11_init 24 = .ok (.invokespecial 18, 3) := by decide +kernel
theorem dX11_init_27 : decode cX11_init 27 = .ok (.putfield 21, 3) := by decide +kernel
theorem dX11_init_30 : decode cX11_init 30 = .ok (.aload_n 0, 1) := by decide +kernel
theorem dX11_init_31 : decode cX11_init 31 = .ok (.new 25, 3) := by decide +kernel
theorem dX11_init_34 : decode cX11_init 34 = .ok (.dup, 1) := by decide +kernel
theorem dX11_init_35 : decode cX11_init 35 = .ok (.aload_n 0, 1) := by decide +kernel
theorem dX11_init_36 : decode cX11_init 36 = .ok (.getfield 21, 3) := by decide +kernel
theorem dX11_init_39 : decode cX11_init 39 = .ok (.invokespecial 27, 3) := by decide +kernel
theorem dX11_init_42 : decode cX11_init 42 = .ok (.putfield 30, 3) := by decide +kernel
theorem dX11_init_45 : decode cX11_init 45 = .ok (.aload_n 0, 1) := by decide +kernel
theorem dX11_init_46 : decode cX11_init 46 = .ok (.new 34, 3) := by decide +kernel
theorem dX11_init_49 : decode cX11_init 49 = .ok (.dup, 1) := by decide +kernel
theorem dX11_init_50 : decode cX11_init 50 = .ok (.invokespecial 36, 3) := by decide +kernel
theorem dX11_init_53 : decode cX11_init 53 = .ok (.putfield 37, 3) := by decide +kernel
theorem dX11_init_56 : decode cX11_init 56 = .ok (.aload_n 0, 1) := by decide +kernel
theorem dX11_init_57 : decode cX11_init 57 = .ok (.new 34, 3) := by decide +kernel
theorem dX11_init_60 : decode cX11_init 60 = .ok (.dup, 1) := by decide +kernel
theorem dX11_init_61 : decode cX11_init 61 = .ok (.invokespecial 36, 3) := by decide +kernel
theorem dX11_init_64 : decode cX11_init 64 = .ok (.putfield 41, 3) := by decide +kernel
theorem dX11_init_67 : decode cX11_init 67 = .ok (.aload_n 0, 1) := by decide +kernel
theorem dX11_init_68 : decode cX11_init 68 = .ok (.new 44, 3) := by decide +kernel
theorem dX11_init_71 : decode cX11_init 71 = .ok (.dup, 1) := by decide +kernel
theorem dX11_init_72 : decode cX11_init 72 = .ok (.aload_n 0, 1) := by decide +kernel
theorem dX11_init_73 : decode cX11_init 73 = .ok (.getfield 21, 3) := by decide +kernel
theorem dX11_init_76 : decode cX11_init 76 = .ok (.aload_n 0, 1) := by decide +kernel
theorem dX11_init_77 : decode cX11_init 77 = .ok (.getfield 30, 3) := by decide +kernel
theorem dX11_init_80 : decode cX11_init 80 = .ok (.aload_n 0, 1) := by decide +kernel
theorem dX11_init_81 : decode cX11_init 81 = .ok (.getfield 41, 3) := by decide +kernel
theorem dX11_init_84 : decode cX11_init 84 = .ok (.invokespecial 46, 3) := by decide +kernel
theorem dX11_init_87 : decode cX11_init 87 = .ok (.putfield 49, 3) := by decide +kernel
theorem dX11_init_90 : decode cX11_init 90 = .ok (.aload_n 0, 1) := by decide +kernel
theorem dX11_init_91 : decode cX11_init 91 = .ok (.new 53, 3) := by decide +kernel
theorem dX11_init_94 : decode cX11_init 94 = .ok (.dup, 1) := by decide +kernel
theorem dX11_init_95 : decode cX11_init 95 = .ok (.aload_n 0, 1) := by decide +kernel
theorem dX11_init_96 : decode cX11_init 96 = .ok (.getfield 37, 3) := by decide +kernel
theorem dX11_init_99 : decode cX11_init 99 = .ok (.invokespecial 55, 3) := by decide +kernel
theorem dX11_init_102 : decode cX11_init 102 = .ok (.putfield 58, 3) := by decide +kernel
theorem dX11_init_105 : decode cX11_init 105 = .ok (.return_, 1) := by decide +kernel
theorem dX11_type_0 : decode cX11_type 0 = .ok (.iload 5, 2) := by decide +kernel
theorem dX11_type_2 : decode cX11_type 2 = .ok (.ifCond .lt 10, 3) := by decide +kernel
theorem dX11_type_5 : decode cX11_type 5 = .ok (.iload 5, 2) := by decide +kernel
theorem dX11_type_7 : decode cX11_type 7 = .ok (.bipush 16, 2) := by decide +kernel
theorem dX11_type_9 : decode cX11_type 9 = .ok (.if_icmp .le 6, 3) := by decide +kernel
theorem dX11_type_12 : decode cX11_type 12 = .ok (.bipush (-2), 2) := by decide +kernel
theorem dX11_type_14 : decode cX11_type 14 = .ok (.ireturn, 1) := by decide +kernel
theorem dX11_type_15 : decode cX11_type 15 = .ok (.aload_n 0, 1) := by decide +kernel
theorem dX11_type_16 : decode cX11_type 16 = .ok (.getfield 10, 3) := by decide +kernel
theorem dX11_type_19 : decode cX11_type 19 = .ok (.iload 5, 2) := by decide +kernel
theorem dX11_type_21 : decode cX11_type 21 = .ok (.invokevirtual 62, 3) := by decide +kernel
theorem dX11_type_24 : decode cX11_type 24 = .ok (.ifCond .ne 6, 3) := by decide +kernel
theorem dX11_type_27 : decode cX11_type 27 = .ok (.bipush (-3), 2) := by decide +kernel
theorem dX11_type_29 : decode cX11_type 29 = .ok (.ireturn, 1) := by decide +kernel
theorem dX11_type_30 : decode cX11_type 30 = .ok (.iconst 0, 1) := by decide +kernel
theorem dX11_type_31 : decode cX11_type 31 = .ok (.istore 6, 2) := by decide +kernel
theorem dX11_type_33 : decode cX11_type 33 = .ok (.iload 6, 2) := by decide +kernel
theorem dX11_type_35 : decode cX11_type 35 = .ok (.iload 5, 2) := by decide +kernel
theorem dX11_type_37 : decode cX11_type 37 = .ok (.if_icmp .ge 49, 3) := by decide +kernel
theorem dX11_type_40 : decode cX11_type 40 = .ok (.iload 6, 2) := by decide +kernel
theorem dX11_type_42 : decode cX11_type 42 = .ok (.bipush 8, 2) := by decide +kernel
theorem dX11_type_44 : decode cX11_type 44 = .ok (.if_icmp .ge 7, 3) := by decide +kernel
theorem dX11_type_47 : decode cX11_type 47 = .ok (.lload_n 1, 1) := by decide +kernel
theorem dX11_type_48 : decode cX11_type 48 = .ok (.goto 4, 3) := by decide +kernel
theorem dX11_type_51 : decode cX11_type 51 = .ok (.lload_n 3, 1) := by decide +kernel
theorem dX11_type_52 : decode cX11_type 52 = .ok (.lstore 7, 2) := by decide +kernel
theorem dX11_type_54 : decode cX11_type 54 = .ok (.aload_n 0, 1) := by decide +kernel
theorem dX11_type_55 : decode cX11_type 55 = .ok (.getfield 10, 3) := by decide +kernel
theorem dX11_type_58 : decode cX11_type 58 = .ok (.lload 7, 2) := by decide +kernel
theorem dX11_type_60 : decode cX11_type 60 = .ok (.bipush 56, 2) := by decide +kernel
theorem dX11_type_62 : decode cX11_type 62 = .ok (.bipush 8, 2) := by decide +kernel
theorem dX11_type_64 : decode cX11_type 64 = .ok (.iload 6, 2) := by decide +kernel
theorem dX11_type_66 : decode cX11_type 66 = .ok (.bipush 7, 2) := by decide +kernel
theorem dX11_type_68 : decode cX11_type 68 = .ok (.iand, 1) := by decide +kernel
theorem dX11_type_69 : decode cX11_type 69 = .ok (.imul, 1) := by decide +kernel
theorem dX11_type_70 : decode cX11_type 70 = .ok (.isub, 1) := by decide +kernel
theorem dX11_type_71 : decode cX11_type 71 = .ok (.lushr, 1) := by decide +kernel
theorem dX11_type_72 : decode cX11_type 72 = .ok (.l2i, 1) := by decide +kernel
theorem dX11_type_73 : decode cX11_type 73 = .ok (.sipush 255, 3) := by decide +kernel
theorem dX11_type_76 : decode cX11_type 76 = .ok (.iand, 1) := by decide +kernel
theorem dX11_type_77 : decode cX11_type 77 = .ok (.invokevirtual 66, 3) := by decide +kernel
theorem dX11_type_80 : decode cX11_type 80 = .ok (.iinc 6 1, 3) := by decide +kernel
theorem dX11_type_83 : decode cX11_type 83 = .ok (.goto (-50), 3) := by decide +kernel
theorem dX11_type_86 : decode cX11_type 86 = .ok (.aload_n 0, 1) := by decide +kernel
theorem dX11_type_87 : decode cX11_type 87 = .ok (.getfield 10, 3) := by decide +kernel
theorem dX11_type_90 : decode cX11_type 90 = .ok (.invokevirtual 70, 3) := by decide +kernel
theorem dX11_type_93 : decode cX11_type 93 = .ok (.ireturn, 1) := by decide +kernel
theorem dX11_space_0 : decode cX11_space 0 = .ok (.iload_n 2, 1) := by decide +kernel
theorem dX11_space_1 : decode cX11_space 1 = .ok (.ifCond .lt 9, 3) := by decide +kernel
theorem dX11_space_4 : decode cX11_space 4 = .ok (.iload_n 2, 1) := by decide +kernel
theorem dX11_space_5 : decode cX11_space 5 = .ok (.bipush 80, 2) := by decide +kernel
theorem dX11_space_7 : decode cX11_space 7 = .ok (.if_icmp .le 6, 3) := by decide +kernel
theorem dX11_space_10 : decode cX11_space 10 = .ok (.bipush (-2), 2) := by decide +kernel
theorem dX11_space_12 : decode cX11_space 12 = .ok (.ireturn, 1) := by decide +kernel
theorem dX11_space_13 : decode cX11_space 13 = .ok (.aload_n 0, 1) := by decide +kernel
theorem dX11_space_14 : decode cX11_space 14 = .ok (.getfield 10, 3) := by decide +kernel
theorem dX11_space_17 : decode cX11_space 17 = .ok (.iload_n 1, 1) := by decide +kernel
theorem dX11_space_18 : decode cX11_space 18 = .ok (.ifCond .eq 9, 3) := by decide +kernel
theorem dX11_space_21 : decode cX11_space 21 = .ok (.iload_n 2, 1) := by decide +kernel
theorem dX11_space_22 : decode cX11_space 22 = .ok (.iconst 1, 1) := by decide +kernel
theorem dX11_space_23 : decode cX11_space 23 = .ok (.iadd, 1) := by decide +kernel
theorem dX11_space_24 : decode cX11_space 24 = .ok (.goto 4, 3) := by decide +kernel
theorem dX11_space_27 : decode cX11_space 27 = .ok (.iload_n 2, 1) := by decide +kernel
theorem dX11_space_28 : decode cX11_space 28 = .ok (.invokevirtual 62, 3) := by decide +kernel
theorem dX11_space_31 : decode cX11_space 31 = .ok (.ifCond .ne 6, 3) := by decide +kernel
theorem dX11_space_34 : decode cX11_space 34 = .ok (.bipush (-3), 2) := by decide +kernel
theorem dX11_space_36 : decode cX11_space 36 = .ok (.ireturn, 1) := by decide +kernel
theorem dX11_space_37 : decode cX11_space 37 = .ok (.iload_n 1, 1) := by decide +kernel
theorem dX11_space_38 : decode cX11_space 38 = .ok (.ifCond .eq 12, 3) := by decide +kernel
theorem dX11_space_41 : decode cX11_space 41 = .ok (.aload_n 0, 1) := by decide +kernel
theorem dX11_space_42 : decode cX11_space 42 = .ok (.getfield 10, 3) := by decide +kernel
theorem dX11_space_45 : decode cX11_space 45 = .ok (.bipush 10, 2) := by decide +kernel
theorem dX11_space_47 : decode cX11_space 47 = .ok (.invokevirtual 66, 3) := by decide +kernel
theorem dX11_space_50 : decode cX11_space 50 = .ok (.iconst 0, 1) := by decide +kernel
theorem dX11_space_51 : decode cX11_space 51 = .ok (.istore_n 3, 1) := by decide +kernel
theorem dX11_space_52 : decode cX11_space 52 = .ok (.iload_n 3, 1) := by decide +kernel
theorem dX11_space_53 : decode cX11_space 53 = .ok (.iload_n 2, 1) := by decide +kernel
theorem dX11_space_54 : decode cX11_space 54 = .ok (.if_icmp .ge 18, 3) := by decide +kernel
theorem dX11_space_57 : decode cX11_space 57 = .ok (.aload_n 0, 1) := by decide +kernel
theorem dX11_space_58 : decode cX11_space 58 = .ok (.getfield 10, 3) := by decide +kernel
theorem dX11_space_61 : decode cX11_space 61 = .ok (.bipush 32, 2) := by decide +kernel
theorem dX11_space_63 : decode cX11_space 63 = .ok (.invokevirtual 66, 3) := by decide +kernel
theorem dX11_space_66 : decode cX11_space 66 = .ok (.iinc 3 1, 3) := by decide +kernel
theorem dX11_space_69 : decode cX11_space 69 = .ok (.goto (-17), 3) := by decide +kernel
theorem dX11_space_72 : decode cX11_space 72 = .ok (.aload_n 0, 1) := by decide +kernel
theorem dX11_space_73 : decode cX11_space 73 = .ok (.getfield 10, 3) := by decide +kernel
theorem dX11_space_76 : decode cX11_space 76 = .ok (.invokevirtual 70, 3) := by decide +kernel
theorem dX11_space_79 : decode cX11_space 79 = .ok (.ireturn, 1) := by decide +kernel
theorem dX11_clear_0 : decode cX11_clear 0 = .ok (.aload_n 0, 1) := by decide +kernel
theorem dX11_clear_1 : decode cX11_clear 1 = .ok (.getfield 10, 3) := by decide +kernel
theorem dX11_clear_4 : decode cX11_clear 4 = .ok (.invokevirtual 70, 3) := by decide +kernel
theorem dX11_clear_7 : decode cX11_clear 7 = .ok (.istore_n 1, 1) := by decide +kernel
theorem dX11_clear_8 : decode cX11_clear 8 = .ok (.aload_n 0, 1) := by decide +kernel
theorem dX11_clear_9 : decode cX11_clear 9 = .ok (.getfield 10, 3) := by decide +kernel
theorem dX11_clear_12 : decode cX11_clear 12 = .ok (.invokevirtual 74, 3) := by decide +kernel
theorem dX11_clear_15 : decode cX11_clear 15 = .ok (.iload_n 1, 1) := by decide +kernel
theorem dX11_clear_16 : decode cX11_clear 16 = .ok (.ireturn, 1) := by decide +kernel
theorem dX11_at_0 : decode cX11_at 0 = .ok (.aload_n 0, 1) := by decide +kernel
theorem dX11_at_1 : decode cX11_at 1 = .ok (.getfield 10, 3) := by decide +kernel
theorem dX11_at_4 : decode cX11_at 4 = .ok (.iload_n 1, 1) := by decide +kernel
theorem dX11_at_5 : decode cX11_at 5 = .ok (.invokevirtual 77, 3) := by decide +kernel
theorem dX11_at_8 : decode cX11_at 8 = .ok (.ireturn, 1) := by decide +kernel
theorem dX11_alter_0 : decode cX11_alter 0 = .ok (.aload_n 0, 1) := by decide +kernel
theorem dX11_alter_1 : decode cX11_alter 1 = .ok (.getfield 10, 3) := by decide +kernel
theorem dX11_alter_4 : decode cX11_alter 4 = .ok (.iload_n 1, 1) := by decide +kernel
theorem dX11_alter_5 : decode cX11_alter 5 = .ok (.invokevirtual 77, 3) := by decide +kernel
theorem dX11_alter_8 : decode cX11_alter 8 = .ok (.istore_n 3, 1) := by decide +kernel
theorem dX11_alter_9 : decode cX11_alter 9 = .ok (.iload_n 3, 1) := by decide +kernel
theorem dX11_alter_10 : decode cX11_alter 10 = .ok (.iconst (-1), 1) := by decide +kernel
theorem dX11_alter_11 : decode cX11_alter 11 = .ok (.if_icmp .eq 14, 3) := by decide +kernel
theorem dX11_alter_25 : decode cX11_alter 25 = .ok (.bipush (-2), 2) := by decide +kernel
theorem dX11_alter_27 : decode cX11_alter 27 = .ok (.ireturn, 1) := by decide +kernel
theorem dX11_read_0 : decode cX11_read 0 = .ok (.aload_n 0, 1) := by decide +kernel
theorem dX11_read_1 : decode cX11_read 1 = .ok (.getfield 85, 3) := by decide +kernel
theorem dX11_read_4 : decode cX11_read 4 = .ok (.bipush 30, 2) := by decide +kernel
theorem dX11_read_6 : decode cX11_read 6 = .ok (.if_icmp .lt 6, 3) := by decide +kernel
theorem dX11_read_12 : decode cX11_read 12 = .ok (.aload_n 0, 1) := by decide +kernel
theorem dX11_read_13 : decode cX11_read 13 = .ok (.dup, 1) := by decide +kernel
theorem dX11_read_14 : decode cX11_read 14 = .ok (.getfield 85, 3) := by decide +kernel
theorem dX11_read_17 : decode cX11_read 17 = .ok (.iconst 1, 1) := by decide +kernel
theorem dX11_read_18 : decode cX11_read 18 = .ok (.iadd, 1) := by decide +kernel
theorem dX11_read_19 : decode cX11_read 19 = .ok (.putfield 85, 3) := by decide +kernel
theorem dX11_read_22 : decode cX11_read 22 = .ok (.aload_n 0, 1) := by decide +kernel
theorem dX11_read_23 : decode cX11_read 23 = .ok (.getfield 30, 3) := by decide +kernel
theorem dX11_read_26 : decode cX11_read 26 = .ok (.invokevirtual 89, 3) := by decide +kernel
theorem dX11_read_29 : decode cX11_read 29 = .ok (.aload_n 0, 1) := by decide +kernel
theorem dX11_read_30 : decode cX11_read 30 = .ok (.getfield 21, 3) := by decide +kernel
theorem dX11_read_33 : decode cX11_read 33 = .ok (.invokevirtual 90, 3) := by decide +kernel
theorem dX11_read_36 : decode cX11_read 36 = .ok (.aload_n 0, 1) := by decide +kernel
theorem dX11_read_37 : decode cX11_read 37 = .ok (.aload_n 0, 1) := by decide +kernel
theorem dX11_read_38 : decode cX11_read 38 = .ok (.getfield 21, 3) := by decide +kernel
theorem dX11_read_41 : decode cX11_read 41 = .ok (.invokevirtual 93, 3) := by decide +kernel
theorem dX11_read_44 : decode cX11_read 44 = .ok (.putfield 96, 3) := by decide +kernel
theorem dX11_read_47 : decode cX11_read 47 = .ok (.aload_n 0, 1) := by decide +kernel
theorem dX11_read_48 : decode cX11_read 48 = .ok (.getfield 96, 3) := by decide +kernel
theorem dX11_read_51 : decode cX11_read 51 = .ok (.ifCond .eq 14, 3) := by decide +kernel
theorem dX11_read_65 : decode cX11_read 65 = .ok (.aload_n 0, 1) := by decide +kernel
theorem dX11_read_66 : decode cX11_read 66 = .ok (.getfield 49, 3) := by decide +kernel
theorem dX11_read_69 : decode cX11_read 69 = .ok (.aload_n 0, 1) := by decide +kernel
theorem dX11_read_70 : decode cX11_read 70 = .ok (.getfield 41, 3) := by decide +kernel
theorem dX11_read_73 : decode cX11_read 73 = .ok (.invokevirtual 102, 3) := by decide +kernel
theorem dX11_read_76 : decode cX11_read 76 = .ok (.aload_n 0, 1) := by decide +kernel
theorem dX11_read_77 : decode cX11_read 77 = .ok (.aload_n 0, 1) := by decide +kernel
theorem dX11_read_78 : decode cX11_read 78 = .ok (.getfield 49, 3) := by decide +kernel
theorem dX11_read_81 : decode cX11_read 81 = .ok (.invokevirtual 105, 3) := by decide +kernel
theorem dX11_read_84 : decode cX11_read 84 = .ok (.putfield 96, 3) := by decide +kernel
theorem dX11_read_87 : decode cX11_read 87 = .ok (.aload_n 0, 1) := by decide +kernel
theorem dX11_read_88 : decode cX11_read 88 = .ok (.getfield 96, 3) := by decide +kernel
theorem dX11_read_91 : decode cX11_read 91 = .ok (.ifCond .eq 14, 3) := by decide +kernel
theorem dX11_read_105 : decode cX11_read 105 = .ok (.aload_n 0, 1) := by decide +kernel
theorem dX11_read_106 : decode cX11_read 106 = .ok (.getfield 41, 3) := by decide +kernel
theorem dX11_read_109 : decode cX11_read 109 = .ok (.aload_n 0, 1) := by decide +kernel
theorem dX11_read_110 : decode cX11_read 110 = .ok (.getfield 10, 3) := by decide +kernel
theorem dX11_read_113 : decode cX11_read 113 = .ok (.invokevirtual 107, 3) := by decide +kernel
theorem dX11_read_116 : decode cX11_read 116 = .ok (.aload_n 0, 1) := by decide +kernel
theorem dX11_read_117 : decode cX11_read 117 = .ok (.getfield 37, 3) := by decide +kernel
theorem dX11_read_120 : decode cX11_read 120 = .ok (.astore_n 1, 1) := by decide +kernel
theorem dX11_read_121 : decode cX11_read 121 = .ok (.aload_n 0, 1) := by decide +kernel
theorem dX11_read_122 : decode cX11_read 122 = .ok (.aload_n 0, 1) := by decide +kernel
theorem dX11_read_123 : decode cX11_read 123 = .ok (.getfield 41, 3) := by decide +kernel
theorem dX11_read_126 : decode cX11_read 126 = .ok (.putfield 37, 3) := by decide +kernel
theorem dX11_read_129 : decode cX11_read 129 = .ok (.aload_n 0, 1) := by decide +kernel
theorem dX11_read_130 : decode cX11_read 130 = .ok (.aload_n 1, 1) := by decide +kernel
theorem dX11_read_131 : decode cX11_read 131 = .ok (.putfield 41, 3) := by decide +kernel
theorem dX11_read_134 : decode cX11_read 134 = .ok (.aload_n 0, 1) := by decide +kernel
theorem dX11_read_135 : decode cX11_read 135 = .ok (.getfield 37, 3) := by decide +kernel
theorem dX11_read_138 : decode cX11_read 138 = .ok (.invokevirtual 110, 3) := by decide +kernel
theorem dX11_read_141 : decode cX11_read 141 = .ok (.ireturn, 1) := by decide +kernel
theorem dX11_fault_0 : decode cX11_fault 0 = .ok (.aload_n 0, 1) := by decide +kernel
theorem dX11_fault_1 : decode cX11_fault 1 = .ok (.getfield 96, 3) := by decide +kernel
theorem dX11_fault_4 : decode cX11_fault 4 = .ok (.ireturn, 1) := by decide +kernel
theorem dX11_lexeme_0 : decode cX11_lexeme 0 = .ok (.iload_n 2, 1) := by decide +kernel
theorem dX11_lexeme_1 : decode cX11_lexeme 1 = .ok (.ifCond .lt 8, 3) := by decide +kernel
theorem dX11_lexeme_4 : decode cX11_lexeme 4 = .ok (.iload_n 2, 1) := by decide +kernel
theorem dX11_lexeme_5 : decode cX11_lexeme 5 = .ok (.iconst 5, 1) := by decide +kernel
theorem dX11_lexeme_6 : decode cX11_lexeme 6 = .ok (.if_icmp .le 6, 3) := by decide +kernel
theorem dX11_lexeme_9 : decode cX11_lexeme 9 = .ok (.bipush (-2), 2) := by decide +kernel
theorem dX11_lexeme_11 : decode cX11_lexeme 11 = .ok (.ireturn, 1) := by decide +kernel
theorem dX11_lexeme_12 : decode cX11_lexeme 12 = .ok (.iload_n 1, 1) := by decide +kernel
theorem dX11_lexeme_13 : decode cX11_lexeme 13 = .ok (.ifCond .lt 14, 3) := by decide +kernel
theorem dX11_lexeme_16 : decode cX11_lexeme 16 = .ok (.iload_n 1, 1) := by decide +kernel
theorem dX11_lexeme_17 : decode cX11_lexeme 17 = .ok (.aload_n 0, 1) := by decide +kernel
theorem dX11_lexeme_18 : decode cX11_lexeme 18 = .ok (.getfield 21, 3) := by decide +kernel
theorem dX11_lexeme_21 : decode cX11_lexeme 21 = .ok (.invokevirtual 113, 3) := by decide +kernel
theorem dX11_lexeme_24 : decode cX11_lexeme 24 = .ok (.if_icmp .lt 5, 3) := by decide +kernel
theorem dX11_lexeme_27 : decode cX11_lexeme 27 = .ok (.iconst (-1), 1) := by decide +kernel
theorem dX11_lexeme_28 : decode cX11_lexeme 28 = .ok (.ireturn, 1) := by decide +kernel
theorem dX11_token_0 : decode cX11_token 0 = .ok (.aload_n 0, 1) := by decide +kernel
theorem dX11_token_1 : decode cX11_token 1 = .ok (.getfield 30, 3) := by decide +kernel
theorem dX11_token_4 : decode cX11_token 4 = .ok (.iload_n 1, 1) := by decide +kernel
theorem dX11_token_5 : decode cX11_token 5 = .ok (.invokevirtual 132, 3) := by decide +kernel
theorem dX11_token_8 : decode cX11_token 8 = .ok (.ireturn, 1) := by decide +kernel
theorem dX11_count_0 : decode cX11_count 0 = .ok (.iload_n 1, 1) := by decide +kernel
theorem dX11_count_1 : decode cX11_count 1 = .ok (.tableswitch 72 0 4 #[35, 43, 51, 59, 67], 35) := by decide +kernel
theorem dX11_count_36 : decode cX11_count 36 = .ok (.aload_n 0, 1) := by decide +kernel
theorem dX11_count_37 : decode cX11_count 37 = .ok (.getfield 10, 3) := by decide +kernel
theorem dX11_count_40 : decode cX11_count 40 = .ok (.invokevirtual 70, 3) := by decide +kernel
theorem dX11_count_43 : decode cX11_count 43 = .ok (.ireturn, 1) := by decide +kernel
theorem dX11_count_44 : decode cX11_count 44 = .ok (.aload_n 0, 1) := by decide +kernel
theorem dX11_count_45 : decode cX11_count 45 = .ok (.getfield 21, 3) := by decide +kernel
theorem dX11_count_48 : decode cX11_count 48 = .ok (.invokevirtual 113, 3) := by decide +kernel
theorem dX11_count_51 : decode cX11_count 51 = .ok (.ireturn, 1) := by decide +kernel
theorem dX11_count_52 : decode cX11_count 52 = .ok (.aload_n 0, 1) := by decide +kernel
theorem dX11_count_53 : decode cX11_count 53 = .ok (.getfield 30, 3) := by decide +kernel
theorem dX11_count_56 : decode cX11_count 56 = .ok (.invokevirtual 135, 3) := by decide +kernel
theorem dX11_count_59 : decode cX11_count 59 = .ok (.ireturn, 1) := by decide +kernel
theorem dX11_count_60 : decode cX11_count 60 = .ok (.aload_n 0, 1) := by decide +kernel
theorem dX11_count_61 : decode cX11_count 61 = .ok (.getfield 37, 3) := by decide +kernel
theorem dX11_count_64 : decode cX11_count 64 = .ok (.invokevirtual 110, 3) := by decide +kernel
theorem dX11_count_67 : decode cX11_count 67 = .ok (.ireturn, 1) := by decide +kernel
theorem dX11_count_68 : decode cX11_count 68 = .ok (.aload_n 0, 1) := by decide +kernel
theorem dX11_count_69 : decode cX11_count 69 = .ok (.getfield 85, 3) := by decide +kernel
theorem dX11_count_72 : decode cX11_count 72 = .ok (.ireturn, 1) := by decide +kernel
theorem dX11_count_73 : decode cX11_count 73 = .ok (.bipush (-2), 2) := by decide +kernel
theorem dX11_count_75 : decode cX11_count 75 = .ok (.ireturn, 1) := by decide +kernel
theorem dX11_node_0 : decode cX11_node 0 = .ok (.aload_n 0, 1) := by decide +kernel
theorem dX11_node_1 : decode cX11_node 1 = .ok (.getfield 37, 3) := by decide +kernel
theorem dX11_node_4 : decode cX11_node 4 = .ok (.iload_n 1, 1) := by decide +kernel
theorem dX11_node_5 : decode cX11_node 5 = .ok (.invokevirtual 136, 3) := by decide +kernel
theorem dX11_node_8 : decode cX11_node 8 = .ok (.ifCond .ne 6, 3) := by decide +kernel
theorem dX11_node_11 : decode cX11_node 11 = .ok (.ldc 139, 2) := by decide +kernel
theorem dX11_node_13 : decode cX11_node 13 = .ok (.ireturn, 1) := by decide +kernel
theorem dX11_letter_0 : decode cX11_letter 0 = .ok (.aload_n 0, 1) := by decide +kernel
theorem dX11_letter_1 : decode cX11_letter 1 = .ok (.getfield 37, 3) := by decide +kernel
theorem dX11_letter_4 : decode cX11_letter 4 = .ok (.iload_n 1, 1) := by decide +kernel
theorem dX11_letter_5 : decode cX11_letter 5 = .ok (.invokevirtual 136, 3) := by decide +kernel
theorem dX11_letter_8 : decode cX11_letter 8 = .ok (.ifCond .eq 15, 3) := by decide +kernel
theorem dX11_letter_23 : decode cX11_letter 23 = .ok (.bipush (-2), 2) := by decide +kernel
theorem dX11_letter_25 : decode cX11_letter 25 = .ok (.ireturn, 1) := by decide +kernel
theorem dX11_child_0 : decode cX11_child 0 = .ok (.aload_n 0, 1) := by decide +kernel
theorem dX11_child_1 : decode cX11_child 1 = .ok (.getfield 37, 3) := by decide +kernel
theorem dX11_child_4 : decode cX11_child 4 = .ok (.iload_n 1, 1) := by decide +kernel
theorem dX11_child_5 : decode cX11_child 5 = .ok (.invokevirtual 136, 3) := by decide +kernel
theorem dX11_child_8 : decode cX11_child 8 = .ok (.ifCond .eq 15, 3) := by decide +kernel
theorem dX11_child_23 : decode cX11_child 23 = .ok (.bipush (-2), 2) := by decide +kernel
theorem dX11_child_25 : decode cX11_child 25 = .ok (.ireturn, 1) := by decide +kernel
theorem dX11_write_0 : decode cX11_write 0 = .ok (.iload_n 1, 1) := by decide +kernel
theorem dX11_write_1 : decode cX11_write 1 = .ok (.ifCond .eq 11, 3) := by decide +kernel
theorem dX11_write_4 : decode cX11_write 4 = .ok (.iload_n 1, 1) := by decide +kernel
theorem dX11_write_5 : decode cX11_write 5 = .ok (.iconst 1, 1) := by decide +kernel
theorem dX11_write_6 : decode cX11_write 6 = .ok (.if_icmp .eq 6, 3) := by decide +kernel
theorem dX11_write_9 : decode cX11_write 9 = .ok (.bipush (-2), 2) := by decide +kernel
theorem dX11_write_11 : decode cX11_write 11 = .ok (.ireturn, 1) := by decide +kernel
theorem dX11_write_12 : decode cX11_write 12 = .ok (.aload_n 0, 1) := by decide +kernel
theorem dX11_write_13 : decode cX11_write 13 = .ok (.getfield 37, 3) := by decide +kernel
theorem dX11_write_16 : decode cX11_write 16 = .ok (.invokevirtual 110, 3) := by decide +kernel
theorem dX11_write_19 : decode cX11_write 19 = .ok (.ifCond .ne 6, 3) := by decide +kernel
theorem dX11_write_22 : decode cX11_write 22 = .ok (.bipush (-4), 2) := by decide +kernel
theorem dX11_write_24 : decode cX11_write 24 = .ok (.ireturn, 1) := by decide +kernel
theorem dX11_digest_0 : decode cX11_digest 0 = .ok (.ldc2_w 168, 3) := by decide +kernel
theorem dX11_digest_3 : decode cX11_digest 3 = .ok (.lstore_n 1, 1) := by decide +kernel
theorem dX11_digest_4 : decode cX11_digest 4 = .ok (.iconst 0, 1) := by decide +kernel
theorem dX11_digest_5 : decode cX11_digest 5 = .ok (.istore_n 3, 1) := by decide +kernel
theorem dX11_digest_6 : decode cX11_digest 6 = .ok (.iload_n 3, 1) := by decide +kernel
theorem dX11_digest_7 : decode cX11_digest 7 = .ok (.aload_n 0, 1) := by decide +kernel
theorem dX11_digest_8 : decode cX11_digest 8 = .ok (.getfield 37, 3) := by decide +kernel
theorem dX11_digest_11 : decode cX11_digest 11 = .ok (.invokevirtual 110, 3) := by decide +kernel
theorem dX11_digest_14 : decode cX11_digest 14 = .ok (.if_icmp .ge 127, 3) := by decide +kernel
theorem dX11_digest_141 : decode cX11_digest 141 = .ok (.lload_n 1, 1) := by decide +kernel
theorem dX11_digest_142 : decode cX11_digest 142 = .ok (.lreturn, 1) := by decide +kernel
theorem dX12_init_0 : decode cX12_init 0 = .ok (.aload_n 0, 1) := by decide +kernel
theorem dX12_init_1 : decode cX12_init 1 = .ok (.invokespecial 1, 3) := by decide +kernel
theorem dX12_init_4 : decode cX12_init 4 = .ok (.aload_n 0, 1) := by decide +kernel
theorem dX12_init_5 : decode cX12_init 5 = .ok (.sipush 3000, 3) := by decide +kernel
theorem dX12_init_8 : decode cX12_init 8 = .ok (.newarray .int, 2) := by decide +kernel
theorem dX12_init_10 : decode cX12_init 10 = .ok (.putfield 7, 3) := by decide +kernel
theorem dX12_init_13 : decode cX12_init 13 = .ok (.aload_n 0, 1) := by decide +kernel
theorem dX12_init_14 : decode cX12_init 14 = .ok (.sipush 801, 3) := by decide +kernel
theorem dX12_init_17 : decode cX12_init 17 = .ok (.newarray .int, 2) := by decide +kernel
theorem dX12_init_19 : decode cX12_init 19 = .ok (.putfield 13, 3) := by decide +kernel
theorem dX12_init_22 : decode cX12_init 22 = .ok (.aload_n 0, 1) := by decide +kernel
theorem dX12_init_23 : decode cX12_init 23 = .ok (.sipush 801, 3) := by decide +kernel
theorem dX12_init_26 : decode cX12_init 26 = .ok (.newarray .int, 2) := by decide +kernel
theorem dX12_init_28 : decode cX12_init 28 = .ok (.putfield 16, 3) := by decide +kernel
theorem dX12_init_31 : decode cX12_init 31 = .ok (.aload_n 0, 1) := by decide +kernel
theorem dX12_init_32 : decode cX12_init 32 = .ok (.sipush 801, 3) := by decide +kernel
theorem dX12_init_35 : decode cX12_init 35 = .ok (.newarray .int, 2) := by decide +kernel
theorem dX12_init_37 : decode cX12_init 37 = .ok (.putfield 19, 3) := by decide +kernel
theorem dX12_init_40 : decode cX12_init 40 = .ok (.aload_n 0, 1) := by decide +kernel
theorem dX12_init_41 : decode cX12_init 41 = .ok (.sipush 801, 3) := by decide +kernel
theorem dX12_init_44 : decode cX12_init 44 = .ok (.newarray .int, 2) := by decide +kernel
theorem dX12_init_46 : decode cX12_init 46 = .ok (.putfield 22, 3) := by decide +kernel
theorem dX12_init_49 : decode cX12_init 49 = .ok (.aload_n 0, 1) := by decide +kernel
theorem dX12_init_50 : decode cX12_init 50 = .ok (.sipush 801, 3) := by decide +kernel
theorem dX12_init_53 : decode cX12_init 53 = .ok (.newarray .int, 2) := by decide +kernel
theorem dX12_init_55 : decode cX12_init 55 = .ok (.putfield 25, 3) := by decide +kernel
theorem dX12_init_58 : decode cX12_init 58 = .ok (.aload_n 0, 1) := by decide +kernel
theorem dX12_init_59 : decode cX12_init 59 = .ok (.sipush 801, 3) := by decide +kernel
theorem dX12_init_62 : decode cX12_init 62 = .ok (.newarray .int, 2) := by decide +kernel
theorem dX12_init_64 : decode cX12_init 64 = .ok (.putfield 28, 3) := by decide +kernel
theorem dX12_init_67 : decode cX12_init 67 = .ok (.aload_n 0, 1) := by decide +kernel
theorem dX12_init_68 : decode cX12_init 68 = .ok (.sipush 801, 3) := by decide +kernel
theorem dX12_init_71 : decode cX12_init 71 = .ok (.newarray .int, 2) := by decide +kernel
theorem dX12_init_73 : decode cX12_init 73 = .ok (.putfield 31, 3) := by decide +kernel
theorem dX12_init_76 : decode cX12_init 76 = .ok (.aload_n 0, 1) := by decide +kernel
theorem dX12_init_77 : decode cX12_init 77 = .ok (.sipush 801, 3) := by decide +kernel
theorem dX12_init_80 : decode cX12_init 80 = .ok (.newarray .int, 2) := by decide +kernel
theorem dX12_init_82 : decode cX12_init 82 = .ok (.putfield 34, 3) := by decide +kernel
theorem dX12_init_85 : decode cX12_init 85 = .ok (.aload_n 0, 1) := by decide +kernel
theorem dX12_init_86 : decode cX12_init 86 = .ok (.sipush 9612, 3) := by decide +kernel
theorem dX12_init_89 : decode cX12_init 89 = .ok (.newarray .int, 2) := by decide +kernel
theorem dX12_init_91 : decode cX12_init 91 = .ok (.putfield 37, 3) := by decide +kernel
theorem dX12_init_94 : decode cX12_init 94 = .ok (.aload_n 0, 1) := by decide +kernel
theorem dX12_init_95 : decode cX12_init 95 = .ok (.sipush 3000, 3) := by decide +kernel
theorem dX12_init_98 : decode cX12_init 98 = .ok (.newarray .int, 2) := by decide +kernel
theorem dX12_init_100 : decode cX12_init 100 = .ok (.putfield 40, 3) := by decide +kernel
theorem dX12_init_103 : decode cX12_init 103 = .ok (.aload_n 0, 1) := by decide +kernel
theorem dX12_init_104 : decode cX12_init 104 = .ok (.sipush 3000, 3) := by decide +kernel
theorem dX12_init_107 : decode cX12_init 107 = .ok (.newarray .int, 2) := by decide +kernel
theorem dX12_init_109 : decode cX12_init 109 = .ok (.putfield 43, 3) := by decide +kernel
theorem dX12_init_112 : decode cX12_init 112 = .ok (.aload_n 0, 1) := by decide +kernel
theorem dX12_init_113 : decode cX12_init 113 = .ok (.sipush 3000, 3) := by decide +kernel
theorem dX12_init_116 : decode cX12_init 116 = .ok (.newarray .int, 2) := by decide +kernel
theorem dX12_init_118 : decode cX12_init 118 = .ok (.putfield 46, 3) := by decide +kernel
theorem dX12_init_121 : decode cX12_init 121 = .ok (.aload_n 0, 1) := by decide +kernel
theorem dX12_init_122 : decode cX12_init 122 = .ok (.sipush 400, 3) := by decide +kernel
theorem dX12_init_125 : decode cX12_init 125 = .ok (.newarray .int, 2) := by decide +kernel
theorem dX12_init_127 : decode cX12_init 127 = .ok (.putfield 49, 3) := by decide +kernel
theorem dX12_init_130 : decode cX12_init 130 = .ok (.aload_n 0, 1) := by decide +kernel
theorem dX12_init_131 : decode cX12_init 131 = .ok (.sipush 400, 3) := by decide +kernel
theorem dX12_init_134 : decode cX12_init 134 = .ok (.newarray .int, 2) := by decide +kernel
theorem dX12_init_136 : decode cX12_init 136 = .ok (.putfield 52, 3) := by decide +kernel
theorem dX12_init_139 : decode cX12_init 139 = .ok (.aload_n 0, 1) := by decide +kernel
theorem dX12_init_140 : decode cX12_init 140 = .ok (.sipush 400, 3) := by decide +kernel
theorem dX12_init_143 : decode cX12_init 143 = .ok (.newarray .int, 2) := by decide +kernel
theorem dX12_init_145 : decode cX12_init 145 = .ok (.putfield 55, 3) := by decide +kernel
theorem dX12_init_148 : decode cX12_init 148 = .ok (.aload_n 0, 1) := by decide +kernel
theorem dX12_init_149 : decode cX12_init 149 = .ok (.sipush 400, 3) := by decide +kernel
theorem dX12_init_152 : decode cX12_init 152 = .ok (.newarray .int, 2) := by decide +kernel
theorem dX12_init_154 : decode cX12_init 154 = .ok (.putfield 58, 3) := by decide +kernel
theorem dX12_init_157 : decode cX12_init 157 = .ok (.aload_n 0, 1) := by decide +kernel
theorem dX12_init_158 : decode cX12_init 158 = .ok (.sipush 5000, 3) := by decide +kernel
theorem dX12_init_161 : decode cX12_init 161 = .ok (.newarray .int, 2) := by decide +kernel
theorem dX12_init_163 : decode cX12_init 163 = .ok (.putfield 61, 3) := by decide +kernel
theorem dX12_init_166 : decode cX12_init 166 = .ok (.aload_n 0, 1) := by decide +kernel
theorem dX12_init_167 : decode cX12_init 167 = .ok (.bipush 64, 2) := by decide +kernel
theorem dX12_init_169 : decode cX12_init 169 = .ok (.newarray .int, 2) := by decide +kernel
theorem dX12_init_171 : decode cX12_init 171 = .ok (.putfield 64, 3) := by decide +kernel
theorem dX12_init_174 : decode cX12_init 174 = .ok (.aload_n 0, 1) := by decide +kernel
theorem dX12_init_175 : decode cX12_init 175 = .ok (.sipush 3000, 3) := by decide +kernel
theorem dX12_init_178 : decode cX12_init 178 = .ok (.newarray .int, 2) := by decide +kernel
theorem dX12_init_180 : decode cX12_init 180 = .ok (.putfield 67, 3) := by decide +kernel
theorem dX12_init_183 : decode cX12_init 183 = .ok (.aload_n 0, 1) := by decide +kernel
theorem dX12_init_184 : decode cX12_init 184 = .ok (.sipush 3000, 3) := by decide +kernel
theorem dX12_init_187 : decode cX12_init 187 = .ok (.newarray .int, 2) := by decide +kernel
theorem dX12_init_189 : decode cX12_init 189 = .ok (.putfield 70, 3) := by decide +kernel
theorem dX12_init_192 : decode cX12_init 192 = .ok (.aload_n 0, 1) := by decide +kernel
theorem dX12_init_193 : decode cX12_init 193 = .ok (.sipush 3000, 3) := by decide +kernel
theorem dX12_init_196 : decode cX12_init 196 = .ok (.newarray .int, 2) := by decide +kernel
theorem dX12_init_198 : decode cX12_init 198 = .ok (.putfield 73, 3) := by decide +kernel
theorem dX12_init_201 : decode cX12_init 201 = .ok (.aload_n 0, 1) := by decide +kernel
theorem dX12_init_202 : decode cX12_init 202 = .ok (.sipush 3000, 3) := by decide +kernel
theorem dX12_init_205 : decode cX12_init 205 = .ok (.newarray .int, 2) := by decide +kernel
theorem dX12_init_207 : decode cX12_init 207 = .ok (.putfield 76, 3) := by decide +kernel
theorem dX12_init_210 : decode cX12_init 210 = .ok (.aload_n 0, 1) := by decide +kernel
theorem dX12_init_211 : decode cX12_init 211 = .ok (.sipush 3000, 3) := by decide +kernel
theorem dX12_init_214 : decode cX12_init 214 = .ok (.newarray .int, 2) := by decide +kernel
theorem dX12_init_216 : decode cX12_init 216 = .ok (.putfield 79, 3) := by decide +kernel
theorem dX12_init_219 : decode cX12_init 219 = .ok (.aload_n 0, 1) := by decide +kernel
theorem dX12_init_220 : decode cX12_init 220 = .ok (.ldc 82, 2) := by decide +kernel
theorem dX12_init_222 : decode cX12_init 222 = .ok (.newarray .int, 2) := by decide +kernel
theorem dX12_init_224 : decode cX12_init 224 = .ok (.putfield 83, 3) := by decide +kernel
theorem dX12_init_227 : decode cX12_init 227 = .ok (.aload_n 0, 1) := by decide +kernel
theorem dX12_init_228 : decode cX12_init 228 = .ok (.sipush 3000, 3) := by decide +kernel
theorem dX12_init_231 : decode cX12_init 231 = .ok (.newarray .int, 2) := by decide +kernel
theorem dX12_init_233 : decode cX12_init 233 = .ok (.putfield 86, 3) := by decide +kernel
theorem dX12_init_236 : decode cX12_init 236 = .ok (.aload_n 0, 1) := by decide +kernel
theorem dX12_init_237 : decode cX12_init 237 = .ok (.sipush 8000, 3) := by decide +kernel
theorem dX12_init_240 : decode cX12_init 240 = .ok (.newarray .int, 2) := by decide +kernel
theorem dX12_init_242 : decode cX12_init 242 = .ok (.putfield 89, 3) := by decide +kernel
theorem dX12_init_245 : decode cX12_init 245 = .ok (.return_, 1) := by decide +kernel
theorem dX12_in_0 : decode cX12_in 0 = .ok (.lload_n 0, 1) := by decide +kernel
theorem dX12_in_1 : decode cX12_in 1 = .ok (.lload_n 2, 1) := by decide +kernel
theorem dX12_in_2 : decode cX12_in 2 = .ok (.lcmp, 1) := by decide +kernel
theorem dX12_in_3 : decode cX12_in 3 = .ok (.ifCond .lt 14, 3) := by decide +kernel
theorem dX12_in_6 : decode cX12_in 6 = .ok (.lload_n 0, 1) := by decide +kernel
theorem dX12_in_7 : decode cX12_in 7 = .ok (.lload 4, 2) := by decide +kernel
theorem dX12_in_9 : decode cX12_in 9 = .ok (.lcmp, 1) := by decide +kernel
theorem dX12_in_10 : decode cX12_in 10 = .ok (.ifCond .gt 7, 3) := by decide +kernel
theorem dX12_in_13 : decode cX12_in 13 = .ok (.iconst 1, 1) := by decide +kernel
theorem dX12_in_14 : decode cX12_in 14 = .ok (.goto 4, 3) := by decide +kernel
theorem dX12_in_17 : decode cX12_in 17 = .ok (.iconst 0, 1) := by decide +kernel
theorem dX12_in_18 : decode cX12_in 18 = .ok (.ireturn, 1) := by decide +kernel
theorem dX12_type_0 : decode cX12_type 0 = .ok (.iload 5, 2) := by decide +kernel
theorem dX12_type_2 : decode cX12_type 2 = .ok (.i2l, 1) := by decide +kernel
theorem dX12_type_3 : decode cX12_type 3 = .ok (.lconst 0, 1) := by decide +kernel
theorem dX12_type_4 : decode cX12_type 4 = .ok (.ldc2_w 92, 3) := by decide +kernel
theorem dX12_type_7 : decode cX12_type 7 = .ok (.invokestatic 94, 3) := by decide +kernel
theorem dX12_type_10 : decode cX12_type 10 = .ok (.ifCond .ne 6, 3) := by decide +kernel
theorem dX12_type_13 : decode cX12_type 13 = .ok (.bipush (-2), 2) := by decide +kernel
theorem dX12_type_15 : decode cX12_type 15 = .ok (.ireturn, 1) := by decide +kernel
theorem dX12_type_16 : decode cX12_type 16 = .ok (.aload_n 0, 1) := by decide +kernel
theorem dX12_type_17 : decode cX12_type 17 = .ok (.getfield 98, 3) := by decide +kernel
theorem dX12_type_20 : decode cX12_type 20 = .ok (.iload 5, 2) := by decide +kernel
theorem dX12_type_22 : decode cX12_type 22 = .ok (.iadd, 1) := by decide +kernel
theorem dX12_type_23 : decode cX12_type 23 = .ok (.sipush 3000, 3) := by decide +kernel
theorem dX12_type_26 : decode cX12_type 26 = .ok (.if_icmp .le 6, 3) := by decide +kernel
theorem dX12_type_29 : decode cX12_type 29 = .ok (.bipush (-3), 2) := by decide +kernel
theorem dX12_type_31 : decode cX12_type 31 = .ok (.ireturn, 1) := by decide +kernel
theorem dX12_type_32 : decode cX12_type 32 = .ok (.iconst 0, 1) := by decide +kernel
theorem dX12_type_33 : decode cX12_type 33 = .ok (.istore 6, 2) := by decide +kernel
theorem dX12_type_35 : decode cX12_type 35 = .ok (.iload 6, 2) := by decide +kernel
theorem dX12_type_37 : decode cX12_type 37 = .ok (.iload 5, 2) := by decide +kernel
theorem dX12_type_39 : decode cX12_type 39 = .ok (.if_icmp .ge 67, 3) := by decide +kernel
theorem dX12_type_42 : decode cX12_type 42 = .ok (.aload_n 0, 1) := by decide +kernel
theorem dX12_type_43 : decode cX12_type 43 = .ok (.getfield 7, 3) := by decide +kernel
theorem dX12_type_46 : decode cX12_type 46 = .ok (.aload_n 0, 1) := by decide +kernel
theorem dX12_type_47 : decode cX12_type 47 = .ok (.getfield 98, 3) := by decide +kernel
theorem dX12_type_50 : decode cX12_type 50 = .ok (.iload 6, 2) := by decide +kernel
theorem dX12_type_52 : decode cX12_type 52 = .ok (.bipush 8, 2) := by decide +kernel
theorem dX12_type_54 : decode cX12_type 54 = .ok (.if_icmp .ge 20, 3) := by decide +kernel
theorem dX12_type_57 : decode cX12_type 57 = .ok (.lload_n 1, 1) := by decide +kernel
theorem dX12_type_58 : decode cX12_type 58 = .ok (.bipush 56, 2) := by decide +kernel
theorem dX12_type_60 : decode cX12_type 60 = .ok (.bipush 8, 2) := by decide +kernel
theorem dX12_type_62 : decode cX12_type 62 = .ok (.iload 6, 2) := by decide +kernel
theorem dX12_type_64 : decode cX12_type 64 = .ok (.imul, 1) := by decide +kernel
theorem dX12_type_65 : decode cX12_type 65 = .ok (.isub, 1) := by decide +kernel
theorem dX12_type_66 : decode cX12_type 66 = .ok (.lshr, 1) := by decide +kernel
theorem dX12_type_67 : decode cX12_type 67 = .ok (.ldc2_w 102, 3) := by decide +kernel
theorem dX12_type_70 : decode cX12_type 70 = .ok (.land, 1) := by decide +kernel
theorem dX12_type_71 : decode cX12_type 71 = .ok (.goto 17, 3) := by decide +kernel
theorem dX12_type_74 : decode cX12_type 74 = .ok (.lload_n 3, 1) := by decide +kernel
theorem dX12_type_75 : decode cX12_type 75 = .ok (.bipush 120, 2) := by decide +kernel
theorem dX12_type_77 : decode cX12_type 77 = .ok (.bipush 8, 2) := by decide +kernel
theorem dX12_type_79 : decode cX12_type 79 = .ok (.iload 6, 2) := by decide +kernel
theorem dX12_type_81 : decode cX12_type 81 = .ok (.imul, 1) := by decide +kernel
theorem dX12_type_82 : decode cX12_type 82 = .ok (.isub, 1) := by decide +kernel
theorem dX12_type_83 : decode cX12_type 83 = .ok (.lshr, 1) := by decide +kernel
theorem dX12_type_84 : decode cX12_type 84 = .ok (.ldc2_w 102, 3) := by decide +kernel
theorem dX12_type_87 : decode cX12_type 87 = .ok (.land, 1) := by decide +kernel
theorem dX12_type_88 : decode cX12_type 88 = .ok (.l2i, 1) := by decide +kernel
theorem dX12_type_89 : decode cX12_type 89 = .ok (.iastore, 1) := by decide +kernel
theorem dX12_type_90 : decode cX12_type 90 = .ok (.aload_n 0, 1) := by decide +kernel
theorem dX12_type_91 : decode cX12_type 91 = .ok (.dup, 1) := by decide +kernel
theorem dX12_type_92 : decode cX12_type 92 = .ok (.getfield 98, 3) := by decide +kernel
theorem dX12_type_95 : decode cX12_type 95 = .ok (.iconst 1, 1) := by decide +kernel
theorem dX12_type_96 : decode cX12_type 96 = .ok (.iadd, 1) := by decide +kernel
theorem dX12_type_97 : decode cX12_type 97 = .ok (.putfield 98, 3) := by decide +kernel
theorem dX12_type_100 : decode cX12_type 100 = .ok (.iinc 6 1, 3) := by decide +kernel
theorem dX12_type_103 : decode cX12_type 103 = .ok (.goto (-68), 3) := by decide +kernel
theorem dX12_type_106 : decode cX12_type 106 = .ok (.aload_n 0, 1) := by decide +kernel
theorem dX12_type_107 : decode cX12_type 107 = .ok (.getfield 98, 3) := by decide +kernel
theorem dX12_type_110 : decode cX12_type 110 = .ok (.ireturn, 1) := by decide +kernel
theorem dX12_space_0 : decode cX12_space 0 = .ok (.iload_n 2, 1) := by decide +kernel
theorem dX12_space_1 : decode cX12_space 1 = .ok (.i2l, 1) := by decide +kernel
theorem dX12_space_2 : decode cX12_space 2 = .ok (.lconst 0, 1) := by decide +kernel
theorem dX12_space_3 : decode cX12_space 3 = .ok (.ldc2_w 104, 3) := by decide +kernel
theorem dX12_space_6 : decode cX12_space 6 = .ok (.invokestatic 94, 3) := by decide +kernel
theorem dX12_space_9 : decode cX12_space 9 = .ok (.ifCond .ne 6, 3) := by decide +kernel
theorem dX12_space_12 : decode cX12_space 12 = .ok (.bipush (-2), 2) := by decide +kernel
theorem dX12_space_14 : decode cX12_space 14 = .ok (.ireturn, 1) := by decide +kernel
theorem dX12_space_15 : decode cX12_space 15 = .ok (.aload_n 0, 1) := by decide +kernel
theorem dX12_space_16 : decode cX12_space 16 = .ok (.getfield 98, 3) := by decide +kernel
theorem dX12_space_19 : decode cX12_space 19 = .ok (.iload_n 2, 1) := by decide +kernel
theorem dX12_space_20 : decode cX12_space 20 = .ok (.iadd, 1) := by decide +kernel
theorem dX12_space_21 : decode cX12_space 21 = .ok (.iload_n 1, 1) := by decide +kernel
theorem dX12_space_22 : decode cX12_space 22 = .ok (.ifCond .eq 7, 3) := by decide +kernel
theorem dX12_space_25 : decode cX12_space 25 = .ok (.iconst 1, 1) := by decide +kernel
theorem dX12_space_26 : decode cX12_space 26 = .ok (.goto 4, 3) := by decide +kernel
theorem dX12_space_29 : decode cX12_space 29 = .ok (.iconst 0, 1) := by decide +kernel
theorem dX12_space_30 : decode cX12_space 30 = .ok (.iadd, 1) := by decide +kernel
theorem dX12_space_31 : decode cX12_space 31 = .ok (.sipush 3000, 3) := by decide +kernel
theorem dX12_space_34 : decode cX12_space 34 = .ok (.if_icmp .le 6, 3) := by decide +kernel
theorem dX12_space_37 : decode cX12_space 37 = .ok (.bipush (-3), 2) := by decide +kernel
theorem dX12_space_39 : decode cX12_space 39 = .ok (.ireturn, 1) := by decide +kernel
theorem dX12_space_40 : decode cX12_space 40 = .ok (.iload_n 1, 1) := by decide +kernel
theorem dX12_space_41 : decode cX12_space 41 = .ok (.ifCond .eq 24, 3) := by decide +kernel
theorem dX12_space_44 : decode cX12_space 44 = .ok (.aload_n 0, 1) := by decide +kernel
theorem dX12_space_45 : decode cX12_space 45 = .ok (.getfield 7, 3) := by decide +kernel
theorem dX12_space_48 : decode cX12_space 48 = .ok (.aload_n 0, 1) := by decide +kernel
theorem dX12_space_49 : decode cX12_space 49 = .ok (.getfield 98, 3) := by decide +kernel
theorem dX12_space_52 : decode cX12_space 52 = .ok (.bipush 10, 2) := by decide +kernel
theorem dX12_space_54 : decode cX12_space 54 = .ok (.iastore, 1) := by decide +kernel
theorem dX12_space_55 : decode cX12_space 55 = .ok (.aload_n 0, 1) := by decide +kernel
theorem dX12_space_56 : decode cX12_space 56 = .ok (.dup, 1) := by decide +kernel
theorem dX12_space_57 : decode cX12_space 57 = .ok (.getfield 98, 3) := by decide +kernel
theorem dX12_space_60 : decode cX12_space 60 = .ok (.iconst 1, 1) := by decide +kernel
theorem dX12_space_61 : decode cX12_space 61 = .ok (.iadd, 1) := by decide +kernel
theorem dX12_space_62 : decode cX12_space 62 = .ok (.putfield 98, 3) := by decide +kernel
theorem dX12_space_65 : decode cX12_space 65 = .ok (.iconst 0, 1) := by decide +kernel
theorem dX12_space_66 : decode cX12_space 66 = .ok (.istore_n 3, 1) := by decide +kernel
theorem dX12_space_67 : decode cX12_space 67 = .ok (.iload_n 3, 1) := by decide +kernel
theorem dX12_space_68 : decode cX12_space 68 = .ok (.iload_n 2, 1) := by decide +kernel
theorem dX12_space_69 : decode cX12_space 69 = .ok (.if_icmp .ge 30, 3) := by decide +kernel
theorem dX12_space_72 : decode cX12_space 72 = .ok (.aload_n 0, 1) := by decide +kernel
theorem dX12_space_73 : decode cX12_space 73 = .ok (.getfield 7, 3) := by decide +kernel
theorem dX12_space_76 : decode cX12_space 76 = .ok (.aload_n 0, 1) := by decide +kernel
theorem dX12_space_77 : decode cX12_space 77 = .ok (.getfield 98, 3) := by decide +kernel
theorem dX12_space_80 : decode cX12_space 80 = .ok (.bipush 32, 2) := by decide +kernel
theorem dX12_space_82 : decode cX12_space 82 = .ok (.iastore, 1) := by decide +kernel
theorem dX12_space_83 : decode cX12_space 83 = .ok (.aload_n 0, 1) := by decide +kernel
theorem dX12_space_84 : decode cX12_space 84 = .ok (.dup, 1) := by decide +kernel
theorem dX12_space_85 : decode cX12_space 85 = .ok (.getfield 98, 3) := by decide +kernel
theorem dX12_space_88 : decode cX12_space 88 = .ok (.iconst 1, 1) := by decide +kernel
theorem dX12_space_89 : decode cX12_space 89 = .ok (.iadd, 1) := by decide +kernel
theorem dX12_space_90 : decode cX12_space 90 = .ok (.putfield 98, 3) := by decide +kernel
theorem dX12_space_93 : decode cX12_space 93 = .ok (.iinc 3 1, 3) := by decide +kernel
theorem dX12_space_96 : decode cX12_space 96 = .ok (.goto (-29), 3) := by decide +kernel
theorem dX12_space_99 : decode cX12_space 99 = .ok (.aload_n 0, 1) := by decide +kernel
theorem dX12_space_100 : decode cX12_space 100 = .ok (.getfield 98, 3) := by decide +kernel
theorem dX12_space_103 : decode cX12_space 103 = .ok (.ireturn, 1) := by decide +kernel
theorem dX12_clear_0 : decode cX12_clear 0 = .ok (.aload_n 0, 1) := by decide +kernel
theorem dX12_clear_1 : decode cX12_clear 1 = .ok (.getfield 98, 3) := by decide +kernel
theorem dX12_clear_4 : decode cX12_clear 4 = .ok (.istore_n 1, 1) := by decide +kernel
theorem dX12_clear_5 : decode cX12_clear 5 = .ok (.aload_n 0, 1) := by decide +kernel
theorem dX12_clear_6 : decode cX12_clear 6 = .ok (.iconst 0, 1) := by decide +kernel
theorem dX12_clear_7 : decode cX12_clear 7 = .ok (.putfield 98, 3) := by decide +kernel
theorem dX12_clear_10 : decode cX12_clear 10 = .ok (.iload_n 1, 1) := by decide +kernel
theorem dX12_clear_11 : decode cX12_clear 11 = .ok (.ireturn, 1) := by decide +kernel
theorem dX12_at_0 : decode cX12_at 0 = .ok (.iload_n 1, 1) := by decide +kernel
theorem dX12_at_1 : decode cX12_at 1 = .ok (.i2l, 1) := by decide +kernel
theorem dX12_at_2 : decode cX12_at 2 = .ok (.lconst 0, 1) := by decide +kernel
theorem dX12_at_3 : decode cX12_at 3 = .ok (.aload_n 0, 1) := by decide +kernel
theorem dX12_at_4 : decode cX12_at 4 = .ok (.getfield 98, 3) := by decide +kernel
theorem dX12_at_7 : decode cX12_at 7 = .ok (.iconst 1, 1) := by decide +kernel
theorem dX12_at_8 : decode cX12_at 8 = .ok (.isub, 1) := by decide +kernel
theorem dX12_at_9 : decode cX12_at 9 = .ok (.i2l, 1) := by decide +kernel
theorem dX12_at_10 : decode cX12_at 10 = .ok (.invokestatic 94, 3) := by decide +kernel
theorem dX12_at_13 : decode cX12_at 13 = .ok (.ifCond .eq 12, 3) := by decide +kernel
theorem dX12_at_25 : decode cX12_at 25 = .ok (.iconst (-1), 1) := by decide +kernel
theorem dX12_at_26 : decode cX12_at 26 = .ok (.ireturn, 1) := by decide +kernel
theorem dX12_alter_0 : decode cX12_alter 0 = .ok (.iload_n 1, 1) := by decide +kernel
theorem dX12_alter_1 : decode cX12_alter 1 = .ok (.i2l, 1) := by decide +kernel
theorem dX12_alter_2 : decode cX12_alter 2 = .ok (.lconst 0, 1) := by decide +kernel
theorem dX12_alter_3 : decode cX12_alter 3 = .ok (.aload_n 0, 1) := by decide +kernel
theorem dX12_alter_4 : decode cX12_alter 4 = .ok (.getfield 98, 3) := by decide +kernel
theorem dX12_alter_7 : decode cX12_alter 7 = .ok (.iconst 1, 1) := by decide +kernel
theorem dX12_alter_8 : decode cX12_alter 8 = .ok (.isub, 1) := by decide +kernel
theorem dX12_alter_9 : decode cX12_alter 9 = .ok (.i2l, 1) := by decide +kernel
theorem dX12_alter_10 : decode cX12_alter 10 = .ok (.invokestatic 94, 3) := by decide +kernel
theorem dX12_alter_13 : decode cX12_alter 13 = .ok (.ifCond .eq 15, 3) := by decide +kernel
theorem dX12_alter_28 : decode cX12_alter 28 = .ok (.bipush (-2), 2) := by decide +kernel
theorem dX12_alter_30 : decode cX12_alter 30 = .ok (.ireturn, 1) := by decide +kernel
theorem dX12_byteAt_0 : decode cX12_byteAt 0 = .ok (.iload_n 1, 1) := by decide +kernel
theorem dX12_byteAt_1 : decode cX12_byteAt 1 = .ok (.aload_n 0, 1) := by decide +kernel
theorem dX12_byteAt_2 : decode cX12_byteAt 2 = .ok (.getfield 98, 3) := by decide +kernel
theorem dX12_byteAt_5 : decode cX12_byteAt 5 = .ok (.if_icmp .ge 12, 3) := by decide +kernel
theorem dX12_byteAt_17 : decode cX12_byteAt 17 = .ok (.iconst (-1), 1) := by decide +kernel
theorem dX12_byteAt_18 : decode cX12_byteAt 18 = .ok (.ireturn, 1) := by decide +kernel
theorem dX12_skips_0 : decode cX12_skips 0 = .ok (.iload_n 1, 1) := by decide +kernel
theorem dX12_skips_1 : decode cX12_skips 1 = .ok (.istore_n 2, 1) := by decide +kernel
theorem dX12_skips_2 : decode cX12_skips 2 = .ok (.aload_n 0, 1) := by decide +kernel
theorem dX12_skips_3 : decode cX12_skips 3 = .ok (.iload_n 2, 1) := by decide +kernel
theorem dX12_skips_4 : decode cX12_skips 4 = .ok (.invokevirtual 130, 3) := by decide +kernel
theorem dX12_skips_7 : decode cX12_skips 7 = .ok (.istore_n 3, 1) := by decide +kernel
theorem dX12_skips_8 : decode cX12_skips 8 = .ok (.iload_n 3, 1) := by decide +kernel
theorem dX12_skips_9 : decode cX12_skips 9 = .ok (.bipush 10, 2) := by decide +kernel
theorem dX12_skips_11 : decode cX12_skips 11 = .ok (.if_icmp .eq 9, 3) := by decide +kernel
theorem dX12_skips_14 : decode cX12_skips 14 = .ok (.iload_n 3, 1) := by decide +kernel
theorem dX12_skips_15 : decode cX12_skips 15 = .ok (.bipush 32, 2) := by decide +kernel
theorem dX12_skips_17 : decode cX12_skips 17 = .ok (.if_icmp .ne 9, 3) := by decide +kernel
theorem dX12_skips_26 : decode cX12_skips 26 = .ok (.iload_n 3, 1) := by decide +kernel
theorem dX12_skips_27 : decode cX12_skips 27 = .ok (.bipush 123, 2) := by decide +kernel
theorem dX12_skips_29 : decode cX12_skips 29 = .ok (.if_icmp .ne 146, 3) := by decide +kernel
theorem dX12_skips_175 : decode cX12_skips 175 = .ok (.iload_n 3, 1) := by decide +kernel
theorem dX12_skips_176 : decode cX12_skips 176 = .ok (.bipush 45, 2) := by decide +kernel
theorem dX12_skips_178 : decode cX12_skips 178 = .ok (.if_icmp .ne 82, 3) := by decide +kernel
theorem dX12_skips_260 : decode cX12_skips 260 = .ok (.iload_n 2, 1) := by decide +kernel
theorem dX12_skips_261 : decode cX12_skips 261 = .ok (.ireturn, 1) := by decide +kernel
theorem dX12_isCut_0 : decode cX12_isCut 0 = .ok (.aload_n 0, 1) := by decide +kernel
theorem dX12_isCut_1 : decode cX12_isCut 1 = .ok (.iconst 0, 1) := by decide +kernel
theorem dX12_isCut_2 : decode cX12_isCut 2 = .ok (.putfield 142, 3) := by decide +kernel
theorem dX12_isCut_5 : decode cX12_isCut 5 = .ok (.aload_n 0, 1) := by decide +kernel
theorem dX12_isCut_6 : decode cX12_isCut 6 = .ok (.iconst 0, 1) := by decide +kernel
theorem dX12_isCut_7 : decode cX12_isCut 7 = .ok (.invokevirtual 145, 3) := by decide +kernel
theorem dX12_isCut_10 : decode cX12_isCut 10 = .ok (.istore_n 1, 1) := by decide +kernel
theorem dX12_isCut_11 : decode cX12_isCut 11 = .ok (.iconst (-1), 1) := by decide +kernel
theorem dX12_isCut_12 : decode cX12_isCut 12 = .ok (.istore_n 2, 1) := by decide +kernel
theorem dX12_isCut_13 : decode cX12_isCut 13 = .ok (.iconst 1, 1) := by decide +kernel
theorem dX12_isCut_14 : decode cX12_isCut 14 = .ok (.istore_n 3, 1) := by decide +kernel
theorem dX12_isCut_15 : decode cX12_isCut 15 = .ok (.iconst 0, 1) := by decide +kernel
theorem dX12_isCut_16 : decode cX12_isCut 16 = .ok (.istore 4, 2) := by decide +kernel
theorem dX12_isCut_18 : decode cX12_isCut 18 = .ok (.iconst 0, 1) := by decide +kernel
theorem dX12_isCut_19 : decode cX12_isCut 19 = .ok (.istore 5, 2) := by decide +kernel
theorem dX12_isCut_21 : decode cX12_isCut 21 = .ok (.iload_n 1, 1) := by decide +kernel
theorem dX12_isCut_22 : decode cX12_isCut 22 = .ok (.ifCond .lt 743, 3) := by decide +kernel
theorem dX12_isCut_25 : decode cX12_isCut 25 = .ok (.iload_n 1, 1) := by decide +kernel
theorem dX12_isCut_26 : decode cX12_isCut 26 = .ok (.aload_n 0, 1) := by decide +kernel
theorem dX12_isCut_27 : decode cX12_isCut 27 = .ok (.getfield 98, 3) := by decide +kernel
theorem dX12_isCut_30 : decode cX12_isCut 30 = .ok (.if_icmp .ge 735, 3) := by decide +kernel
theorem dX12_isCut_765 : decode cX12_isCut 765 = .ok (.aload_n 0, 1) := by decide +kernel
theorem dX12_isCut_766 : decode cX12_isCut 766 = .ok (.getfield 28, 3) := by decide +kernel
theorem dX12_isCut_769 : decode cX12_isCut 769 = .ok (.aload_n 0, 1) := by decide +kernel
theorem dX12_isCut_770 : decode cX12_isCut 770 = .ok (.getfield 142, 3) := by decide +kernel
theorem dX12_isCut_773 : decode cX12_isCut 773 = .ok (.iload_n 3, 1) := by decide +kernel
theorem dX12_isCut_774 : decode cX12_isCut 774 = .ok (.ifCond .eq 7, 3) := by decide +kernel
theorem dX12_isCut_777 : decode cX12_isCut 777 = .ok (.iconst 0, 1) := by decide +kernel
theorem dX12_isCut_778 : decode cX12_isCut 778 = .ok (.goto 4, 3) := by decide +kernel
theorem dX12_isCut_782 : decode cX12_isCut 782 = .ok (.iastore, 1) := by decide +kernel
theorem dX12_isCut_783 : decode cX12_isCut 783 = .ok (.aload_n 0, 1) := by decide +kernel
theorem dX12_isCut_784 : decode cX12_isCut 784 = .ok (.getfield 31, 3) := by decide +kernel
theorem dX12_isCut_787 : decode cX12_isCut 787 = .ok (.aload_n 0, 1) := by decide +kernel
theorem dX12_isCut_788 : decode cX12_isCut 788 = .ok (.getfield 142, 3) := by decide +kernel
theorem dX12_isCut_791 : decode cX12_isCut 791 = .ok (.iconst (-1), 1) := by decide +kernel
theorem dX12_isCut_792 : decode cX12_isCut 792 = .ok (.iastore, 1) := by decide +kernel
theorem dX12_isCut_793 : decode cX12_isCut 793 = .ok (.aload_n 0, 1) := by decide +kernel
theorem dX12_isCut_794 : decode cX12_isCut 794 = .ok (.getfield 13, 3) := by decide +kernel
theorem dX12_isCut_797 : decode cX12_isCut 797 = .ok (.aload_n 0, 1) := by decide +kernel
theorem dX12_isCut_798 : decode cX12_isCut 798 = .ok (.getfield 142, 3) := by decide +kernel
theorem dX12_isCut_801 : decode cX12_isCut 801 = .ok (.aload_n 0, 1) := by decide +kernel
theorem dX12_isCut_802 : decode cX12_isCut 802 = .ok (.getfield 98, 3) := by decide +kernel
theorem dX12_isCut_805 : decode cX12_isCut 805 = .ok (.iastore, 1) := by decide +kernel
theorem dX12_isCut_806 : decode cX12_isCut 806 = .ok (.aload_n 0, 1) := by decide +kernel
theorem dX12_isCut_807 : decode cX12_isCut 807 = .ok (.getfield 22, 3) := by decide +kernel
theorem dX12_isCut_810 : decode cX12_isCut 810 = .ok (.aload_n 0, 1) := by decide +kernel
theorem dX12_isCut_811 : decode cX12_isCut 811 = .ok (.getfield 142, 3) := by decide +kernel
theorem dX12_isCut_814 : decode cX12_isCut 814 = .ok (.sipush 399, 3) := by decide +kernel
theorem dX12_isCut_817 : decode cX12_isCut 817 = .ok (.iastore, 1) := by decide +kernel
theorem dX12_isCut_818 : decode cX12_isCut 818 = .ok (.iload_n 1, 1) := by decide +kernel
theorem dX12_isCut_819 : decode cX12_isCut 819 = .ok (.ifCond .lt 7, 3) := by decide +kernel
theorem dX12_isCut_822 : decode cX12_isCut 822 = .ok (.iconst 1, 1) := by decide +kernel
theorem dX12_isCut_823 : decode cX12_isCut 823 = .ok (.goto 4, 3) := by decide +kernel
theorem dX12_isCut_827 : decode cX12_isCut 827 = .ok (.ireturn, 1) := by decide +kernel
theorem dX12_node_0 : decode cX12_node 0 = .ok (.aload_n 0, 1) := by decide +kernel
theorem dX12_node_1 : decode cX12_node 1 = .ok (.getfield 40, 3) := by decide +kernel
theorem dX12_node_4 : decode cX12_node 4 = .ok (.aload_n 0, 1) := by decide +kernel
theorem dX12_node_5 : decode cX12_node 5 = .ok (.getfield 164, 3) := by decide +kernel
theorem dX12_node_8 : decode cX12_node 8 = .ok (.iload_n 1, 1) := by decide +kernel
theorem dX12_node_9 : decode cX12_node 9 = .ok (.iastore, 1) := by decide +kernel
theorem dX12_node_10 : decode cX12_node 10 = .ok (.aload_n 0, 1) := by decide +kernel
theorem dX12_node_11 : decode cX12_node 11 = .ok (.getfield 43, 3) := by decide +kernel
theorem dX12_node_14 : decode cX12_node 14 = .ok (.aload_n 0, 1) := by decide +kernel
theorem dX12_node_15 : decode cX12_node 15 = .ok (.getfield 164, 3) := by decide +kernel
theorem dX12_node_18 : decode cX12_node 18 = .ok (.iload_n 2, 1) := by decide +kernel
theorem dX12_node_19 : decode cX12_node 19 = .ok (.iastore, 1) := by decide +kernel
theorem dX12_node_20 : decode cX12_node 20 = .ok (.aload_n 0, 1) := by decide +kernel
theorem dX12_node_21 : decode cX12_node 21 = .ok (.dup, 1) := by decide +kernel
theorem dX12_node_22 : decode cX12_node 22 = .ok (.getfield 164, 3) := by decide +kernel
theorem dX12_node_25 : decode cX12_node 25 = .ok (.iconst 1, 1) := by decide +kernel
theorem dX12_node_26 : decode cX12_node 26 = .ok (.iadd, 1) := by decide +kernel
theorem dX12_node_27 : decode cX12_node 27 = .ok (.putfield 164, 3) := by decide +kernel
theorem dX12_node_30 : decode cX12_node 30 = .ok (.aload_n 0, 1) := by decide +kernel
theorem dX12_node_31 : decode cX12_node 31 = .ok (.getfield 46, 3) := by decide +kernel
theorem dX12_node_34 : decode cX12_node 34 = .ok (.aload_n 0, 1) := by decide +kernel
theorem dX12_node_35 : decode cX12_node 35 = .ok (.getfield 164, 3) := by decide +kernel
theorem dX12_node_38 : decode cX12_node 38 = .ok (.iconst 1, 1) := by decide +kernel
theorem dX12_node_39 : decode cX12_node 39 = .ok (.isub, 1) := by decide +kernel
theorem dX12_node_40 : decode cX12_node 40 = .ok (.iload_n 3, 1) := by decide +kernel
theorem dX12_node_41 : decode cX12_node 41 = .ok (.ifCond .eq 10, 3) := by decide +kernel
theorem dX12_node_51 : decode cX12_node 51 = .ok (.iconst 0, 1) := by decide +kernel
theorem dX12_node_52 : decode cX12_node 52 = .ok (.iastore, 1) := by decide +kernel
theorem dX12_node_53 : decode cX12_node 53 = .ok (.aload_n 0, 1) := by decide +kernel
theorem dX12_node_54 : decode cX12_node 54 = .ok (.getfield 164, 3) := by decide +kernel
theorem dX12_node_57 : decode cX12_node 57 = .ok (.iconst 1, 1) := by decide +kernel
theorem dX12_node_58 : decode cX12_node 58 = .ok (.isub, 1) := by decide +kernel
theorem dX12_node_59 : decode cX12_node 59 = .ok (.ireturn, 1) := by decide +kernel
theorem dX12_push_0 : decode cX12_push 0 = .ok (.aload_n 0, 1) := by decide +kernel
theorem dX12_push_1 : decode cX12_push 1 = .ok (.getfield 49, 3) := by decide +kernel
theorem dX12_push_4 : decode cX12_push 4 = .ok (.aload_n 0, 1) := by decide +kernel
theorem dX12_push_5 : decode cX12_push 5 = .ok (.getfield 167, 3) := by decide +kernel
theorem dX12_push_8 : decode cX12_push 8 = .ok (.iload_n 1, 1) := by decide +kernel
theorem dX12_push_9 : decode cX12_push 9 = .ok (.iastore, 1) := by decide +kernel
theorem dX12_push_10 : decode cX12_push 10 = .ok (.aload_n 0, 1) := by decide +kernel
theorem dX12_push_11 : decode cX12_push 11 = .ok (.getfield 52, 3) := by decide +kernel
theorem dX12_push_14 : decode cX12_push 14 = .ok (.aload_n 0, 1) := by decide +kernel
theorem dX12_push_15 : decode cX12_push 15 = .ok (.getfield 167, 3) := by decide +kernel
theorem dX12_push_18 : decode cX12_push 18 = .ok (.iconst 0, 1) := by decide +kernel
theorem dX12_push_19 : decode cX12_push 19 = .ok (.iastore, 1) := by decide +kernel
theorem dX12_push_20 : decode cX12_push 20 = .ok (.aload_n 0, 1) := by decide +kernel
theorem dX12_push_21 : decode cX12_push 21 = .ok (.getfield 55, 3) := by decide +kernel
theorem dX12_push_24 : decode cX12_push 24 = .ok (.aload_n 0, 1) := by decide +kernel
theorem dX12_push_25 : decode cX12_push 25 = .ok (.getfield 167, 3) := by decide +kernel
theorem dX12_push_28 : decode cX12_push 28 = .ok (.iload_n 2, 1) := by decide +kernel
theorem dX12_push_29 : decode cX12_push 29 = .ok (.iastore, 1) := by decide +kernel
theorem dX12_push_30 : decode cX12_push 30 = .ok (.aload_n 0, 1) := by decide +kernel
theorem dX12_push_31 : decode cX12_push 31 = .ok (.getfield 58, 3) := by decide +kernel
theorem dX12_push_34 : decode cX12_push 34 = .ok (.aload_n 0, 1) := by decide +kernel
theorem dX12_push_35 : decode cX12_push 35 = .ok (.getfield 167, 3) := by decide +kernel
theorem dX12_push_38 : decode cX12_push 38 = .ok (.iload_n 3, 1) := by decide +kernel
theorem dX12_push_39 : decode cX12_push 39 = .ok (.iastore, 1) := by decide +kernel
theorem dX12_push_40 : decode cX12_push 40 = .ok (.aload_n 0, 1) := by decide +kernel
theorem dX12_push_41 : decode cX12_push 41 = .ok (.dup, 1) := by decide +kernel
theorem dX12_push_42 : decode cX12_push 42 = .ok (.getfield 167, 3) := by decide +kernel
theorem dX12_push_45 : decode cX12_push 45 = .ok (.iconst 1, 1) := by decide +kernel
theorem dX12_push_46 : decode cX12_push 46 = .ok (.iadd, 1) := by decide +kernel
theorem dX12_push_47 : decode cX12_push 47 = .ok (.putfield 167, 3) := by decide +kernel
theorem dX12_push_50 : decode cX12_push 50 = .ok (.return_, 1) := by decide +kernel
theorem dX12_isOpen_0 : decode cX12_isOpen 0 = .ok (.iload_n 0, 1) := by decide +kernel
theorem dX12_isOpen_1 : decode cX12_isOpen 1 = .ok (.iconst 1, 1) := by decide +kernel
theorem dX12_isOpen_2 : decode cX12_isOpen 2 = .ok (.if_icmp .eq 15, 3) := by decide +kernel
theorem dX12_isOpen_17 : decode cX12_isOpen 17 = .ok (.iconst 1, 1) := by decide +kernel
theorem dX12_isOpen_18 : decode cX12_isOpen 18 = .ok (.goto 4, 3) := by decide +kernel
theorem dX12_isOpen_22 : decode cX12_isOpen 22 = .ok (.ireturn, 1) := by decide +kernel
theorem dX12_accepts_0 : decode cX12_accepts 0 = .ok (.aload_n 0, 1) := by decide +kernel
theorem dX12_accepts_1 : decode cX12_accepts 1 = .ok (.getfield 49, 3) := by decide +kernel
theorem dX12_accepts_4 : decode cX12_accepts 4 = .ok (.iload_n 1, 1) := by decide +kernel
theorem dX12_accepts_5 : decode cX12_accepts 5 = .ok (.iaload, 1) := by decide +kernel
theorem dX12_accepts_6 : decode cX12_accepts 6 = .ok (.tableswitch 541 1 16 #[78, 145, 157, 200, 238, 243, 273, 291, 353, 541, 371, 371, 439, 462, 480, 510], 78) := by decide +kernel
theorem dX12_accepts_84 : decode cX12_accepts 84 = .ok (.iload_n 3, 1) := by decide +kernel
theorem dX12_accepts_85 : decode cX12_accepts 85 = .ok (.bipush 59, 2) := by decide +kernel
theorem dX12_accepts_87 : decode cX12_accepts 87 = .ok (.if_icmp .eq 9, 3) := by decide +kernel
theorem dX12_accepts_90 : decode cX12_accepts 90 = .ok (.iload_n 3, 1) := by decide +kernel
theorem dX12_accepts_91 : decode cX12_accepts 91 = .ok (.bipush 125, 2) := by decide +kernel
theorem dX12_accepts_93 : decode cX12_accepts 93 = .ok (.if_icmp .ne 5, 3) := by decide +kernel
theorem dX12_accepts_96 : decode cX12_accepts 96 = .ok (.iconst 1, 1) := by decide +kernel
theorem dX12_accepts_97 : decode cX12_accepts 97 = .ok (.ireturn, 1) := by decide +kernel
theorem dX12_accepts_151 : decode cX12_accepts 151 = .ok (.iload_n 3, 1) := by decide +kernel
theorem dX12_accepts_152 : decode cX12_accepts 152 = .ok (.bipush 123, 2) := by decide +kernel
theorem dX12_accepts_154 : decode cX12_accepts 154 = .ok (.if_icmp .ne 7, 3) := by decide +kernel
theorem dX12_accepts_157 : decode cX12_accepts 157 = .ok (.iconst 1, 1) := by decide +kernel
theorem dX12_accepts_158 : decode cX12_accepts 158 = .ok (.goto 4, 3) := by decide +kernel
theorem dX12_accepts_162 : decode cX12_accepts 162 = .ok (.ireturn, 1) := by decide +kernel
theorem dX12_finds_0 : decode cX12_finds 0 = .ok (.aload_n 0, 1) := by decide +kernel
theorem dX12_finds_1 : decode cX12_finds 1 = .ok (.getfield 167, 3) := by decide +kernel
theorem dX12_finds_4 : decode cX12_finds 4 = .ok (.iconst 1, 1) := by decide +kernel
theorem dX12_finds_5 : decode cX12_finds 5 = .ok (.isub, 1) := by decide +kernel
theorem dX12_finds_6 : decode cX12_finds 6 = .ok (.istore_n 2, 1) := by decide +kernel
theorem dX12_finds_7 : decode cX12_finds 7 = .ok (.iload_n 2, 1) := by decide +kernel
theorem dX12_finds_8 : decode cX12_finds 8 = .ok (.ifCond .ge 7, 3) := by decide +kernel
theorem dX12_finds_15 : decode cX12_finds 15 = .ok (.aload_n 0, 1) := by decide +kernel
theorem dX12_finds_16 : decode cX12_finds 16 = .ok (.getfield 52, 3) := by decide +kernel
theorem dX12_finds_19 : decode cX12_finds 19 = .ok (.iload_n 2, 1) := by decide +kernel
theorem dX12_finds_20 : decode cX12_finds 20 = .ok (.iaload, 1) := by decide +kernel
theorem dX12_finds_21 : decode cX12_finds 21 = .ok (.istore_n 3, 1) := by decide +kernel
theorem dX12_finds_22 : decode cX12_finds 22 = .ok (.iload_n 2, 1) := by decide +kernel
theorem dX12_finds_23 : decode cX12_finds 23 = .ok (.ifCond .lt 46, 3) := by decide +kernel
theorem dX12_finds_26 : decode cX12_finds 26 = .ok (.aload_n 0, 1) := by decide +kernel
theorem dX12_finds_27 : decode cX12_finds 27 = .ok (.iload_n 2, 1) := by decide +kernel
theorem dX12_finds_28 : decode cX12_finds 28 = .ok (.iload_n 3, 1) := by decide +kernel
theorem dX12_finds_29 : decode cX12_finds 29 = .ok (.iload_n 1, 1) := by decide +kernel
theorem dX12_finds_30 : decode cX12_finds 30 = .ok (.invokevirtual 185, 3) := by decide +kernel
theorem dX12_finds_33 : decode cX12_finds 33 = .ok (.ifCond .eq 5, 3) := by decide +kernel
theorem dX12_finds_36 : decode cX12_finds 36 = .ok (.iload_n 2, 1) := by decide +kernel
theorem dX12_finds_37 : decode cX12_finds 37 = .ok (.ireturn, 1) := by decide +kernel
theorem dX12_ends_0 : decode cX12_ends 0 = .ok (.aload_n 0, 1) := by decide +kernel
theorem dX12_ends_1 : decode cX12_ends 1 = .ok (.dup, 1) := by decide +kernel
theorem dX12_ends_2 : decode cX12_ends 2 = .ok (.getfield 167, 3) := by decide +kernel
theorem dX12_ends_5 : decode cX12_ends 5 = .ok (.iconst 1, 1) := by decide +kernel
theorem dX12_ends_6 : decode cX12_ends 6 = .ok (.isub, 1) := by decide +kernel
theorem dX12_ends_7 : decode cX12_ends 7 = .ok (.putfield 167, 3) := by decide +kernel
theorem dX12_ends_10 : decode cX12_ends 10 = .ok (.aload_n 0, 1) := by decide +kernel
theorem dX12_ends_11 : decode cX12_ends 11 = .ok (.dup, 1) := by decide +kernel
theorem dX12_ends_12 : decode cX12_ends 12 = .ok (.getfield 195, 3) := by decide +kernel
theorem dX12_ends_15 : decode cX12_ends 15 = .ok (.aload_n 0, 1) := by decide +kernel
theorem dX12_ends_16 : decode cX12_ends 16 = .ok (.getfield 49, 3) := by decide +kernel
theorem dX12_ends_19 : decode cX12_ends 19 = .ok (.aload_n 0, 1) := by decide +kernel
theorem dX12_ends_20 : decode cX12_ends 20 = .ok (.getfield 167, 3) := by decide +kernel
theorem dX12_ends_23 : decode cX12_ends 23 = .ok (.iaload, 1) := by decide +kernel
theorem dX12_ends_24 : decode cX12_ends 24 = .ok (.invokestatic 198, 3) := by decide +kernel
theorem dX12_ends_27 : decode cX12_ends 27 = .ok (.ifCond .eq 7, 3) := by decide +kernel
theorem dX12_ends_30 : decode cX12_ends 30 = .ok (.iconst 1, 1) := by decide +kernel
theorem dX12_ends_31 : decode cX12_ends 31 = .ok (.goto 4, 3) := by decide +kernel
theorem dX12_ends_35 : decode cX12_ends 35 = .ok (.isub, 1) := by decide +kernel
theorem dX12_ends_36 : decode cX12_ends 36 = .ok (.putfield 195, 3) := by decide +kernel
theorem dX12_ends_39 : decode cX12_ends 39 = .ok (.aload_n 0, 1) := by decide +kernel
theorem dX12_ends_40 : decode cX12_ends 40 = .ok (.getfield 49, 3) := by decide +kernel
theorem dX12_ends_43 : decode cX12_ends 43 = .ok (.aload_n 0, 1) := by decide +kernel
theorem dX12_ends_44 : decode cX12_ends 44 = .ok (.getfield 167, 3) := by decide +kernel
theorem dX12_ends_47 : decode cX12_ends 47 = .ok (.iaload, 1) := by decide +kernel
theorem dX12_ends_48 : decode cX12_ends 48 = .ok (.istore_n 1, 1) := by decide +kernel
theorem dX12_ends_49 : decode cX12_ends 49 = .ok (.iload_n 1, 1) := by decide +kernel
theorem dX12_ends_50 : decode cX12_ends 50 = .ok (.iconst 3, 1) := by decide +kernel
theorem dX12_ends_51 : decode cX12_ends 51 = .ok (.if_icmp .eq 61, 3) := by decide +kernel
theorem dX12_ends_54 : decode cX12_ends 54 = .ok (.iload_n 1, 1) := by decide +kernel
theorem dX12_ends_55 : decode cX12_ends 55 = .ok (.bipush 6, 2) := by decide +kernel
theorem dX12_ends_57 : decode cX12_ends 57 = .ok (.if_icmp .lt 9, 3) := by decide +kernel
theorem dX12_ends_66 : decode cX12_ends 66 = .ok (.iload_n 1, 1) := by decide +kernel
theorem dX12_ends_67 : decode cX12_ends 67 = .ok (.bipush 15, 2) := by decide +kernel
theorem dX12_ends_69 : decode cX12_ends 69 = .ok (.if_icmp .eq 43, 3) := by decide +kernel
theorem dX12_ends_72 : decode cX12_ends 72 = .ok (.iload_n 1, 1) := by decide +kernel
theorem dX12_ends_73 : decode cX12_ends 73 = .ok (.iconst 1, 1) := by decide +kernel
theorem dX12_ends_74 : decode cX12_ends 74 = .ok (.if_icmp .eq 38, 3) := by decide +kernel
theorem dX12_ends_112 : decode cX12_ends 112 = .ok (.iconst 1, 1) := by decide +kernel
theorem dX12_ends_113 : decode cX12_ends 113 = .ok (.goto 4, 3) := by decide +kernel
theorem dX12_ends_117 : decode cX12_ends 117 = .ok (.istore_n 2, 1) := by decide +kernel
theorem dX12_ends_118 : decode cX12_ends 118 = .ok (.iload_n 2, 1) := by decide +kernel
theorem dX12_ends_119 : decode cX12_ends 119 = .ok (.ifCond .eq 21, 3) := by decide +kernel
theorem dX12_ends_122 : decode cX12_ends 122 = .ok (.aload_n 0, 1) := by decide +kernel
theorem dX12_ends_123 : decode cX12_ends 123 = .ok (.getfield 46, 3) := by decide +kernel
theorem dX12_ends_126 : decode cX12_ends 126 = .ok (.aload_n 0, 1) := by decide +kernel
theorem dX12_ends_127 : decode cX12_ends 127 = .ok (.getfield 55, 3) := by decide +kernel
theorem dX12_ends_130 : decode cX12_ends 130 = .ok (.aload_n 0, 1) := by decide +kernel
theorem dX12_ends_131 : decode cX12_ends 131 = .ok (.getfield 167, 3) := by decide +kernel
theorem dX12_ends_134 : decode cX12_ends 134 = .ok (.iaload, 1) := by decide +kernel
theorem dX12_ends_135 : decode cX12_ends 135 = .ok (.aload_n 0, 1) := by decide +kernel
theorem dX12_ends_136 : decode cX12_ends 136 = .ok (.getfield 164, 3) := by decide +kernel
theorem dX12_ends_139 : decode cX12_ends 139 = .ok (.iastore, 1) := by decide +kernel
theorem dX12_ends_140 : decode cX12_ends 140 = .ok (.aload_n 0, 1) := by decide +kernel
theorem dX12_ends_141 : decode cX12_ends 141 = .ok (.getfield 167, 3) := by decide +kernel
theorem dX12_ends_144 : decode cX12_ends 144 = .ok (.ifCond .le 55, 3) := by decide +kernel
theorem dX12_ends_199 : decode cX12_ends 199 = .ok (.return_, 1) := by decide +kernel
theorem dX12_inBlock_0 : decode cX12_inBlock 0 = .ok (.iload_n 2, 1) := by decide +kernel
theorem dX12_inBlock_1 : decode cX12_inBlock 1 = .ok (.bipush 59, 2) := by decide +kernel
theorem dX12_inBlock_3 : decode cX12_inBlock 3 = .ok (.if_icmp .ne 13, 3) := by decide +kernel
theorem dX12_inBlock_16 : decode cX12_inBlock 16 = .ok (.iload_n 2, 1) := by decide +kernel
theorem dX12_inBlock_17 : decode cX12_inBlock 17 = .ok (.bipush 125, 2) := by decide +kernel
theorem dX12_inBlock_19 : decode cX12_inBlock 19 = .ok (.if_icmp .ne 10, 3) := by decide +kernel
theorem dX12_inBlock_22 : decode cX12_inBlock 22 = .ok (.aload_n 0, 1) := by decide +kernel
theorem dX12_inBlock_23 : decode cX12_inBlock 23 = .ok (.invokevirtual 238, 3) := by decide +kernel
theorem dX12_inBlock_26 : decode cX12_inBlock 26 = .ok (.goto 10, 3) := by decide +kernel
theorem dX12_inBlock_36 : decode cX12_inBlock 36 = .ok (.return_, 1) := by decide +kernel
theorem dX12_does_0 : decode cX12_does 0 = .ok (.aload_n 0, 1) := by decide +kernel
theorem dX12_does_1 : decode cX12_does 1 = .ok (.getfield 49, 3) := by decide +kernel
theorem dX12_does_4 : decode cX12_does 4 = .ok (.iload_n 1, 1) := by decide +kernel
theorem dX12_does_5 : decode cX12_does 5 = .ok (.iaload, 1) := by decide +kernel
theorem dX12_does_6 : decode cX12_does 6 = .ok (.tableswitch 460 1 15 #[74, 84, 130, 178, 241, 278, 310, 332, 358, 460, 375, 375, 385, 418, 427], 74) := by decide +kernel
theorem dX12_does_80 : decode cX12_does 80 = .ok (.aload_n 0, 1) := by decide +kernel
theorem dX12_does_81 : decode cX12_does 81 = .ok (.iload_n 1, 1) := by decide +kernel
theorem dX12_does_82 : decode cX12_does 82 = .ok (.iload_n 2, 1) := by decide +kernel
theorem dX12_does_83 : decode cX12_does 83 = .ok (.iload_n 3, 1) := by decide +kernel
theorem dX12_does_84 : decode cX12_does 84 = .ok (.invokevirtual 244, 3) := by decide +kernel
theorem dX12_does_87 : decode cX12_does 87 = .ok (.goto 404, 3) := by decide +kernel
theorem dX12_does_90 : decode cX12_does 90 = .ok (.aload_n 0, 1) := by decide +kernel
theorem dX12_does_91 : decode cX12_does 91 = .ok (.getfield 49, 3) := by decide +kernel
theorem dX12_does_94 : decode cX12_does 94 = .ok (.iload_n 1, 1) := by decide +kernel
theorem dX12_does_95 : decode cX12_does 95 = .ok (.iconst 1, 1) := by decide +kernel
theorem dX12_does_96 : decode cX12_does 96 = .ok (.iastore, 1) := by decide +kernel
theorem dX12_does_97 : decode cX12_does 97 = .ok (.aload_n 0, 1) := by decide +kernel
theorem dX12_does_98 : decode cX12_does 98 = .ok (.dup, 1) := by decide +kernel
theorem dX12_does_99 : decode cX12_does 99 = .ok (.getfield 195, 3) := by decide +kernel
theorem dX12_does_102 : decode cX12_does 102 = .ok (.iconst 1, 1) := by decide +kernel
theorem dX12_does_103 : decode cX12_does 103 = .ok (.iadd, 1) := by decide +kernel
theorem dX12_does_104 : decode cX12_does 104 = .ok (.putfield 195, 3) := by decide +kernel
theorem dX12_does_107 : decode cX12_does 107 = .ok (.aload_n 0, 1) := by decide +kernel
theorem dX12_does_108 : decode cX12_does 108 = .ok (.getfield 55, 3) := by decide +kernel
theorem dX12_does_111 : decode cX12_does 111 = .ok (.iload_n 1, 1) := by decide +kernel
theorem dX12_does_112 : decode cX12_does 112 = .ok (.aload_n 0, 1) := by decide +kernel
theorem dX12_does_113 : decode cX12_does 113 = .ok (.getfield 167, 3) := by decide +kernel
theorem dX12_does_116 : decode cX12_does 116 = .ok (.iconst 1, 1) := by decide +kernel
theorem dX12_does_117 : decode cX12_does 117 = .ok (.if_icmp .ne 7, 3) := by decide +kernel
theorem dX12_does_120 : decode cX12_does 120 = .ok (.iconst 0, 1) := by decide +kernel
theorem dX12_does_121 : decode cX12_does 121 = .ok (.goto 11, 3) := by decide +kernel
theorem dX12_does_132 : decode cX12_does 132 = .ok (.iastore, 1) := by decide +kernel
theorem dX12_does_133 : decode cX12_does 133 = .ok (.goto 358, 3) := by decide +kernel
theorem dX12_does_491 : decode cX12_does 491 = .ok (.return_, 1) := by decide +kernel
theorem dX12_comes_0 : decode cX12_comes 0 = .ok (.aload_n 0, 1) := by decide +kernel
theorem dX12_comes_1 : decode cX12_comes 1 = .ok (.getfield 167, 3) := by decide +kernel
theorem dX12_comes_4 : decode cX12_comes 4 = .ok (.iconst 1, 1) := by decide +kernel
theorem dX12_comes_5 : decode cX12_comes 5 = .ok (.isub, 1) := by decide +kernel
theorem dX12_comes_6 : decode cX12_comes 6 = .ok (.iload_n 1, 1) := by decide +kernel
theorem dX12_comes_7 : decode cX12_comes 7 = .ok (.if_icmp .le 10, 3) := by decide +kernel
theorem dX12_comes_17 : decode cX12_comes 17 = .ok (.aload_n 0, 1) := by decide +kernel
theorem dX12_comes_18 : decode cX12_comes 18 = .ok (.getfield 195, 3) := by decide +kernel
theorem dX12_comes_21 : decode cX12_comes 21 = .ok (.bipush 30, 2) := by decide +kernel
theorem dX12_comes_23 : decode cX12_comes 23 = .ok (.if_icmp .ne 23, 3) := by decide +kernel
theorem dX12_comes_46 : decode cX12_comes 46 = .ok (.aload_n 0, 1) := by decide +kernel
theorem dX12_comes_47 : decode cX12_comes 47 = .ok (.getfield 61, 3) := by decide +kernel
theorem dX12_comes_50 : decode cX12_comes 50 = .ok (.aload_n 0, 1) := by decide +kernel
theorem dX12_comes_51 : decode cX12_comes 51 = .ok (.getfield 256, 3) := by decide +kernel
theorem dX12_comes_54 : decode cX12_comes 54 = .ok (.iload_n 3, 1) := by decide +kernel
theorem dX12_comes_55 : decode cX12_comes 55 = .ok (.iastore, 1) := by decide +kernel
theorem dX12_comes_56 : decode cX12_comes 56 = .ok (.aload_n 0, 1) := by decide +kernel
theorem dX12_comes_57 : decode cX12_comes 57 = .ok (.dup, 1) := by decide +kernel
theorem dX12_comes_58 : decode cX12_comes 58 = .ok (.getfield 256, 3) := by decide +kernel
theorem dX12_comes_61 : decode cX12_comes 61 = .ok (.iconst 1, 1) := by decide +kernel
theorem dX12_comes_62 : decode cX12_comes 62 = .ok (.iadd, 1) := by decide +kernel
theorem dX12_comes_63 : decode cX12_comes 63 = .ok (.putfield 256, 3) := by decide +kernel
theorem dX12_comes_66 : decode cX12_comes 66 = .ok (.aload_n 0, 1) := by decide +kernel
theorem dX12_comes_67 : decode cX12_comes 67 = .ok (.iload_n 1, 1) := by decide +kernel
theorem dX12_comes_68 : decode cX12_comes 68 = .ok (.iload_n 2, 1) := by decide +kernel
theorem dX12_comes_69 : decode cX12_comes 69 = .ok (.iload 4, 2) := by decide +kernel
theorem dX12_comes_71 : decode cX12_comes 71 = .ok (.invokevirtual 259, 3) := by decide +kernel
theorem dX12_comes_74 : decode cX12_comes 74 = .ok (.iconst 1, 1) := by decide +kernel
theorem dX12_comes_75 : decode cX12_comes 75 = .ok (.ireturn, 1) := by decide +kernel
theorem dX12_put_0 : decode cX12_put 0 = .ok (.aload_n 0, 1) := by decide +kernel
theorem dX12_put_1 : decode cX12_put 1 = .ok (.iload_n 1, 1) := by decide +kernel
theorem dX12_put_2 : decode cX12_put 2 = .ok (.invokevirtual 262, 3) := by decide +kernel
theorem dX12_put_5 : decode cX12_put 5 = .ok (.istore 4, 2) := by decide +kernel
theorem dX12_put_7 : decode cX12_put 7 = .ok (.iload 4, 2) := by decide +kernel
theorem dX12_put_9 : decode cX12_put 9 = .ok (.ifCond .ge 17, 3) := by decide +kernel
theorem dX12_put_26 : decode cX12_put 26 = .ok (.aload_n 0, 1) := by decide +kernel
theorem dX12_put_27 : decode cX12_put 27 = .ok (.iload 4, 2) := by decide +kernel
theorem dX12_put_29 : decode cX12_put 29 = .ok (.iload_n 1, 1) := by decide +kernel
theorem dX12_put_30 : decode cX12_put 30 = .ok (.iload_n 2, 1) := by decide +kernel
theorem dX12_put_31 : decode cX12_put 31 = .ok (.iload_n 3, 1) := by decide +kernel
theorem dX12_put_32 : decode cX12_put 32 = .ok (.invokevirtual 265, 3) := by decide +kernel
theorem dX12_put_35 : decode cX12_put 35 = .ok (.ireturn, 1) := by decide +kernel
theorem dX12_now_0 : decode cX12_now 0 = .ok (.aload_n 0, 1) := by decide +kernel
theorem dX12_now_1 : decode cX12_now 1 = .ok (.getfield 269, 3) := by decide +kernel
theorem dX12_now_4 : decode cX12_now 4 = .ok (.ifCond .ne 7, 3) := by decide +kernel
theorem dX12_now_7 : decode cX12_now 7 = .ok (.iconst (-1), 1) := by decide +kernel
theorem dX12_now_8 : decode cX12_now 8 = .ok (.goto 14, 3) := by decide +kernel
theorem dX12_now_22 : decode cX12_now 22 = .ok (.ireturn, 1) := by decide +kernel
theorem dX12_isProgram_0 : decode cX12_isProgram 0 = .ok (.aload_n 0, 1) := by decide +kernel
theorem dX12_isProgram_1 : decode cX12_isProgram 1 = .ok (.iconst 0, 1) := by decide +kernel
theorem dX12_isProgram_2 : decode cX12_isProgram 2 = .ok (.putfield 256, 3) := by decide +kernel
theorem dX12_isProgram_5 : decode cX12_isProgram 5 = .ok (.aload_n 0, 1) := by decide +kernel
theorem dX12_isProgram_6 : decode cX12_isProgram 6 = .ok (.iconst 0, 1) := by decide +kernel
theorem dX12_isProgram_7 : decode cX12_isProgram 7 = .ok (.putfield 269, 3) := by decide +kernel
theorem dX12_isProgram_10 : decode cX12_isProgram 10 = .ok (.aload_n 0, 1) := by decide +kernel
theorem dX12_isProgram_11 : decode cX12_isProgram 11 = .ok (.iconst 0, 1) := by decide +kernel
theorem dX12_isProgram_12 : decode cX12_isProgram 12 = .ok (.putfield 167, 3) := by decide +kernel
theorem dX12_isProgram_15 : decode cX12_isProgram 15 = .ok (.aload_n 0, 1) := by decide +kernel
theorem dX12_isProgram_16 : decode cX12_isProgram 16 = .ok (.iconst 0, 1) := by decide +kernel
theorem dX12_isProgram_17 : decode cX12_isProgram 17 = .ok (.putfield 195, 3) := by decide +kernel
theorem dX12_isProgram_20 : decode cX12_isProgram 20 = .ok (.aload_n 0, 1) := by decide +kernel
theorem dX12_isProgram_21 : decode cX12_isProgram 21 = .ok (.iconst 0, 1) := by decide +kernel
theorem dX12_isProgram_22 : decode cX12_isProgram 22 = .ok (.putfield 164, 3) := by decide +kernel
theorem dX12_isProgram_25 : decode cX12_isProgram 25 = .ok (.aload_n 0, 1) := by decide +kernel
theorem dX12_isProgram_26 : decode cX12_isProgram 26 = .ok (.iconst 0, 1) := by decide +kernel
theorem dX12_isProgram_27 : decode cX12_isProgram 27 = .ok (.iconst (-1), 1) := by decide +kernel
theorem dX12_isProgram_28 : decode cX12_isProgram 28 = .ok (.iconst 0, 1) := by decide +kernel
theorem dX12_isProgram_29 : decode cX12_isProgram 29 = .ok (.invokevirtual 204, 3) := by decide +kernel
theorem dX12_isProgram_32 : decode cX12_isProgram 32 = .ok (.istore_n 1, 1) := by decide +kernel
theorem dX12_isProgram_33 : decode cX12_isProgram 33 = .ok (.aload_n 0, 1) := by decide +kernel
theorem dX12_isProgram_34 : decode cX12_isProgram 34 = .ok (.iconst 2, 1) := by decide +kernel
theorem dX12_isProgram_35 : decode cX12_isProgram 35 = .ok (.iconst 0, 1) := by decide +kernel
theorem dX12_isProgram_36 : decode cX12_isProgram 36 = .ok (.iconst 0, 1) := by decide +kernel
theorem dX12_isProgram_37 : decode cX12_isProgram 37 = .ok (.invokevirtual 208, 3) := by decide +kernel
theorem dX12_isProgram_40 : decode cX12_isProgram 40 = .ok (.iconst 0, 1) := by decide +kernel
theorem dX12_isProgram_41 : decode cX12_isProgram 41 = .ok (.istore_n 2, 1) := by decide +kernel
theorem dX12_isProgram_42 : decode cX12_isProgram 42 = .ok (.iload_n 2, 1) := by decide +kernel
theorem dX12_isProgram_43 : decode cX12_isProgram 43 = .ok (.aload_n 0, 1) := by decide +kernel
theorem dX12_isProgram_44 : decode cX12_isProgram 44 = .ok (.getfield 142, 3) := by decide +kernel
theorem dX12_isProgram_47 : decode cX12_isProgram 47 = .ok (.if_icmp .gt 212, 3) := by decide +kernel
theorem dX12_isProgram_50 : decode cX12_isProgram 50 = .ok (.aload_n 0, 1) := by decide +kernel
theorem dX12_isProgram_51 : decode cX12_isProgram 51 = .ok (.getfield 28, 3) := by decide +kernel
theorem dX12_isProgram_54 : decode cX12_isProgram 54 = .ok (.iload_n 2, 1) := by decide +kernel
theorem dX12_isProgram_55 : decode cX12_isProgram 55 = .ok (.iaload, 1) := by decide +kernel
theorem dX12_isProgram_56 : decode cX12_isProgram 56 = .ok (.istore_n 3, 1) := by decide +kernel
theorem dX12_isProgram_57 : decode cX12_isProgram 57 = .ok (.aload_n 0, 1) := by decide +kernel
theorem dX12_isProgram_58 : decode cX12_isProgram 58 = .ok (.getfield 31, 3) := by decide +kernel
theorem dX12_isProgram_61 : decode cX12_isProgram 61 = .ok (.iload_n 2, 1) := by decide +kernel
theorem dX12_isProgram_62 : decode cX12_isProgram 62 = .ok (.iaload, 1) := by decide +kernel
theorem dX12_isProgram_63 : decode cX12_isProgram 63 = .ok (.istore 4, 2) := by decide +kernel
theorem dX12_isProgram_65 : decode cX12_isProgram 65 = .ok (.iload_n 3, 1) := by decide +kernel
theorem dX12_isProgram_66 : decode cX12_isProgram 66 = .ok (.iconst (-1), 1) := by decide +kernel
theorem dX12_isProgram_67 : decode cX12_isProgram 67 = .ok (.if_icmp .eq 78, 3) := by decide +kernel
theorem dX12_isProgram_70 : decode cX12_isProgram 70 = .ok (.aload_n 0, 1) := by decide +kernel
theorem dX12_isProgram_71 : decode cX12_isProgram 71 = .ok (.bipush 123, 2) := by decide +kernel
theorem dX12_isProgram_73 : decode cX12_isProgram 73 = .ok (.bipush (-10), 2) := by decide +kernel
theorem dX12_isProgram_75 : decode cX12_isProgram 75 = .ok (.iload_n 2, 1) := by decide +kernel
theorem dX12_isProgram_76 : decode cX12_isProgram 76 = .ok (.invokevirtual 276, 3) := by decide +kernel
theorem dX12_isProgram_79 : decode cX12_isProgram 79 = .ok (.ifCond .ne 5, 3) := by decide +kernel
theorem dX12_isProgram_84 : decode cX12_isProgram 84 = .ok (.aload_n 0, 1) := by decide +kernel
theorem dX12_isProgram_85 : decode cX12_isProgram 85 = .ok (.invokevirtual 272, 3) := by decide +kernel
theorem dX12_isProgram_88 : decode cX12_isProgram 88 = .ok (.istore 5, 2) := by decide +kernel
theorem dX12_isProgram_90 : decode cX12_isProgram 90 = .ok (.iload_n 3, 1) := by decide +kernel
theorem dX12_isProgram_91 : decode cX12_isProgram 91 = .ok (.iload 5, 2) := by decide +kernel
theorem dX12_isProgram_93 : decode cX12_isProgram 93 = .ok (.ifCond .ge 7, 3) := by decide +kernel
theorem dX12_isProgram_96 : decode cX12_isProgram 96 = .ok (.iconst 0, 1) := by decide +kernel
theorem dX12_isProgram_97 : decode cX12_isProgram 97 = .ok (.goto 5, 3) := by decide +kernel
theorem dX12_isProgram_102 : decode cX12_isProgram 102 = .ok (.if_icmp .le 26, 3) := by decide +kernel
theorem dX12_isProgram_128 : decode cX12_isProgram 128 = .ok (.aload_n 0, 1) := by decide +kernel
theorem dX12_isProgram_129 : decode cX12_isProgram 129 = .ok (.bipush 125, 2) := by decide +kernel
theorem dX12_isProgram_131 : decode cX12_isProgram 131 = .ok (.bipush (-12), 2) := by decide +kernel
theorem dX12_isProgram_133 : decode cX12_isProgram 133 = .ok (.iload_n 2, 1) := by decide +kernel
theorem dX12_isProgram_134 : decode cX12_isProgram 134 = .ok (.invokevirtual 276, 3) := by decide +kernel
theorem dX12_isProgram_137 : decode cX12_isProgram 137 = .ok (.ifCond .ne 5, 3) := by decide +kernel
theorem dX12_isProgram_142 : decode cX12_isProgram 142 = .ok (.iload_n 3, 1) := by decide +kernel
theorem dX12_isProgram_143 : decode cX12_isProgram 143 = .ok (.istore 4, 2) := by decide +kernel
theorem dX12_isProgram_145 : decode cX12_isProgram 145 = .ok (.iload 4, 2) := by decide +kernel
theorem dX12_isProgram_147 : decode cX12_isProgram 147 = .ok (.iconst (-1), 1) := by decide +kernel
theorem dX12_isProgram_148 : decode cX12_isProgram 148 = .ok (.if_icmp .eq 87, 3) := by decide +kernel
theorem dX12_isProgram_151 : decode cX12_isProgram 151 = .ok (.aload_n 0, 1) := by decide +kernel
theorem dX12_isProgram_152 : decode cX12_isProgram 152 = .ok (.invokevirtual 272, 3) := by decide +kernel
theorem dX12_isProgram_155 : decode cX12_isProgram 155 = .ok (.istore 5, 2) := by decide +kernel
theorem dX12_isProgram_157 : decode cX12_isProgram 157 = .ok (.iload 5, 2) := by decide +kernel
theorem dX12_isProgram_159 : decode cX12_isProgram 159 = .ok (.ifCond .lt 34, 3) := by decide +kernel
theorem dX12_isProgram_193 : decode cX12_isProgram 193 = .ok (.aload_n 0, 1) := by decide +kernel
theorem dX12_isProgram_194 : decode cX12_isProgram 194 = .ok (.aload_n 0, 1) := by decide +kernel
theorem dX12_isProgram_195 : decode cX12_isProgram 195 = .ok (.getfield 22, 3) := by decide +kernel
theorem dX12_isProgram_198 : decode cX12_isProgram 198 = .ok (.iload_n 2, 1) := by decide +kernel
theorem dX12_isProgram_199 : decode cX12_isProgram 199 = .ok (.iaload, 1) := by decide +kernel
theorem dX12_isProgram_200 : decode cX12_isProgram 200 = .ok (.putfield 179, 3) := by decide +kernel
theorem dX12_isProgram_203 : decode cX12_isProgram 203 = .ok (.iload 5, 2) := by decide +kernel
theorem dX12_isProgram_205 : decode cX12_isProgram 205 = .ok (.ifCond .lt 24, 3) := by decide +kernel
theorem dX12_isProgram_229 : decode cX12_isProgram 229 = .ok (.iconst (-1), 1) := by decide +kernel
theorem dX12_isProgram_230 : decode cX12_isProgram 230 = .ok (.istore 4, 2) := by decide +kernel
theorem dX12_isProgram_232 : decode cX12_isProgram 232 = .ok (.goto (-87), 3) := by decide +kernel
theorem dX12_isProgram_235 : decode cX12_isProgram 235 = .ok (.iload_n 2, 1) := by decide +kernel
theorem dX12_isProgram_236 : decode cX12_isProgram 236 = .ok (.aload_n 0, 1) := by decide +kernel
theorem dX12_isProgram_237 : decode cX12_isProgram 237 = .ok (.getfield 142, 3) := by decide +kernel
theorem dX12_isProgram_240 : decode cX12_isProgram 240 = .ok (.if_icmp .ge 13, 3) := by decide +kernel
theorem dX12_isProgram_253 : decode cX12_isProgram 253 = .ok (.iinc 2 1, 3) := by decide +kernel
theorem dX12_isProgram_256 : decode cX12_isProgram 256 = .ok (.goto (-214), 3) := by decide +kernel
theorem dX12_isProgram_259 : decode cX12_isProgram 259 = .ok (.aload_n 0, 1) := by decide +kernel
theorem dX12_isProgram_260 : decode cX12_isProgram 260 = .ok (.invokevirtual 272, 3) := by decide +kernel
theorem dX12_isProgram_263 : decode cX12_isProgram 263 = .ok (.ifCond .le 30, 3) := by decide +kernel
theorem dX12_isProgram_293 : decode cX12_isProgram 293 = .ok (.aload_n 0, 1) := by decide +kernel
theorem dX12_isProgram_294 : decode cX12_isProgram 294 = .ok (.getfield 167, 3) := by decide +kernel
theorem dX12_isProgram_297 : decode cX12_isProgram 297 = .ok (.ifCond .eq 15, 3) := by decide +kernel
theorem dX12_isProgram_312 : decode cX12_isProgram 312 = .ok (.iconst 1, 1) := by decide +kernel
theorem dX12_isProgram_313 : decode cX12_isProgram 313 = .ok (.goto 4, 3) := by decide +kernel
theorem dX12_isProgram_317 : decode cX12_isProgram 317 = .ok (.ireturn, 1) := by decide +kernel
theorem dX12_takeTree_0 : decode cX12_takeTree 0 = .ok (.aload_n 0, 1) := by decide +kernel
theorem dX12_takeTree_1 : decode cX12_takeTree 1 = .ok (.iconst 1, 1) := by decide +kernel
theorem dX12_takeTree_2 : decode cX12_takeTree 2 = .ok (.putfield 285, 3) := by decide +kernel
theorem dX12_takeTree_5 : decode cX12_takeTree 5 = .ok (.aload_n 0, 1) := by decide +kernel
theorem dX12_takeTree_6 : decode cX12_takeTree 6 = .ok (.aload_n 0, 1) := by decide +kernel
theorem dX12_takeTree_7 : decode cX12_takeTree 7 = .ok (.getfield 164, 3) := by decide +kernel
theorem dX12_takeTree_10 : decode cX12_takeTree 10 = .ok (.putfield 289, 3) := by decide +kernel
theorem dX12_takeTree_13 : decode cX12_takeTree 13 = .ok (.iconst 0, 1) := by decide +kernel
theorem dX12_takeTree_14 : decode cX12_takeTree 14 = .ok (.istore_n 1, 1) := by decide +kernel
theorem dX12_takeTree_15 : decode cX12_takeTree 15 = .ok (.iload_n 1, 1) := by decide +kernel
theorem dX12_takeTree_16 : decode cX12_takeTree 16 = .ok (.aload_n 0, 1) := by decide +kernel
theorem dX12_takeTree_17 : decode cX12_takeTree 17 = .ok (.getfield 164, 3) := by decide +kernel
theorem dX12_takeTree_20 : decode cX12_takeTree 20 = .ok (.if_icmp .ge 217, 3) := by decide +kernel
theorem dX12_takeTree_23 : decode cX12_takeTree 23 = .ok (.aload_n 0, 1) := by decide +kernel
theorem dX12_takeTree_24 : decode cX12_takeTree 24 = .ok (.getfield 43, 3) := by decide +kernel
theorem dX12_takeTree_27 : decode cX12_takeTree 27 = .ok (.iload_n 1, 1) := by decide +kernel
theorem dX12_takeTree_28 : decode cX12_takeTree 28 = .ok (.iaload, 1) := by decide +kernel
theorem dX12_takeTree_29 : decode cX12_takeTree 29 = .ok (.istore_n 2, 1) := by decide +kernel
theorem dX12_takeTree_30 : decode cX12_takeTree 30 = .ok (.aload_n 0, 1) := by decide +kernel
theorem dX12_takeTree_31 : decode cX12_takeTree 31 = .ok (.getfield 67, 3) := by decide +kernel
theorem dX12_takeTree_34 : decode cX12_takeTree 34 = .ok (.iload_n 1, 1) := by decide +kernel
theorem dX12_takeTree_35 : decode cX12_takeTree 35 = .ok (.aload_n 0, 1) := by decide +kernel
theorem dX12_takeTree_36 : decode cX12_takeTree 36 = .ok (.getfield 40, 3) := by decide +kernel
theorem dX12_takeTree_39 : decode cX12_takeTree 39 = .ok (.iload_n 1, 1) := by decide +kernel
theorem dX12_takeTree_40 : decode cX12_takeTree 40 = .ok (.iaload, 1) := by decide +kernel
theorem dX12_takeTree_41 : decode cX12_takeTree 41 = .ok (.iastore, 1) := by decide +kernel
theorem dX12_takeTree_42 : decode cX12_takeTree 42 = .ok (.aload_n 0, 1) := by decide +kernel
theorem dX12_takeTree_43 : decode cX12_takeTree 43 = .ok (.getfield 70, 3) := by decide +kernel
theorem dX12_takeTree_46 : decode cX12_takeTree 46 = .ok (.iload_n 1, 1) := by decide +kernel
theorem dX12_takeTree_47 : decode cX12_takeTree 47 = .ok (.aload_n 0, 1) := by decide +kernel
theorem dX12_takeTree_48 : decode cX12_takeTree 48 = .ok (.getfield 46, 3) := by decide +kernel
theorem dX12_takeTree_51 : decode cX12_takeTree 51 = .ok (.iload_n 1, 1) := by decide +kernel
theorem dX12_takeTree_52 : decode cX12_takeTree 52 = .ok (.iaload, 1) := by decide +kernel
theorem dX12_takeTree_53 : decode cX12_takeTree 53 = .ok (.iastore, 1) := by decide +kernel
theorem dX12_takeTree_54 : decode cX12_takeTree 54 = .ok (.aload_n 0, 1) := by decide +kernel
theorem dX12_takeTree_55 : decode cX12_takeTree 55 = .ok (.getfield 76, 3) := by decide +kernel
theorem dX12_takeTree_58 : decode cX12_takeTree 58 = .ok (.iload_n 1, 1) := by decide +kernel
theorem dX12_takeTree_59 : decode cX12_takeTree 59 = .ok (.aload_n 0, 1) := by decide +kernel
theorem dX12_takeTree_60 : decode cX12_takeTree 60 = .ok (.getfield 40, 3) := by decide +kernel
theorem dX12_takeTree_63 : decode cX12_takeTree 63 = .ok (.iload_n 1, 1) := by decide +kernel
theorem dX12_takeTree_64 : decode cX12_takeTree 64 = .ok (.iaload, 1) := by decide +kernel
theorem dX12_takeTree_65 : decode cX12_takeTree 65 = .ok (.iconst 4, 1) := by decide +kernel
theorem dX12_takeTree_66 : decode cX12_takeTree 66 = .ok (.if_icmp .ne 12, 3) := by decide +kernel
theorem dX12_takeTree_78 : decode cX12_takeTree 78 = .ok (.iconst 0, 1) := by decide +kernel
theorem dX12_takeTree_79 : decode cX12_takeTree 79 = .ok (.iastore, 1) := by decide +kernel
theorem dX12_takeTree_80 : decode cX12_takeTree 80 = .ok (.aload_n 0, 1) := by decide +kernel
theorem dX12_takeTree_81 : decode cX12_takeTree 81 = .ok (.getfield 40, 3) := by decide +kernel
theorem dX12_takeTree_84 : decode cX12_takeTree 84 = .ok (.iload_n 1, 1) := by decide +kernel
theorem dX12_takeTree_85 : decode cX12_takeTree 85 = .ok (.iaload, 1) := by decide +kernel
theorem dX12_takeTree_86 : decode cX12_takeTree 86 = .ok (.iconst 1, 1) := by decide +kernel
theorem dX12_takeTree_87 : decode cX12_takeTree 87 = .ok (.if_icmp .eq 33, 3) := by decide +kernel
theorem dX12_takeTree_90 : decode cX12_takeTree 90 = .ok (.aload_n 0, 1) := by decide +kernel
theorem dX12_takeTree_91 : decode cX12_takeTree 91 = .ok (.getfield 40, 3) := by decide +kernel
theorem dX12_takeTree_94 : decode cX12_takeTree 94 = .ok (.iload_n 1, 1) := by decide +kernel
theorem dX12_takeTree_95 : decode cX12_takeTree 95 = .ok (.iaload, 1) := by decide +kernel
theorem dX12_takeTree_96 : decode cX12_takeTree 96 = .ok (.iconst 2, 1) := by decide +kernel
theorem dX12_takeTree_97 : decode cX12_takeTree 97 = .ok (.if_icmp .eq 23, 3) := by decide +kernel
theorem dX12_takeTree_100 : decode cX12_takeTree 100 = .ok (.aload_n 0, 1) := by decide +kernel
theorem dX12_takeTree_101 : decode cX12_takeTree 101 = .ok (.getfield 40, 3) := by decide +kernel
theorem dX12_takeTree_104 : decode cX12_takeTree 104 = .ok (.iload_n 1, 1) := by decide +kernel
theorem dX12_takeTree_105 : decode cX12_takeTree 105 = .ok (.iaload, 1) := by decide +kernel
theorem dX12_takeTree_106 : decode cX12_takeTree 106 = .ok (.iconst 3, 1) := by decide +kernel
theorem dX12_takeTree_107 : decode cX12_takeTree 107 = .ok (.if_icmp .eq 13, 3) := by decide +kernel
theorem dX12_takeTree_110 : decode cX12_takeTree 110 = .ok (.aload_n 0, 1) := by decide +kernel
theorem dX12_takeTree_111 : decode cX12_takeTree 111 = .ok (.getfield 40, 3) := by decide +kernel
theorem dX12_takeTree_114 : decode cX12_takeTree 114 = .ok (.iload_n 1, 1) := by decide +kernel
theorem dX12_takeTree_115 : decode cX12_takeTree 115 = .ok (.iaload, 1) := by decide +kernel
theorem dX12_takeTree_116 : decode cX12_takeTree 116 = .ok (.iconst 5, 1) := by decide +kernel
theorem dX12_takeTree_117 : decode cX12_takeTree 117 = .ok (.if_icmp .ne 7, 3) := by decide +kernel
theorem dX12_takeTree_124 : decode cX12_takeTree 124 = .ok (.iconst 0, 1) := by decide +kernel
theorem dX12_takeTree_125 : decode cX12_takeTree 125 = .ok (.istore_n 3, 1) := by decide +kernel
theorem dX12_takeTree_126 : decode cX12_takeTree 126 = .ok (.aload_n 0, 1) := by decide +kernel
theorem dX12_takeTree_127 : decode cX12_takeTree 127 = .ok (.getfield 79, 3) := by decide +kernel
theorem dX12_takeTree_130 : decode cX12_takeTree 130 = .ok (.iload_n 1, 1) := by decide +kernel
theorem dX12_takeTree_131 : decode cX12_takeTree 131 = .ok (.iload_n 3, 1) := by decide +kernel
theorem dX12_takeTree_132 : decode cX12_takeTree 132 = .ok (.ifCond .eq 12, 3) := by decide +kernel
theorem dX12_takeTree_144 : decode cX12_takeTree 144 = .ok (.iconst 0, 1) := by decide +kernel
theorem dX12_takeTree_145 : decode cX12_takeTree 145 = .ok (.iastore, 1) := by decide +kernel
theorem dX12_takeTree_146 : decode cX12_takeTree 146 = .ok (.iconst 0, 1) := by decide +kernel
theorem dX12_takeTree_147 : decode cX12_takeTree 147 = .ok (.istore 4, 2) := by decide +kernel
theorem dX12_takeTree_149 : decode cX12_takeTree 149 = .ok (.iload 4, 2) := by decide +kernel
theorem dX12_takeTree_151 : decode cX12_takeTree 151 = .ok (.aload_n 0, 1) := by decide +kernel
theorem dX12_takeTree_152 : decode cX12_takeTree 152 = .ok (.getfield 79, 3) := by decide +kernel
theorem dX12_takeTree_155 : decode cX12_takeTree 155 = .ok (.iload_n 1, 1) := by decide +kernel
theorem dX12_takeTree_156 : decode cX12_takeTree 156 = .ok (.iaload, 1) := by decide +kernel
theorem dX12_takeTree_157 : decode cX12_takeTree 157 = .ok (.if_icmp .ge 33, 3) := by decide +kernel
theorem dX12_takeTree_190 : decode cX12_takeTree 190 = .ok (.iload_n 1, 1) := by decide +kernel
theorem dX12_takeTree_191 : decode cX12_takeTree 191 = .ok (.iconst 1, 1) := by decide +kernel
theorem dX12_takeTree_192 : decode cX12_takeTree 192 = .ok (.isub, 1) := by decide +kernel
theorem dX12_takeTree_193 : decode cX12_takeTree 193 = .ok (.istore 4, 2) := by decide +kernel
theorem dX12_takeTree_195 : decode cX12_takeTree 195 = .ok (.iload 4, 2) := by decide +kernel
theorem dX12_takeTree_197 : decode cX12_takeTree 197 = .ok (.ifCond .lt 26, 3) := by decide +kernel
theorem dX12_takeTree_223 : decode cX12_takeTree 223 = .ok (.aload_n 0, 1) := by decide +kernel
theorem dX12_takeTree_224 : decode cX12_takeTree 224 = .ok (.getfield 73, 3) := by decide +kernel
theorem dX12_takeTree_227 : decode cX12_takeTree 227 = .ok (.iload_n 1, 1) := by decide +kernel
theorem dX12_takeTree_228 : decode cX12_takeTree 228 = .ok (.iload 4, 2) := by decide +kernel
theorem dX12_takeTree_230 : decode cX12_takeTree 230 = .ok (.iastore, 1) := by decide +kernel
theorem dX12_takeTree_231 : decode cX12_takeTree 231 = .ok (.iinc 1 1, 3) := by decide +kernel
theorem dX12_takeTree_234 : decode cX12_takeTree 234 = .ok (.goto (-219), 3) := by decide +kernel
theorem dX12_takeTree_237 : decode cX12_takeTree 237 = .ok (.return_, 1) := by decide +kernel
theorem dX12_read_0 : decode cX12_read 0 = .ok (.aload_n 0, 1) := by decide +kernel
theorem dX12_read_1 : decode cX12_read 1 = .ok (.getfield 292, 3) := by decide +kernel
theorem dX12_read_4 : decode cX12_read 4 = .ok (.bipush 30, 2) := by decide +kernel
theorem dX12_read_6 : decode cX12_read 6 = .ok (.if_icmp .ne 6, 3) := by decide +kernel
theorem dX12_read_12 : decode cX12_read 12 = .ok (.aload_n 0, 1) := by decide +kernel
theorem dX12_read_13 : decode cX12_read 13 = .ok (.dup, 1) := by decide +kernel
theorem dX12_read_14 : decode cX12_read 14 = .ok (.getfield 292, 3) := by decide +kernel
theorem dX12_read_17 : decode cX12_read 17 = .ok (.iconst 1, 1) := by decide +kernel
theorem dX12_read_18 : decode cX12_read 18 = .ok (.iadd, 1) := by decide +kernel
theorem dX12_read_19 : decode cX12_read 19 = .ok (.putfield 292, 3) := by decide +kernel
theorem dX12_read_22 : decode cX12_read 22 = .ok (.aload_n 0, 1) := by decide +kernel
theorem dX12_read_23 : decode cX12_read 23 = .ok (.iconst 0, 1) := by decide +kernel
theorem dX12_read_24 : decode cX12_read 24 = .ok (.putfield 106, 3) := by decide +kernel
theorem dX12_read_27 : decode cX12_read 27 = .ok (.aload_n 0, 1) := by decide +kernel
theorem dX12_read_28 : decode cX12_read 28 = .ok (.iconst 0, 1) := by decide +kernel
theorem dX12_read_29 : decode cX12_read 29 = .ok (.putfield 256, 3) := by decide +kernel
theorem dX12_read_32 : decode cX12_read 32 = .ok (.aload_n 0, 1) := by decide +kernel
theorem dX12_read_33 : decode cX12_read 33 = .ok (.invokevirtual 295, 3) := by decide +kernel
theorem dX12_read_36 : decode cX12_read 36 = .ok (.ifCond .eq 10, 3) := by decide +kernel
theorem dX12_read_39 : decode cX12_read 39 = .ok (.aload_n 0, 1) := by decide +kernel
theorem dX12_read_40 : decode cX12_read 40 = .ok (.invokevirtual 299, 3) := by decide +kernel
theorem dX12_read_43 : decode cX12_read 43 = .ok (.ifCond .ne 11, 3) := by decide +kernel
theorem dX12_read_54 : decode cX12_read 54 = .ok (.aload_n 0, 1) := by decide +kernel
theorem dX12_read_55 : decode cX12_read 55 = .ok (.invokevirtual 302, 3) := by decide +kernel
theorem dX12_read_58 : decode cX12_read 58 = .ok (.aload_n 0, 1) := by decide +kernel
theorem dX12_read_59 : decode cX12_read 59 = .ok (.getfield 289, 3) := by decide +kernel
theorem dX12_read_62 : decode cX12_read 62 = .ok (.ireturn, 1) := by decide +kernel
theorem dX12_fault_0 : decode cX12_fault 0 = .ok (.aload_n 0, 1) := by decide +kernel
theorem dX12_fault_1 : decode cX12_fault 1 = .ok (.getfield 106, 3) := by decide +kernel
theorem dX12_fault_4 : decode cX12_fault 4 = .ok (.ireturn, 1) := by decide +kernel
theorem dX12_lexeme_0 : decode cX12_lexeme 0 = .ok (.iload_n 2, 1) := by decide +kernel
theorem dX12_lexeme_1 : decode cX12_lexeme 1 = .ok (.i2l, 1) := by decide +kernel
theorem dX12_lexeme_2 : decode cX12_lexeme 2 = .ok (.lconst 0, 1) := by decide +kernel
theorem dX12_lexeme_3 : decode cX12_lexeme 3 = .ok (.ldc2_w 305, 3) := by decide +kernel
theorem dX12_lexeme_6 : decode cX12_lexeme 6 = .ok (.invokestatic 94, 3) := by decide +kernel
theorem dX12_lexeme_9 : decode cX12_lexeme 9 = .ok (.ifCond .ne 6, 3) := by decide +kernel
theorem dX12_lexeme_12 : decode cX12_lexeme 12 = .ok (.bipush (-2), 2) := by decide +kernel
theorem dX12_lexeme_14 : decode cX12_lexeme 14 = .ok (.ireturn, 1) := by decide +kernel
theorem dX12_lexeme_15 : decode cX12_lexeme 15 = .ok (.iload_n 1, 1) := by decide +kernel
theorem dX12_lexeme_16 : decode cX12_lexeme 16 = .ok (.i2l, 1) := by decide +kernel
theorem dX12_lexeme_17 : decode cX12_lexeme 17 = .ok (.lconst 0, 1) := by decide +kernel
theorem dX12_lexeme_18 : decode cX12_lexeme 18 = .ok (.aload_n 0, 1) := by decide +kernel
theorem dX12_lexeme_19 : decode cX12_lexeme 19 = .ok (.getfield 142, 3) := by decide +kernel
theorem dX12_lexeme_22 : decode cX12_lexeme 22 = .ok (.iconst 1, 1) := by decide +kernel
theorem dX12_lexeme_23 : decode cX12_lexeme 23 = .ok (.isub, 1) := by decide +kernel
theorem dX12_lexeme_24 : decode cX12_lexeme 24 = .ok (.i2l, 1) := by decide +kernel
theorem dX12_lexeme_25 : decode cX12_lexeme 25 = .ok (.invokestatic 94, 3) := by decide +kernel
theorem dX12_lexeme_28 : decode cX12_lexeme 28 = .ok (.ifCond .ne 5, 3) := by decide +kernel
theorem dX12_lexeme_31 : decode cX12_lexeme 31 = .ok (.iconst (-1), 1) := by decide +kernel
theorem dX12_lexeme_32 : decode cX12_lexeme 32 = .ok (.ireturn, 1) := by decide +kernel
theorem dX12_token_0 : decode cX12_token 0 = .ok (.iload_n 1, 1) := by decide +kernel
theorem dX12_token_1 : decode cX12_token 1 = .ok (.i2l, 1) := by decide +kernel
theorem dX12_token_2 : decode cX12_token 2 = .ok (.lconst 0, 1) := by decide +kernel
theorem dX12_token_3 : decode cX12_token 3 = .ok (.aload_n 0, 1) := by decide +kernel
theorem dX12_token_4 : decode cX12_token 4 = .ok (.getfield 256, 3) := by decide +kernel
theorem dX12_token_7 : decode cX12_token 7 = .ok (.iconst 1, 1) := by decide +kernel
theorem dX12_token_8 : decode cX12_token 8 = .ok (.isub, 1) := by decide +kernel
theorem dX12_token_9 : decode cX12_token 9 = .ok (.i2l, 1) := by decide +kernel
theorem dX12_token_10 : decode cX12_token 10 = .ok (.invokestatic 94, 3) := by decide +kernel
theorem dX12_token_13 : decode cX12_token 13 = .ok (.ifCond .eq 12, 3) := by decide +kernel
theorem dX12_token_25 : decode cX12_token 25 = .ok (.iconst (-1), 1) := by decide +kernel
theorem dX12_token_26 : decode cX12_token 26 = .ok (.ireturn, 1) := by decide +kernel
theorem dX12_count_0 : decode cX12_count 0 = .ok (.iload_n 1, 1) := by decide +kernel
theorem dX12_count_1 : decode cX12_count 1 = .ok (.tableswitch 71 0 4 #[35, 40, 45, 50, 66], 35) := by decide +kernel
theorem dX12_count_36 : decode cX12_count 36 = .ok (.aload_n 0, 1) := by decide +kernel
theorem dX12_count_37 : decode cX12_count 37 = .ok (.getfield 98, 3) := by decide +kernel
theorem dX12_count_40 : decode cX12_count 40 = .ok (.ireturn, 1) := by decide +kernel
theorem dX12_count_41 : decode cX12_count 41 = .ok (.aload_n 0, 1) := by decide +kernel
theorem dX12_count_42 : decode cX12_count 42 = .ok (.getfield 142, 3) := by decide +kernel
theorem dX12_count_45 : decode cX12_count 45 = .ok (.ireturn, 1) := by decide +kernel
theorem dX12_count_46 : decode cX12_count 46 = .ok (.aload_n 0, 1) := by decide +kernel
theorem dX12_count_47 : decode cX12_count 47 = .ok (.getfield 256, 3) := by decide +kernel
theorem dX12_count_50 : decode cX12_count 50 = .ok (.ireturn, 1) := by decide +kernel
theorem dX12_count_51 : decode cX12_count 51 = .ok (.aload_n 0, 1) := by decide +kernel
theorem dX12_count_52 : decode cX12_count 52 = .ok (.getfield 285, 3) := by decide +kernel
theorem dX12_count_55 : decode cX12_count 55 = .ok (.ifCond .eq 10, 3) := by decide +kernel
theorem dX12_count_65 : decode cX12_count 65 = .ok (.iconst 0, 1) := by decide +kernel
theorem dX12_count_66 : decode cX12_count 66 = .ok (.ireturn, 1) := by decide +kernel
theorem dX12_count_67 : decode cX12_count 67 = .ok (.aload_n 0, 1) := by decide +kernel
theorem dX12_count_68 : decode cX12_count 68 = .ok (.getfield 292, 3) := by decide +kernel
theorem dX12_count_71 : decode cX12_count 71 = .ok (.ireturn, 1) := by decide +kernel
theorem dX12_count_72 : decode cX12_count 72 = .ok (.bipush (-2), 2) := by decide +kernel
theorem dX12_count_74 : decode cX12_count 74 = .ok (.ireturn, 1) := by decide +kernel
theorem dX12_isNode_0 : decode cX12_isNode 0 = .ok (.aload_n 0, 1) := by decide +kernel
theorem dX12_isNode_1 : decode cX12_isNode 1 = .ok (.getfield 285, 3) := by decide +kernel
theorem dX12_isNode_4 : decode cX12_isNode 4 = .ok (.ifCond .eq 23, 3) := by decide +kernel
theorem dX12_isNode_27 : decode cX12_isNode 27 = .ok (.iconst 0, 1) := by decide +kernel
theorem dX12_isNode_28 : decode cX12_isNode 28 = .ok (.ireturn, 1) := by decide +kernel
theorem dX12_node__0 : decode cX12_node_ 0 = .ok (.aload_n 0, 1) := by decide +kernel
theorem dX12_node__1 : decode cX12_node_ 1 = .ok (.iload_n 1, 1) := by decide +kernel
theorem dX12_node__2 : decode cX12_node_ 2 = .ok (.invokevirtual 307, 3) := by decide +kernel
theorem dX12_node__5 : decode cX12_node_ 5 = .ok (.ifCond .ne 7, 3) := by decide +kernel
theorem dX12_node__8 : decode cX12_node_ 8 = .ok (.ldc_w 310, 3) := by decide +kernel
theorem dX12_node__11 : decode cX12_node_ 11 = .ok (.ireturn, 1) := by decide +kernel
theorem dX12_letter_0 : decode cX12_letter 0 = .ok (.aload_n 0, 1) := by decide +kernel
theorem dX12_letter_1 : decode cX12_letter 1 = .ok (.iload_n 1, 1) := by decide +kernel
theorem dX12_letter_2 : decode cX12_letter 2 = .ok (.invokevirtual 307, 3) := by decide +kernel
theorem dX12_letter_5 : decode cX12_letter 5 = .ok (.ifCond .ne 6, 3) := by decide +kernel
theorem dX12_letter_8 : decode cX12_letter 8 = .ok (.bipush (-2), 2) := by decide +kernel
theorem dX12_letter_10 : decode cX12_letter 10 = .ok (.ireturn, 1) := by decide +kernel
theorem dX12_child_0 : decode cX12_child 0 = .ok (.aload_n 0, 1) := by decide +kernel
theorem dX12_child_1 : decode cX12_child 1 = .ok (.iload_n 1, 1) := by decide +kernel
theorem dX12_child_2 : decode cX12_child 2 = .ok (.invokevirtual 307, 3) := by decide +kernel
theorem dX12_child_5 : decode cX12_child 5 = .ok (.ifCond .ne 6, 3) := by decide +kernel
theorem dX12_child_8 : decode cX12_child 8 = .ok (.bipush (-2), 2) := by decide +kernel
theorem dX12_child_10 : decode cX12_child 10 = .ok (.ireturn, 1) := by decide +kernel
theorem dX12_digest_0 : decode cX12_digest 0 = .ok (.ldc2_w 315, 3) := by decide +kernel
theorem dX12_digest_3 : decode cX12_digest 3 = .ok (.lstore_n 1, 1) := by decide +kernel
theorem dX12_digest_4 : decode cX12_digest 4 = .ok (.iconst 0, 1) := by decide +kernel
theorem dX12_digest_5 : decode cX12_digest 5 = .ok (.istore_n 3, 1) := by decide +kernel
theorem dX12_digest_6 : decode cX12_digest 6 = .ok (.aload_n 0, 1) := by decide +kernel
theorem dX12_digest_7 : decode cX12_digest 7 = .ok (.getfield 285, 3) := by decide +kernel
theorem dX12_digest_10 : decode cX12_digest 10 = .ok (.ifCond .eq 87, 3) := by decide +kernel
theorem dX12_digest_97 : decode cX12_digest 97 = .ok (.lload_n 1, 1) := by decide +kernel
theorem dX12_digest_98 : decode cX12_digest 98 = .ok (.lreturn, 1) := by decide +kernel
theorem dX12_write_0 : decode cX12_write 0 = .ok (.iload_n 1, 1) := by decide +kernel
theorem dX12_write_1 : decode cX12_write 1 = .ok (.i2l, 1) := by decide +kernel
theorem dX12_write_2 : decode cX12_write 2 = .ok (.lconst 0, 1) := by decide +kernel
theorem dX12_write_3 : decode cX12_write 3 = .ok (.lconst 1, 1) := by decide +kernel
theorem dX12_write_4 : decode cX12_write 4 = .ok (.invokestatic 94, 3) := by decide +kernel
theorem dX12_write_7 : decode cX12_write 7 = .ok (.ifCond .ne 6, 3) := by decide +kernel
theorem dX12_write_10 : decode cX12_write 10 = .ok (.bipush (-2), 2) := by decide +kernel
theorem dX12_write_12 : decode cX12_write 12 = .ok (.ireturn, 1) := by decide +kernel
theorem dX12_write_13 : decode cX12_write 13 = .ok (.aload_n 0, 1) := by decide +kernel
theorem dX12_write_14 : decode cX12_write 14 = .ok (.getfield 285, 3) := by decide +kernel
theorem dX12_write_17 : decode cX12_write 17 = .ok (.ifCond .ne 6, 3) := by decide +kernel
theorem dX12_write_20 : decode cX12_write 20 = .ok (.bipush (-4), 2) := by decide +kernel
theorem dX12_write_22 : decode cX12_write 22 = .ok (.ireturn, 1) := by decide +kernel
theorem dL_law_0 : decode cL_law 0 = .ok (.new 7, 3) := by decide +kernel
theorem dL_law_3 : decode cL_law 3 = .ok (.dup, 1) := by decide +kernel
theorem dL_law_4 : decode cL_law 4 = .ok (.invokespecial 9, 3) := by decide +kernel
theorem dL_law_7 : decode cL_law 7 = .ok (.astore_n 1, 1) := by decide +kernel
theorem dL_law_8 : decode cL_law 8 = .ok (.new 10, 3) := by decide +kernel
theorem dL_law_11 : decode cL_law 11 = .ok (.dup, 1) := by decide +kernel
theorem dL_law_12 : decode cL_law 12 = .ok (.invokespecial 12, 3) := by decide +kernel
theorem dL_law_15 : decode cL_law 15 = .ok (.astore_n 2, 1) := by decide +kernel
theorem dL_law_16 : decode cL_law 16 = .ok (.iconst 0, 1) := by decide +kernel
theorem dL_law_17 : decode cL_law 17 = .ok (.istore_n 3, 1) := by decide +kernel
theorem dL_law_18 : decode cL_law 18 = .ok (.iload_n 3, 1) := by decide +kernel
theorem dL_law_19 : decode cL_law 19 = .ok (.aload_n 0, 1) := by decide +kernel
theorem dL_law_20 : decode cL_law 20 = .ok (.arraylength, 1) := by decide +kernel
theorem dL_law_21 : decode cL_law 21 = .ok (.bipush 6, 2) := by decide +kernel
theorem dL_law_23 : decode cL_law 23 = .ok (.isub, 1) := by decide +kernel
theorem dL_law_24 : decode cL_law 24 = .ok (.if_icmp .gt 552, 3) := by decide +kernel
theorem dL_law_27 : decode cL_law 27 = .ok (.aload_n 0, 1) := by decide +kernel
theorem dL_law_28 : decode cL_law 28 = .ok (.iload_n 3, 1) := by decide +kernel
theorem dL_law_29 : decode cL_law 29 = .ok (.iaload, 1) := by decide +kernel
theorem dL_law_30 : decode cL_law 30 = .ok (.bipush 15, 2) := by decide +kernel
theorem dL_law_32 : decode cL_law 32 = .ok (.iand, 1) := by decide +kernel
theorem dL_law_33 : decode cL_law 33 = .ok (.tableswitch 537 0 14 #[75, 178, 227, 240, 263, 296, 309, 322, 355, 378, 401, 434, 467, 500, 523], 75) := by decide +kernel
theorem dL_law_108 : decode cL_law 108 = .ok (.aload_n 1, 1) := by decide +kernel
theorem dL_law_109 : decode cL_law 109 = .ok (.aload_n 0, 1) := by decide +kernel
theorem dL_law_110 : decode cL_law 110 = .ok (.iload_n 3, 1) := by decide +kernel
theorem dL_law_111 : decode cL_law 111 = .ok (.iconst 1, 1) := by decide +kernel
theorem dL_law_112 : decode cL_law 112 = .ok (.iadd, 1) := by decide +kernel
theorem dL_law_113 : decode cL_law 113 = .ok (.iaload, 1) := by decide +kernel
theorem dL_law_114 : decode cL_law 114 = .ok (.i2l, 1) := by decide +kernel
theorem dL_law_115 : decode cL_law 115 = .ok (.bipush 32, 2) := by decide +kernel
theorem dL_law_117 : decode cL_law 117 = .ok (.lshl, 1) := by decide +kernel
theorem dL_law_118 : decode cL_law 118 = .ok (.aload_n 0, 1) := by decide +kernel
theorem dL_law_119 : decode cL_law 119 = .ok (.iload_n 3, 1) := by decide +kernel
theorem dL_law_120 : decode cL_law 120 = .ok (.iconst 2, 1) := by decide +kernel
theorem dL_law_121 : decode cL_law 121 = .ok (.iadd, 1) := by decide +kernel
theorem dL_law_122 : decode cL_law 122 = .ok (.iaload, 1) := by decide +kernel
theorem dL_law_123 : decode cL_law 123 = .ok (.i2l, 1) := by decide +kernel
theorem dL_law_124 : decode cL_law 124 = .ok (.ldc2_w 13, 3) := by decide +kernel
theorem dL_law_127 : decode cL_law 127 = .ok (.land, 1) := by decide +kernel
theorem dL_law_128 : decode cL_law 128 = .ok (.lor, 1) := by decide +kernel
theorem dL_law_129 : decode cL_law 129 = .ok (.aload_n 0, 1) := by decide +kernel
theorem dL_law_130 : decode cL_law 130 = .ok (.iload_n 3, 1) := by decide +kernel
theorem dL_law_131 : decode cL_law 131 = .ok (.iconst 3, 1) := by decide +kernel
theorem dL_law_132 : decode cL_law 132 = .ok (.iadd, 1) := by decide +kernel
theorem dL_law_133 : decode cL_law 133 = .ok (.iaload, 1) := by decide +kernel
theorem dL_law_134 : decode cL_law 134 = .ok (.i2l, 1) := by decide +kernel
theorem dL_law_135 : decode cL_law 135 = .ok (.bipush 32, 2) := by decide +kernel
theorem dL_law_137 : decode cL_law 137 = .ok (.lshl, 1) := by decide +kernel
theorem dL_law_138 : decode cL_law 138 = .ok (.aload_n 0, 1) := by decide +kernel
theorem dL_law_139 : decode cL_law 139 = .ok (.iload_n 3, 1) := by decide +kernel
theorem dL_law_140 : decode cL_law 140 = .ok (.iconst 4, 1) := by decide +kernel
theorem dL_law_141 : decode cL_law 141 = .ok (.iadd, 1) := by decide +kernel
theorem dL_law_142 : decode cL_law 142 = .ok (.iaload, 1) := by decide +kernel
theorem dL_law_143 : decode cL_law 143 = .ok (.i2l, 1) := by decide +kernel
theorem dL_law_144 : decode cL_law 144 = .ok (.ldc2_w 13, 3) := by decide +kernel
theorem dL_law_147 : decode cL_law 147 = .ok (.land, 1) := by decide +kernel
theorem dL_law_148 : decode cL_law 148 = .ok (.lor, 1) := by decide +kernel
theorem dL_law_149 : decode cL_law 149 = .ok (.aload_n 0, 1) := by decide +kernel
theorem dL_law_150 : decode cL_law 150 = .ok (.iload_n 3, 1) := by decide +kernel
theorem dL_law_151 : decode cL_law 151 = .ok (.iconst 5, 1) := by decide +kernel
theorem dL_law_152 : decode cL_law 152 = .ok (.iadd, 1) := by decide +kernel
theorem dL_law_153 : decode cL_law 153 = .ok (.iaload, 1) := by decide +kernel
theorem dL_law_154 : decode cL_law 154 = .ok (.invokevirtual 15, 3) := by decide +kernel
theorem dL_law_157 : decode cL_law 157 = .ok (.aload_n 2, 1) := by decide +kernel
theorem dL_law_158 : decode cL_law 158 = .ok (.aload_n 0, 1) := by decide +kernel
theorem dL_law_159 : decode cL_law 159 = .ok (.iload_n 3, 1) := by decide +kernel
theorem dL_law_160 : decode cL_law 160 = .ok (.iconst 1, 1) := by decide +kernel
theorem dL_law_161 : decode cL_law 161 = .ok (.iadd, 1) := by decide +kernel
theorem dL_law_162 : decode cL_law 162 = .ok (.iaload, 1) := by decide +kernel
theorem dL_law_163 : decode cL_law 163 = .ok (.i2l, 1) := by decide +kernel
theorem dL_law_164 : decode cL_law 164 = .ok (.bipush 32, 2) := by decide +kernel
theorem dL_law_166 : decode cL_law 166 = .ok (.lshl, 1) := by decide +kernel
theorem dL_law_167 : decode cL_law 167 = .ok (.aload_n 0, 1) := by decide +kernel
theorem dL_law_168 : decode cL_law 168 = .ok (.iload_n 3, 1) := by decide +kernel
theorem dL_law_169 : decode cL_law 169 = .ok (.iconst 2, 1) := by decide +kernel
theorem dL_law_170 : decode cL_law 170 = .ok (.iadd, 1) := by decide +kernel
theorem dL_law_171 : decode cL_law 171 = .ok (.iaload, 1) := by decide +kernel
theorem dL_law_172 : decode cL_law 172 = .ok (.i2l, 1) := by decide +kernel
theorem dL_law_173 : decode cL_law 173 = .ok (.ldc2_w 13, 3) := by decide +kernel
theorem dL_law_176 : decode cL_law 176 = .ok (.land, 1) := by decide +kernel
theorem dL_law_177 : decode cL_law 177 = .ok (.lor, 1) := by decide +kernel
theorem dL_law_178 : decode cL_law 178 = .ok (.aload_n 0, 1) := by decide +kernel
theorem dL_law_179 : decode cL_law 179 = .ok (.iload_n 3, 1) := by decide +kernel
theorem dL_law_180 : decode cL_law 180 = .ok (.iconst 3, 1) := by decide +kernel
theorem dL_law_181 : decode cL_law 181 = .ok (.iadd, 1) := by decide +kernel
theorem dL_law_182 : decode cL_law 182 = .ok (.iaload, 1) := by decide +kernel
theorem dL_law_183 : decode cL_law 183 = .ok (.i2l, 1) := by decide +kernel
theorem dL_law_184 : decode cL_law 184 = .ok (.bipush 32, 2) := by decide +kernel
theorem dL_law_186 : decode cL_law 186 = .ok (.lshl, 1) := by decide +kernel
theorem dL_law_187 : decode cL_law 187 = .ok (.aload_n 0, 1) := by decide +kernel
theorem dL_law_188 : decode cL_law 188 = .ok (.iload_n 3, 1) := by decide +kernel
theorem dL_law_189 : decode cL_law 189 = .ok (.iconst 4, 1) := by decide +kernel
theorem dL_law_190 : decode cL_law 190 = .ok (.iadd, 1) := by decide +kernel
theorem dL_law_191 : decode cL_law 191 = .ok (.iaload, 1) := by decide +kernel
theorem dL_law_192 : decode cL_law 192 = .ok (.i2l, 1) := by decide +kernel
theorem dL_law_193 : decode cL_law 193 = .ok (.ldc2_w 13, 3) := by decide +kernel
theorem dL_law_196 : decode cL_law 196 = .ok (.land, 1) := by decide +kernel
theorem dL_law_197 : decode cL_law 197 = .ok (.lor, 1) := by decide +kernel
theorem dL_law_198 : decode cL_law 198 = .ok (.aload_n 0, 1) := by decide +kernel
theorem dL_law_199 : decode cL_law 199 = .ok (.iload_n 3, 1) := by decide +kernel
theorem dL_law_200 : decode cL_law 200 = .ok (.iconst 5, 1) := by decide +kernel
theorem dL_law_201 : decode cL_law 201 = .ok (.iadd, 1) := by decide +kernel
theorem dL_law_202 : decode cL_law 202 = .ok (.iaload, 1) := by decide +kernel
theorem dL_law_203 : decode cL_law 203 = .ok (.invokevirtual 19, 3) := by decide +kernel
theorem dL_law_206 : decode cL_law 206 = .ok (.if_icmp .eq 364, 3) := by decide +kernel
theorem dL_law_211 : decode cL_law 211 = .ok (.aload_n 1, 1) := by decide +kernel
theorem dL_law_212 : decode cL_law 212 = .ok (.aload_n 0, 1) := by decide +kernel
theorem dL_law_213 : decode cL_law 213 = .ok (.iload_n 3, 1) := by decide +kernel
theorem dL_law_214 : decode cL_law 214 = .ok (.iconst 1, 1) := by decide +kernel
theorem dL_law_215 : decode cL_law 215 = .ok (.iadd, 1) := by decide +kernel
theorem dL_law_216 : decode cL_law 216 = .ok (.iaload, 1) := by decide +kernel
theorem dL_law_217 : decode cL_law 217 = .ok (.ifCond .eq 7, 3) := by decide +kernel
theorem dL_law_220 : decode cL_law 220 = .ok (.iconst 1, 1) := by decide +kernel
theorem dL_law_221 : decode cL_law 221 = .ok (.goto 4, 3) := by decide +kernel
theorem dL_law_224 : decode cL_law 224 = .ok (.iconst 0, 1) := by decide +kernel
theorem dL_law_225 : decode cL_law 225 = .ok (.aload_n 0, 1) := by decide +kernel
theorem dL_law_226 : decode cL_law 226 = .ok (.iload_n 3, 1) := by decide +kernel
theorem dL_law_227 : decode cL_law 227 = .ok (.iconst 2, 1) := by decide +kernel
theorem dL_law_228 : decode cL_law 228 = .ok (.iadd, 1) := by decide +kernel
theorem dL_law_229 : decode cL_law 229 = .ok (.iaload, 1) := by decide +kernel
theorem dL_law_230 : decode cL_law 230 = .ok (.invokevirtual 20, 3) := by decide +kernel
theorem dL_law_233 : decode cL_law 233 = .ok (.aload_n 2, 1) := by decide +kernel
theorem dL_law_234 : decode cL_law 234 = .ok (.aload_n 0, 1) := by decide +kernel
theorem dL_law_235 : decode cL_law 235 = .ok (.iload_n 3, 1) := by decide +kernel
theorem dL_law_236 : decode cL_law 236 = .ok (.iconst 1, 1) := by decide +kernel
theorem dL_law_237 : decode cL_law 237 = .ok (.iadd, 1) := by decide +kernel
theorem dL_law_238 : decode cL_law 238 = .ok (.iaload, 1) := by decide +kernel
theorem dL_law_239 : decode cL_law 239 = .ok (.ifCond .eq 7, 3) := by decide +kernel
theorem dL_law_242 : decode cL_law 242 = .ok (.iconst 1, 1) := by decide +kernel
theorem dL_law_243 : decode cL_law 243 = .ok (.goto 4, 3) := by decide +kernel
theorem dL_law_246 : decode cL_law 246 = .ok (.iconst 0, 1) := by decide +kernel
theorem dL_law_247 : decode cL_law 247 = .ok (.aload_n 0, 1) := by decide +kernel
theorem dL_law_248 : decode cL_law 248 = .ok (.iload_n 3, 1) := by decide +kernel
theorem dL_law_249 : decode cL_law 249 = .ok (.iconst 2, 1) := by decide +kernel
theorem dL_law_250 : decode cL_law 250 = .ok (.iadd, 1) := by decide +kernel
theorem dL_law_251 : decode cL_law 251 = .ok (.iaload, 1) := by decide +kernel
theorem dL_law_252 : decode cL_law 252 = .ok (.invokevirtual 24, 3) := by decide +kernel
theorem dL_law_255 : decode cL_law 255 = .ok (.if_icmp .eq 315, 3) := by decide +kernel
theorem dL_law_260 : decode cL_law 260 = .ok (.aload_n 1, 1) := by decide +kernel
theorem dL_law_261 : decode cL_law 261 = .ok (.invokevirtual 25, 3) := by decide +kernel
theorem dL_law_264 : decode cL_law 264 = .ok (.aload_n 2, 1) := by decide +kernel
theorem dL_law_265 : decode cL_law 265 = .ok (.invokevirtual 29, 3) := by decide +kernel
theorem dL_law_268 : decode cL_law 268 = .ok (.if_icmp .eq 302, 3) := by decide +kernel
theorem dL_law_273 : decode cL_law 273 = .ok (.aload_n 1, 1) := by decide +kernel
theorem dL_law_274 : decode cL_law 274 = .ok (.aload_n 0, 1) := by decide +kernel
theorem dL_law_275 : decode cL_law 275 = .ok (.iload_n 3, 1) := by decide +kernel
theorem dL_law_276 : decode cL_law 276 = .ok (.iconst 1, 1) := by decide +kernel
theorem dL_law_277 : decode cL_law 277 = .ok (.iadd, 1) := by decide +kernel
theorem dL_law_278 : decode cL_law 278 = .ok (.iaload, 1) := by decide +kernel
theorem dL_law_279 : decode cL_law 279 = .ok (.invokevirtual 30, 3) := by decide +kernel
theorem dL_law_282 : decode cL_law 282 = .ok (.aload_n 2, 1) := by decide +kernel
theorem dL_law_283 : decode cL_law 283 = .ok (.aload_n 0, 1) := by decide +kernel
theorem dL_law_284 : decode cL_law 284 = .ok (.iload_n 3, 1) := by decide +kernel
theorem dL_law_285 : decode cL_law 285 = .ok (.iconst 1, 1) := by decide +kernel
theorem dL_law_286 : decode cL_law 286 = .ok (.iadd, 1) := by decide +kernel
theorem dL_law_287 : decode cL_law 287 = .ok (.iaload, 1) := by decide +kernel
theorem dL_law_288 : decode cL_law 288 = .ok (.invokevirtual 34, 3) := by decide +kernel
theorem dL_law_291 : decode cL_law 291 = .ok (.if_icmp .eq 279, 3) := by decide +kernel
theorem dL_law_296 : decode cL_law 296 = .ok (.aload_n 1, 1) := by decide +kernel
theorem dL_law_297 : decode cL_law 297 = .ok (.aload_n 0, 1) := by decide +kernel
theorem dL_law_298 : decode cL_law 298 = .ok (.iload_n 3, 1) := by decide +kernel
theorem dL_law_299 : decode cL_law 299 = .ok (.iconst 1, 1) := by decide +kernel
theorem dL_law_300 : decode cL_law 300 = .ok (.iadd, 1) := by decide +kernel
theorem dL_law_301 : decode cL_law 301 = .ok (.iaload, 1) := by decide +kernel
theorem dL_law_302 : decode cL_law 302 = .ok (.aload_n 0, 1) := by decide +kernel
theorem dL_law_303 : decode cL_law 303 = .ok (.iload_n 3, 1) := by decide +kernel
theorem dL_law_304 : decode cL_law 304 = .ok (.iconst 2, 1) := by decide +kernel
theorem dL_law_305 : decode cL_law 305 = .ok (.iadd, 1) := by decide +kernel
theorem dL_law_306 : decode cL_law 306 = .ok (.iaload, 1) := by decide +kernel
theorem dL_law_307 : decode cL_law 307 = .ok (.invokevirtual 35, 3) := by decide +kernel
theorem dL_law_310 : decode cL_law 310 = .ok (.aload_n 2, 1) := by decide +kernel
theorem dL_law_311 : decode cL_law 311 = .ok (.aload_n 0, 1) := by decide +kernel
theorem dL_law_312 : decode cL_law 312 = .ok (.iload_n 3, 1) := by decide +kernel
theorem dL_law_313 : decode cL_law 313 = .ok (.iconst 1, 1) := by decide +kernel
theorem dL_law_314 : decode cL_law 314 = .ok (.iadd, 1) := by decide +kernel
theorem dL_law_315 : decode cL_law 315 = .ok (.iaload, 1) := by decide +kernel
theorem dL_law_316 : decode cL_law 316 = .ok (.aload_n 0, 1) := by decide +kernel
theorem dL_law_317 : decode cL_law 317 = .ok (.iload_n 3, 1) := by decide +kernel
theorem dL_law_318 : decode cL_law 318 = .ok (.iconst 2, 1) := by decide +kernel
theorem dL_law_319 : decode cL_law 319 = .ok (.iadd, 1) := by decide +kernel
theorem dL_law_320 : decode cL_law 320 = .ok (.iaload, 1) := by decide +kernel
theorem dL_law_321 : decode cL_law 321 = .ok (.invokevirtual 39, 3) := by decide +kernel
theorem dL_law_324 : decode cL_law 324 = .ok (.if_icmp .eq 246, 3) := by decide +kernel
theorem dL_law_329 : decode cL_law 329 = .ok (.aload_n 1, 1) := by decide +kernel
theorem dL_law_330 : decode cL_law 330 = .ok (.invokevirtual 40, 3) := by decide +kernel
theorem dL_law_333 : decode cL_law 333 = .ok (.aload_n 2, 1) := by decide +kernel
theorem dL_law_334 : decode cL_law 334 = .ok (.invokevirtual 43, 3) := by decide +kernel
theorem dL_law_337 : decode cL_law 337 = .ok (.if_icmp .eq 233, 3) := by decide +kernel
theorem dL_law_342 : decode cL_law 342 = .ok (.aload_n 1, 1) := by decide +kernel
theorem dL_law_343 : decode cL_law 343 = .ok (.invokevirtual 44, 3) := by decide +kernel
theorem dL_law_346 : decode cL_law 346 = .ok (.aload_n 2, 1) := by decide +kernel
theorem dL_law_347 : decode cL_law 347 = .ok (.invokevirtual 47, 3) := by decide +kernel
theorem dL_law_350 : decode cL_law 350 = .ok (.if_icmp .eq 220, 3) := by decide +kernel
theorem dL_law_355 : decode cL_law 355 = .ok (.aload_n 1, 1) := by decide +kernel
theorem dL_law_356 : decode cL_law 356 = .ok (.aload_n 0, 1) := by decide +kernel
theorem dL_law_357 : decode cL_law 357 = .ok (.iload_n 3, 1) := by decide +kernel
theorem dL_law_358 : decode cL_law 358 = .ok (.iconst 1, 1) := by decide +kernel
theorem dL_law_359 : decode cL_law 359 = .ok (.iadd, 1) := by decide +kernel
theorem dL_law_360 : decode cL_law 360 = .ok (.iaload, 1) := by decide +kernel
theorem dL_law_361 : decode cL_law 361 = .ok (.aload_n 0, 1) := by decide +kernel
theorem dL_law_362 : decode cL_law 362 = .ok (.iload_n 3, 1) := by decide +kernel
theorem dL_law_363 : decode cL_law 363 = .ok (.iconst 2, 1) := by decide +kernel
theorem dL_law_364 : decode cL_law 364 = .ok (.iadd, 1) := by decide +kernel
theorem dL_law_365 : decode cL_law 365 = .ok (.iaload, 1) := by decide +kernel
theorem dL_law_366 : decode cL_law 366 = .ok (.invokevirtual 48, 3) := by decide +kernel
theorem dL_law_369 : decode cL_law 369 = .ok (.aload_n 2, 1) := by decide +kernel
theorem dL_law_370 : decode cL_law 370 = .ok (.aload_n 0, 1) := by decide +kernel
theorem dL_law_371 : decode cL_law 371 = .ok (.iload_n 3, 1) := by decide +kernel
theorem dL_law_372 : decode cL_law 372 = .ok (.iconst 1, 1) := by decide +kernel
theorem dL_law_373 : decode cL_law 373 = .ok (.iadd, 1) := by decide +kernel
theorem dL_law_374 : decode cL_law 374 = .ok (.iaload, 1) := by decide +kernel
theorem dL_law_375 : decode cL_law 375 = .ok (.aload_n 0, 1) := by decide +kernel
theorem dL_law_376 : decode cL_law 376 = .ok (.iload_n 3, 1) := by decide +kernel
theorem dL_law_377 : decode cL_law 377 = .ok (.iconst 2, 1) := by decide +kernel
theorem dL_law_378 : decode cL_law 378 = .ok (.iadd, 1) := by decide +kernel
theorem dL_law_379 : decode cL_law 379 = .ok (.iaload, 1) := by decide +kernel
theorem dL_law_380 : decode cL_law 380 = .ok (.invokevirtual 51, 3) := by decide +kernel
theorem dL_law_383 : decode cL_law 383 = .ok (.if_icmp .eq 187, 3) := by decide +kernel
theorem dL_law_388 : decode cL_law 388 = .ok (.aload_n 1, 1) := by decide +kernel
theorem dL_law_389 : decode cL_law 389 = .ok (.aload_n 0, 1) := by decide +kernel
theorem dL_law_390 : decode cL_law 390 = .ok (.iload_n 3, 1) := by decide +kernel
theorem dL_law_391 : decode cL_law 391 = .ok (.iconst 1, 1) := by decide +kernel
theorem dL_law_392 : decode cL_law 392 = .ok (.iadd, 1) := by decide +kernel
theorem dL_law_393 : decode cL_law 393 = .ok (.iaload, 1) := by decide +kernel
theorem dL_law_394 : decode cL_law 394 = .ok (.invokevirtual 52, 3) := by decide +kernel
theorem dL_law_397 : decode cL_law 397 = .ok (.aload_n 2, 1) := by decide +kernel
theorem dL_law_398 : decode cL_law 398 = .ok (.aload_n 0, 1) := by decide +kernel
theorem dL_law_399 : decode cL_law 399 = .ok (.iload_n 3, 1) := by decide +kernel
theorem dL_law_400 : decode cL_law 400 = .ok (.iconst 1, 1) := by decide +kernel
theorem dL_law_401 : decode cL_law 401 = .ok (.iadd, 1) := by decide +kernel
theorem dL_law_402 : decode cL_law 402 = .ok (.iaload, 1) := by decide +kernel
theorem dL_law_403 : decode cL_law 403 = .ok (.invokevirtual 55, 3) := by decide +kernel
theorem dL_law_406 : decode cL_law 406 = .ok (.if_icmp .eq 164, 3) := by decide +kernel
theorem dL_law_411 : decode cL_law 411 = .ok (.aload_n 1, 1) := by decide +kernel
theorem dL_law_412 : decode cL_law 412 = .ok (.aload_n 0, 1) := by decide +kernel
theorem dL_law_413 : decode cL_law 413 = .ok (.iload_n 3, 1) := by decide +kernel
theorem dL_law_414 : decode cL_law 414 = .ok (.iconst 1, 1) := by decide +kernel
theorem dL_law_415 : decode cL_law 415 = .ok (.iadd, 1) := by decide +kernel
theorem dL_law_416 : decode cL_law 416 = .ok (.iaload, 1) := by decide +kernel
theorem dL_law_417 : decode cL_law 417 = .ok (.invokevirtual 56, 3) := by decide +kernel
theorem dL_law_420 : decode cL_law 420 = .ok (.aload_n 2, 1) := by decide +kernel
theorem dL_law_421 : decode cL_law 421 = .ok (.aload_n 0, 1) := by decide +kernel
theorem dL_law_422 : decode cL_law 422 = .ok (.iload_n 3, 1) := by decide +kernel
theorem dL_law_423 : decode cL_law 423 = .ok (.iconst 1, 1) := by decide +kernel
theorem dL_law_424 : decode cL_law 424 = .ok (.iadd, 1) := by decide +kernel
theorem dL_law_425 : decode cL_law 425 = .ok (.iaload, 1) := by decide +kernel
theorem dL_law_426 : decode cL_law 426 = .ok (.invokevirtual 59, 3) := by decide +kernel
theorem dL_law_429 : decode cL_law 429 = .ok (.if_icmp .eq 141, 3) := by decide +kernel
theorem dL_law_434 : decode cL_law 434 = .ok (.aload_n 1, 1) := by decide +kernel
theorem dL_law_435 : decode cL_law 435 = .ok (.aload_n 0, 1) := by decide +kernel
theorem dL_law_436 : decode cL_law 436 = .ok (.iload_n 3, 1) := by decide +kernel
theorem dL_law_437 : decode cL_law 437 = .ok (.iconst 1, 1) := by decide +kernel
theorem dL_law_438 : decode cL_law 438 = .ok (.iadd, 1) := by decide +kernel
theorem dL_law_439 : decode cL_law 439 = .ok (.iaload, 1) := by decide +kernel
theorem dL_law_440 : decode cL_law 440 = .ok (.aload_n 0, 1) := by decide +kernel
theorem dL_law_441 : decode cL_law 441 = .ok (.iload_n 3, 1) := by decide +kernel
theorem dL_law_442 : decode cL_law 442 = .ok (.iconst 2, 1) := by decide +kernel
theorem dL_law_443 : decode cL_law 443 = .ok (.iadd, 1) := by decide +kernel
theorem dL_law_444 : decode cL_law 444 = .ok (.iaload, 1) := by decide +kernel
theorem dL_law_445 : decode cL_law 445 = .ok (.invokevirtual 60, 3) := by decide +kernel
theorem dL_law_448 : decode cL_law 448 = .ok (.aload_n 2, 1) := by decide +kernel
theorem dL_law_449 : decode cL_law 449 = .ok (.aload_n 0, 1) := by decide +kernel
theorem dL_law_450 : decode cL_law 450 = .ok (.iload_n 3, 1) := by decide +kernel
theorem dL_law_451 : decode cL_law 451 = .ok (.iconst 1, 1) := by decide +kernel
theorem dL_law_452 : decode cL_law 452 = .ok (.iadd, 1) := by decide +kernel
theorem dL_law_453 : decode cL_law 453 = .ok (.iaload, 1) := by decide +kernel
theorem dL_law_454 : decode cL_law 454 = .ok (.aload_n 0, 1) := by decide +kernel
theorem dL_law_455 : decode cL_law 455 = .ok (.iload_n 3, 1) := by decide +kernel
theorem dL_law_456 : decode cL_law 456 = .ok (.iconst 2, 1) := by decide +kernel
theorem dL_law_457 : decode cL_law 457 = .ok (.iadd, 1) := by decide +kernel
theorem dL_law_458 : decode cL_law 458 = .ok (.iaload, 1) := by decide +kernel
theorem dL_law_459 : decode cL_law 459 = .ok (.invokevirtual 63, 3) := by decide +kernel
theorem dL_law_462 : decode cL_law 462 = .ok (.if_icmp .eq 108, 3) := by decide +kernel
theorem dL_law_467 : decode cL_law 467 = .ok (.aload_n 1, 1) := by decide +kernel
theorem dL_law_468 : decode cL_law 468 = .ok (.aload_n 0, 1) := by decide +kernel
theorem dL_law_469 : decode cL_law 469 = .ok (.iload_n 3, 1) := by decide +kernel
theorem dL_law_470 : decode cL_law 470 = .ok (.iconst 1, 1) := by decide +kernel
theorem dL_law_471 : decode cL_law 471 = .ok (.iadd, 1) := by decide +kernel
theorem dL_law_472 : decode cL_law 472 = .ok (.iaload, 1) := by decide +kernel
theorem dL_law_473 : decode cL_law 473 = .ok (.aload_n 0, 1) := by decide +kernel
theorem dL_law_474 : decode cL_law 474 = .ok (.iload_n 3, 1) := by decide +kernel
theorem dL_law_475 : decode cL_law 475 = .ok (.iconst 2, 1) := by decide +kernel
theorem dL_law_476 : decode cL_law 476 = .ok (.iadd, 1) := by decide +kernel
theorem dL_law_477 : decode cL_law 477 = .ok (.iaload, 1) := by decide +kernel
theorem dL_law_478 : decode cL_law 478 = .ok (.invokevirtual 64, 3) := by decide +kernel
theorem dL_law_481 : decode cL_law 481 = .ok (.aload_n 2, 1) := by decide +kernel
theorem dL_law_482 : decode cL_law 482 = .ok (.aload_n 0, 1) := by decide +kernel
theorem dL_law_483 : decode cL_law 483 = .ok (.iload_n 3, 1) := by decide +kernel
theorem dL_law_484 : decode cL_law 484 = .ok (.iconst 1, 1) := by decide +kernel
theorem dL_law_485 : decode cL_law 485 = .ok (.iadd, 1) := by decide +kernel
theorem dL_law_486 : decode cL_law 486 = .ok (.iaload, 1) := by decide +kernel
theorem dL_law_487 : decode cL_law 487 = .ok (.aload_n 0, 1) := by decide +kernel
theorem dL_law_488 : decode cL_law 488 = .ok (.iload_n 3, 1) := by decide +kernel
theorem dL_law_489 : decode cL_law 489 = .ok (.iconst 2, 1) := by decide +kernel
theorem dL_law_490 : decode cL_law 490 = .ok (.iadd, 1) := by decide +kernel
theorem dL_law_491 : decode cL_law 491 = .ok (.iaload, 1) := by decide +kernel
theorem dL_law_492 : decode cL_law 492 = .ok (.invokevirtual 67, 3) := by decide +kernel
theorem dL_law_495 : decode cL_law 495 = .ok (.if_icmp .eq 75, 3) := by decide +kernel
theorem dL_law_500 : decode cL_law 500 = .ok (.aload_n 1, 1) := by decide +kernel
theorem dL_law_501 : decode cL_law 501 = .ok (.aload_n 0, 1) := by decide +kernel
theorem dL_law_502 : decode cL_law 502 = .ok (.iload_n 3, 1) := by decide +kernel
theorem dL_law_503 : decode cL_law 503 = .ok (.iconst 1, 1) := by decide +kernel
theorem dL_law_504 : decode cL_law 504 = .ok (.iadd, 1) := by decide +kernel
theorem dL_law_505 : decode cL_law 505 = .ok (.iaload, 1) := by decide +kernel
theorem dL_law_506 : decode cL_law 506 = .ok (.aload_n 0, 1) := by decide +kernel
theorem dL_law_507 : decode cL_law 507 = .ok (.iload_n 3, 1) := by decide +kernel
theorem dL_law_508 : decode cL_law 508 = .ok (.iconst 2, 1) := by decide +kernel
theorem dL_law_509 : decode cL_law 509 = .ok (.iadd, 1) := by decide +kernel
theorem dL_law_510 : decode cL_law 510 = .ok (.iaload, 1) := by decide +kernel
theorem dL_law_511 : decode cL_law 511 = .ok (.invokevirtual 68, 3) := by decide +kernel
theorem dL_law_514 : decode cL_law 514 = .ok (.aload_n 2, 1) := by decide +kernel
theorem dL_law_515 : decode cL_law 515 = .ok (.aload_n 0, 1) := by decide +kernel
theorem dL_law_516 : decode cL_law 516 = .ok (.iload_n 3, 1) := by decide +kernel
theorem dL_law_517 : decode cL_law 517 = .ok (.iconst 1, 1) := by decide +kernel
theorem dL_law_518 : decode cL_law 518 = .ok (.iadd, 1) := by decide +kernel
theorem dL_law_519 : decode cL_law 519 = .ok (.iaload, 1) := by decide +kernel
theorem dL_law_520 : decode cL_law 520 = .ok (.aload_n 0, 1) := by decide +kernel
theorem dL_law_521 : decode cL_law 521 = .ok (.iload_n 3, 1) := by decide +kernel
theorem dL_law_522 : decode cL_law 522 = .ok (.iconst 2, 1) := by decide +kernel
theorem dL_law_523 : decode cL_law 523 = .ok (.iadd, 1) := by decide +kernel
theorem dL_law_524 : decode cL_law 524 = .ok (.iaload, 1) := by decide +kernel
theorem dL_law_525 : decode cL_law 525 = .ok (.invokevirtual 71, 3) := by decide +kernel
theorem dL_law_528 : decode cL_law 528 = .ok (.if_icmp .eq 42, 3) := by decide +kernel
theorem dL_law_533 : decode cL_law 533 = .ok (.aload_n 1, 1) := by decide +kernel
theorem dL_law_534 : decode cL_law 534 = .ok (.aload_n 0, 1) := by decide +kernel
theorem dL_law_535 : decode cL_law 535 = .ok (.iload_n 3, 1) := by decide +kernel
theorem dL_law_536 : decode cL_law 536 = .ok (.iconst 1, 1) := by decide +kernel
theorem dL_law_537 : decode cL_law 537 = .ok (.iadd, 1) := by decide +kernel
theorem dL_law_538 : decode cL_law 538 = .ok (.iaload, 1) := by decide +kernel
theorem dL_law_539 : decode cL_law 539 = .ok (.invokevirtual 72, 3) := by decide +kernel
theorem dL_law_542 : decode cL_law 542 = .ok (.aload_n 2, 1) := by decide +kernel
theorem dL_law_543 : decode cL_law 543 = .ok (.aload_n 0, 1) := by decide +kernel
theorem dL_law_544 : decode cL_law 544 = .ok (.iload_n 3, 1) := by decide +kernel
theorem dL_law_545 : decode cL_law 545 = .ok (.iconst 1, 1) := by decide +kernel
theorem dL_law_546 : decode cL_law 546 = .ok (.iadd, 1) := by decide +kernel
theorem dL_law_547 : decode cL_law 547 = .ok (.iaload, 1) := by decide +kernel
theorem dL_law_548 : decode cL_law 548 = .ok (.invokevirtual 75, 3) := by decide +kernel
theorem dL_law_551 : decode cL_law 551 = .ok (.if_icmp .eq 19, 3) := by decide +kernel
theorem dL_law_556 : decode cL_law 556 = .ok (.aload_n 1, 1) := by decide +kernel
theorem dL_law_557 : decode cL_law 557 = .ok (.invokevirtual 76, 3) := by decide +kernel
theorem dL_law_560 : decode cL_law 560 = .ok (.aload_n 2, 1) := by decide +kernel
theorem dL_law_561 : decode cL_law 561 = .ok (.invokevirtual 80, 3) := by decide +kernel
theorem dL_law_564 : decode cL_law 564 = .ok (.lcmp, 1) := by decide +kernel
theorem dL_law_565 : decode cL_law 565 = .ok (.ifCond .eq 5, 3) := by decide +kernel
theorem dL_law_570 : decode cL_law 570 = .ok (.iinc 3 6, 3) := by decide +kernel
theorem dL_law_573 : decode cL_law 573 = .ok (.goto (-555), 3) := by decide +kernel
theorem dL_law_576 : decode cL_law 576 = .ok (.iconst 1, 1) := by decide +kernel
theorem dL_law_577 : decode cL_law 577 = .ok (.ireturn, 1) := by decide +kernel
abbrev vwCl : List vw_C := [(RX1, TX1, 9), (RX3, TX3, 14), (RX4, TX4, 7), (RX5, TX5, 7), (RX6, TX6, 3), (RX8, TX8, 2), (RX9, TX9, 7), (RX10, TX10, 6), (RX11, TX11, 9), (RX12, TX12, 46)]