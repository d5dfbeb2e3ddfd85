/-! ===== BEGIN words of one list among another's, by their places ===== -/
theorem goodIn_r {big : List Cond} (ws : List Cond) (ps : List Nat) (hp : ws = ps.filterMap (fun i => big[i]?)) (h : ws.all goodWord = true) : GoodIn big ws := by
  intro w hw
  have h1 := List.all_eq_true.mp h w hw
  rw [hp] at hw
  obtain ⟨i, -, hi⟩ := List.mem_filterMap.mp hw
  have hm : w ∈ big := by first | exact List.mem_of_getElem? hi | exact List.getElem?_mem hi
  exact ⟨hm, good_of_word h1⟩
theorem goodIn_app {big a b : List Cond} (ha : GoodIn big a) (hb : GoodIn big b) : GoodIn big (a ++ b) := fun w h => (List.mem_append.mp h).elim (ha w) (hb w)
theorem goodIn_ca {big a b : List Cond} {c : Cond} (ha : GoodIn big (c :: a)) (hb : GoodIn big b) : GoodIn big (c :: (a ++ b)) := fun w h => (List.mem_cons.mp h).elim (fun e => ha w (List.mem_cons.mpr (Or.inl e))) (fun h => (List.mem_append.mp h).elim (fun h => ha w (List.mem_cons.mpr (Or.inr h))) (hb w))
theorem goodIn_sub {big ws : List Cond} (hm : ∀ w ∈ ws, w ∈ big) (h : ws.all goodWord = true) : GoodIn big ws := fun w hw => ⟨hm w hw, good_of_word (List.all_eq_true.mp h w hw)⟩
/-! ===== END ===== -/

/-! ===== BEGIN printed: names, fields, word lists, decode rows ===== -/
def RX0 : String := "LayoutDesk$Due"
def TX0 : u_T := fun k => match k with
  | _ => ("", "", "", false)
def tyX0 : Nat → FieldType := fun k => match k with
  | _ => .int
abbrev wsX00 : List Cond := u_ws RX0 TX0 0
theorem nmX0 : ∀ a, a < 0 → ∀ b, b < 0 → a ≠ b → (TX0 a).2.1 ≠ (TX0 b).2.1 := by decide +kernel
theorem tyX0_ok : ∀ k, k < 0 → parseFieldDescriptor (TX0 k).2.2.1 = some (tyX0 k) := by decide +kernel
abbrev cX0_inOperand : ByteArray := prog_2_method_2_code
def yX0_inOperand : MethodName := ⟨RX0, "inOperand", "(I)[I"⟩
def RX1 : String := "LayoutDesk$Feed"
def TX1 : u_T := fun k => match k with
  | 0 => ("LayoutDesk$Feed", "lexemes", "LLayoutDesk$Lexemes;", true)
  | 1 => ("LayoutDesk$Feed", "tokens", "[I", true)
  | 2 => ("LayoutDesk$Feed", "contexts", "[I", true)
  | 3 => ("LayoutDesk$Feed", "size", "I", false)
  | 4 => ("LayoutDesk$Feed", "depth", "I", false)
  | 5 => ("LayoutDesk$Feed", "top", "I", false)
  | 6 => ("LayoutDesk$Feed", "position", "I", false)
  | 7 => ("LayoutDesk$Feed", "phase", "I", false)
  | _ => ("LayoutDesk$Feed", "column", "I", false)
def tyX1 : Nat → FieldType := fun k => match k with
  | 0 => .object "LayoutDesk$Lexemes"
  | 1 => .array .int
  | 2 => .array .int
  | 3 => .int
  | 4 => .int
  | 5 => .int
  | 6 => .int
  | 7 => .int
  | _ => .int
abbrev wsX10 : List Cond := u_ws RX1 TX1 9
theorem nmX1 : ∀ a, a < 9 → ∀ b, b < 9 → a ≠ b → (TX1 a).2.1 ≠ (TX1 b).2.1 := by decide +kernel
theorem tyX1_ok : ∀ k, k < 9 → parseFieldDescriptor (TX1 k).2.2.1 = some (tyX1 k) := by decide +kernel
abbrev cX1_init : ByteArray := prog_3_method_1_code
def yX1_init : MethodName := ⟨RX1, "<init>", "(LLayoutDesk$Lexemes;)V"⟩
abbrev cX1_size : ByteArray := prog_3_method_2_code
def yX1_size : MethodName := ⟨RX1, "size", "()I"⟩
abbrev cX1_position : ByteArray := prog_3_method_3_code
def yX1_position : MethodName := ⟨RX1, "position", "()I"⟩
abbrev cX1_tokenAt : ByteArray := prog_3_method_4_code
def yX1_tokenAt : MethodName := ⟨RX1, "tokenAt", "(I)I"⟩
abbrev cX1_empty : ByteArray := prog_3_method_5_code
def yX1_empty : MethodName := ⟨RX1, "empty", "()V"⟩
abbrev cX1_cut : ByteArray := prog_3_method_6_code
def yX1_cut : MethodName := ⟨RX1, "cut", "(I)V"⟩
abbrev cX1_start : ByteArray := prog_3_method_7_code
def yX1_start : MethodName := ⟨RX1, "start", "()V"⟩
abbrev cX1_sort : ByteArray := prog_3_method_8_code
def yX1_sort : MethodName := ⟨RX1, "sort", "()I"⟩
abbrev cX1_take : ByteArray := prog_3_method_9_code
def yX1_take : MethodName := ⟨RX1, "take", "()V"⟩
abbrev cX1_closeByError : ByteArray := prog_3_method_10_code
def yX1_closeByError : MethodName := ⟨RX1, "closeByError", "()Z"⟩
abbrev cX1_isPartAhead : ByteArray := prog_3_method_11_code
def yX1_isPartAhead : MethodName := ⟨RX1, "isPartAhead", "(I)Z"⟩
abbrev cX1_plainSort : ByteArray := prog_3_method_12_code
def yX1_plainSort : MethodName := ⟨RX1, "plainSort", "()I"⟩
abbrev cX1_meetLexeme : ByteArray := prog_3_method_13_code
def yX1_meetLexeme : MethodName := ⟨RX1, "meetLexeme", "()V"⟩
abbrev cX1_passIndent : ByteArray := prog_3_method_14_code
def yX1_passIndent : MethodName := ⟨RX1, "passIndent", "()V"⟩
abbrev cX1_takeOpening : ByteArray := prog_3_method_15_code
def yX1_takeOpening : MethodName := ⟨RX1, "takeOpening", "()V"⟩
abbrev cX1_takeIndent : ByteArray := prog_3_method_16_code
def yX1_takeIndent : MethodName := ⟨RX1, "takeIndent", "()V"⟩
abbrev cX1_takeLexeme : ByteArray := prog_3_method_17_code
def yX1_takeLexeme : MethodName := ⟨RX1, "takeLexeme", "()V"⟩
abbrev cX1_keep : ByteArray := prog_3_method_18_code
def yX1_keep : MethodName := ⟨RX1, "keep", "(I)V"⟩
abbrev cX1_enterContext : ByteArray := prog_3_method_19_code
def yX1_enterContext : MethodName := ⟨RX1, "enterContext", "(I)V"⟩
abbrev cX1_leaveContext : ByteArray := prog_3_method_20_code
def yX1_leaveContext : MethodName := ⟨RX1, "leaveContext", "()V"⟩
def RX2 : String := "LayoutDesk$Kind"
def TX2 : u_T := fun k => match k with
  | _ => ("", "", "", false)
def tyX2 : Nat → FieldType := fun k => match k with
  | _ => .int
abbrev wsX20 : List Cond := u_ws RX2 TX2 0
theorem nmX2 : ∀ a, a < 0 → ∀ b, b < 0 → a ≠ b → (TX2 a).2.1 ≠ (TX2 b).2.1 := by decide +kernel
theorem tyX2_ok : ∀ k, k < 0 → parseFieldDescriptor (TX2 k).2.2.1 = some (tyX2 k) := by decide +kernel
abbrev cX2_ofLeaf : ByteArray := prog_4_method_2_code
def yX2_ofLeaf : MethodName := ⟨RX2, "ofLeaf", "(I)I"⟩
abbrev cX2_ofOperand : ByteArray := prog_4_method_3_code
def yX2_ofOperand : MethodName := ⟨RX2, "ofOperand", "(I)I"⟩
abbrev cX2_isNamed : ByteArray := prog_4_method_4_code
def yX2_isNamed : MethodName := ⟨RX2, "isNamed", "(I)Z"⟩
def RX3 : String := "LayoutDesk$Lexemes"
def TX3 : u_T := fun k => match k with
  | 0 => ("LayoutDesk$Lexemes", "text", "LLayoutDesk$Text;", true)
  | 1 => ("LayoutDesk$Lexemes", "places", "[I", true)
  | 2 => ("LayoutDesk$Lexemes", "columns", "[I", true)
  | 3 => ("LayoutDesk$Lexemes", "sorts", "[I", true)
  | 4 => ("LayoutDesk$Lexemes", "lengths", "[I", true)
  | 5 => ("LayoutDesk$Lexemes", "openings", "[I", true)
  | 6 => ("LayoutDesk$Lexemes", "indents", "[I", true)
  | 7 => ("LayoutDesk$Lexemes", "size", "I", false)
  | 8 => ("LayoutDesk$Lexemes", "faultNumber", "I", false)
  | 9 => ("LayoutDesk$Lexemes", "faultPlace", "I", false)
  | 10 => ("LayoutDesk$Lexemes", "endOpening", "I", false)
  | 11 => ("LayoutDesk$Lexemes", "place", "I", false)
  | 12 => ("LayoutDesk$Lexemes", "lineStart", "I", false)
  | _ => ("LayoutDesk$Lexemes", "lineHasLexeme", "Z", false)
def tyX3 : Nat → FieldType := fun k => match k with
  | 0 => .object "LayoutDesk$Text"
  | 1 => .array .int
  | 2 => .array .int
  | 3 => .array .int
  | 4 => .array .int
  | 5 => .array .int
  | 6 => .array .int
  | 7 => .int
  | 8 => .int
  | 9 => .int
  | 10 => .int
  | 11 => .int
  | 12 => .int
  | _ => .boolean
abbrev wsX30 : List Cond := u_ws RX3 TX3 14
theorem nmX3 : ∀ a, a < 14 → ∀ b, b < 14 → a ≠ b → (TX3 a).2.1 ≠ (TX3 b).2.1 := by decide +kernel
theorem tyX3_ok : ∀ k, k < 14 → parseFieldDescriptor (TX3 k).2.2.1 = some (tyX3 k) := by decide +kernel
abbrev cX3_init : ByteArray := prog_5_method_1_code
def yX3_init : MethodName := ⟨RX3, "<init>", "(LLayoutDesk$Text;)V"⟩
abbrev cX3_size : ByteArray := prog_5_method_2_code
def yX3_size : MethodName := ⟨RX3, "size", "()I"⟩
abbrev cX3_faultNumber : ByteArray := prog_5_method_3_code
def yX3_faultNumber : MethodName := ⟨RX3, "faultNumber", "()I"⟩
abbrev cX3_faultPlace : ByteArray := prog_5_method_4_code
def yX3_faultPlace : MethodName := ⟨RX3, "faultPlace", "()I"⟩
abbrev cX3_placeOf : ByteArray := prog_5_method_5_code
def yX3_placeOf : MethodName := ⟨RX3, "placeOf", "(I)I"⟩
abbrev cX3_columnOf : ByteArray := prog_5_method_6_code
def yX3_columnOf : MethodName := ⟨RX3, "columnOf", "(I)I"⟩
abbrev cX3_sortOf : ByteArray := prog_5_method_7_code
def yX3_sortOf : MethodName := ⟨RX3, "sortOf", "(I)I"⟩
abbrev cX3_kindOf : ByteArray := prog_5_method_8_code
def yX3_kindOf : MethodName := ⟨RX3, "kindOf", "(I)I"⟩
abbrev cX3_lengthOf : ByteArray := prog_5_method_9_code
def yX3_lengthOf : MethodName := ⟨RX3, "lengthOf", "(I)I"⟩
abbrev cX3_openingOf : ByteArray := prog_5_method_10_code
def yX3_openingOf : MethodName := ⟨RX3, "openingOf", "(I)I"⟩
abbrev cX3_indentOf : ByteArray := prog_5_method_11_code
def yX3_indentOf : MethodName := ⟨RX3, "indentOf", "(I)I"⟩
abbrev cX3_scan : ByteArray := prog_5_method_12_code
def yX3_scan : MethodName := ⟨RX3, "scan", "()V"⟩
abbrev cX3_isBlockDue : ByteArray := prog_5_method_13_code
def yX3_isBlockDue : MethodName := ⟨RX3, "isBlockDue", "()Z"⟩
abbrev cX3_goOn : ByteArray := prog_5_method_14_code
def yX3_goOn : MethodName := ⟨RX3, "goOn", "(I)V"⟩
abbrev cX3_endLine : ByteArray := prog_5_method_15_code
def yX3_endLine : MethodName := ⟨RX3, "endLine", "(I)V"⟩
abbrev cX3_isLineComment : ByteArray := prog_5_method_16_code
def yX3_isLineComment : MethodName := ⟨RX3, "isLineComment", "()Z"⟩
abbrev cX3_passLineComment : ByteArray := prog_5_method_17_code
def yX3_passLineComment : MethodName := ⟨RX3, "passLineComment", "()V"⟩
abbrev cX3_passNestedComment : ByteArray := prog_5_method_18_code
def yX3_passNestedComment : MethodName := ⟨RX3, "passNestedComment", "()V"⟩
abbrev cX3_takeLexeme : ByteArray := prog_5_method_19_code
def yX3_takeLexeme : MethodName := ⟨RX3, "takeLexeme", "(I)V"⟩
abbrev cX3_add : ByteArray := prog_5_method_20_code
def yX3_add : MethodName := ⟨RX3, "add", "(III)V"⟩
abbrev cX3_refuse : ByteArray := prog_5_method_21_code
def yX3_refuse : MethodName := ⟨RX3, "refuse", "(I)V"⟩
abbrev cX3_nameLength : ByteArray := prog_5_method_22_code
def yX3_nameLength : MethodName := ⟨RX3, "nameLength", "()I"⟩
abbrev cX3_numberLength : ByteArray := prog_5_method_23_code
def yX3_numberLength : MethodName := ⟨RX3, "numberLength", "()I"⟩
abbrev cX3_operatorLength : ByteArray := prog_5_method_24_code
def yX3_operatorLength : MethodName := ⟨RX3, "operatorLength", "()I"⟩
abbrev cX3_wordSort : ByteArray := prog_5_method_25_code
def yX3_wordSort : MethodName := ⟨RX3, "wordSort", "(I)I"⟩
abbrev cX3_operatorSort : ByteArray := prog_5_method_26_code
def yX3_operatorSort : MethodName := ⟨RX3, "operatorSort", "(I)I"⟩
abbrev cX3_spells : ByteArray := prog_5_method_27_code
def yX3_spells : MethodName := ⟨RX3, "spells", "(Ljava/lang/String;I)Z"⟩
abbrev cX3_signSort : ByteArray := prog_5_method_28_code
def yX3_signSort : MethodName := ⟨RX3, "signSort", "(I)I"⟩
abbrev cX3_isSmall : ByteArray := prog_5_method_29_code
def yX3_isSmall : MethodName := ⟨RX3, "isSmall", "(I)Z"⟩
abbrev cX3_isCapital : ByteArray := prog_5_method_30_code
def yX3_isCapital : MethodName := ⟨RX3, "isCapital", "(I)Z"⟩
abbrev cX3_isFigure : ByteArray := prog_5_method_31_code
def yX3_isFigure : MethodName := ⟨RX3, "isFigure", "(I)Z"⟩
abbrev cX3_isNameByte : ByteArray := prog_5_method_32_code
def yX3_isNameByte : MethodName := ⟨RX3, "isNameByte", "(I)Z"⟩
abbrev cX3_isOperatorByte : ByteArray := prog_5_method_33_code
def yX3_isOperatorByte : MethodName := ⟨RX3, "isOperatorByte", "(I)Z"⟩
def RX4 : String := "LayoutDesk$Openings"
def TX4 : u_T := fun k => match k with
  | 0 => ("LayoutDesk$Openings", "depths", "[I", true)
  | 1 => ("LayoutDesk$Openings", "tokens", "[I", true)
  | 2 => ("LayoutDesk$Openings", "positions", "[I", true)
  | 3 => ("LayoutDesk$Openings", "lets", "[I", true)
  | 4 => ("LayoutDesk$Openings", "size", "I", false)
  | 5 => ("LayoutDesk$Openings", "letsPending", "I", false)
  | _ => ("LayoutDesk$Openings", "depth", "I", false)
def tyX4 : Nat → FieldType := fun k => match k with
  | 0 => .array .int
  | 1 => .array .int
  | 2 => .array .int
  | 3 => .array .int
  | 4 => .int
  | 5 => .int
  | _ => .int
abbrev wsX40 : List Cond := u_ws RX4 TX4 7
theorem nmX4 : ∀ a, a < 7 → ∀ b, b < 7 → a ≠ b → (TX4 a).2.1 ≠ (TX4 b).2.1 := by decide +kernel
theorem tyX4_ok : ∀ k, k < 7 → parseFieldDescriptor (TX4 k).2.2.1 = some (tyX4 k) := by decide +kernel
abbrev cX4_init : ByteArray := prog_6_method_1_code
def yX4_init : MethodName := ⟨RX4, "<init>", "()V"⟩
abbrev cX4_empty : ByteArray := prog_6_method_2_code
def yX4_empty : MethodName := ⟨RX4, "empty", "()V"⟩
abbrev cX4_enter : ByteArray := prog_6_method_3_code
def yX4_enter : MethodName := ⟨RX4, "enter", "(II)V"⟩
abbrev cX4_leave : ByteArray := prog_6_method_4_code
def yX4_leave : MethodName := ⟨RX4, "leave", "()V"⟩
abbrev cX4_enterLetStep : ByteArray := prog_6_method_5_code
def yX4_enterLetStep : MethodName := ⟨RX4, "enterLetStep", "(II)V"⟩
abbrev cX4_settleLetStep : ByteArray := prog_6_method_6_code
def yX4_settleLetStep : MethodName := ⟨RX4, "settleLetStep", "(Z)V"⟩
abbrev cX4_firstTooFarIn : ByteArray := prog_6_method_7_code
def yX4_firstTooFarIn : MethodName := ⟨RX4, "firstTooFarIn", "()I"⟩
abbrev cX4_tokenOf : ByteArray := prog_6_method_8_code
def yX4_tokenOf : MethodName := ⟨RX4, "tokenOf", "(I)I"⟩
abbrev cX4_positionOf : ByteArray := prog_6_method_9_code
def yX4_positionOf : MethodName := ⟨RX4, "positionOf", "(I)I"⟩
abbrev cX4_add : ByteArray := prog_6_method_10_code
def yX4_add : MethodName := ⟨RX4, "add", "(II)V"⟩
def RX5 : String := "LayoutDesk$Parser"
def TX5 : u_T := fun k => match k with
  | 0 => ("LayoutDesk$Parser", "lexemes", "LLayoutDesk$Lexemes;", true)
  | 1 => ("LayoutDesk$Parser", "feed", "LLayoutDesk$Feed;", true)
  | 2 => ("LayoutDesk$Parser", "openings", "LLayoutDesk$Openings;", true)
  | 3 => ("LayoutDesk$Parser", "pile", "LLayoutDesk$Pile;", true)
  | 4 => ("LayoutDesk$Parser", "tree", "LLayoutDesk$Tree;", false)
  | 5 => ("LayoutDesk$Parser", "faultNumber", "I", false)
  | _ => ("LayoutDesk$Parser", "faultPlace", "I", false)
def tyX5 : Nat → FieldType := fun k => match k with
  | 0 => .object "LayoutDesk$Lexemes"
  | 1 => .object "LayoutDesk$Feed"
  | 2 => .object "LayoutDesk$Openings"
  | 3 => .object "LayoutDesk$Pile"
  | 4 => .object "LayoutDesk$Tree"
  | 5 => .int
  | _ => .int
abbrev wsX50 : List Cond := u_ws RX5 TX5 7
theorem nmX5 : ∀ a, a < 7 → ∀ b, b < 7 → a ≠ b → (TX5 a).2.1 ≠ (TX5 b).2.1 := by decide +kernel
theorem tyX5_ok : ∀ k, k < 7 → parseFieldDescriptor (TX5 k).2.2.1 = some (tyX5 k) := by decide +kernel
abbrev cX5_init : ByteArray := prog_7_method_1_code
def yX5_init : MethodName := ⟨RX5, "<init>", "(LLayoutDesk$Lexemes;LLayoutDesk$Feed;LLayoutDesk$Tree;)V"⟩
abbrev cX5_faultNumber : ByteArray := prog_7_method_2_code
def yX5_faultNumber : MethodName := ⟨RX5, "faultNumber", "()I"⟩
abbrev cX5_faultPlace : ByteArray := prog_7_method_3_code
def yX5_faultPlace : MethodName := ⟨RX5, "faultPlace", "()I"⟩
abbrev cX5_parse : ByteArray := prog_7_method_4_code
def yX5_parse : MethodName := ⟨RX5, "parse", "(LLayoutDesk$Tree;)V"⟩
abbrev cX5_refuse : ByteArray := prog_7_method_5_code
def yX5_refuse : MethodName := ⟨RX5, "refuse", "()V"⟩
abbrev cX5_refuseTooFarIn : ByteArray := prog_7_method_6_code
def yX5_refuseTooFarIn : MethodName := ⟨RX5, "refuseTooFarIn", "()V"⟩
abbrev cX5_meetPartOfBlock : ByteArray := prog_7_method_7_code
def yX5_meetPartOfBlock : MethodName := ⟨RX5, "meetPartOfBlock", "(II)V"⟩
abbrev cX5_meetPartOfThing : ByteArray := prog_7_method_8_code
def yX5_meetPartOfThing : MethodName := ⟨RX5, "meetPartOfThing", "(II)V"⟩
abbrev cX5_meetToken : ByteArray := prog_7_method_9_code
def yX5_meetToken : MethodName := ⟨RX5, "meetToken", "(I)V"⟩
abbrev cX5_takeLeaf : ByteArray := prog_7_method_10_code
def yX5_takeLeaf : MethodName := ⟨RX5, "takeLeaf", "(I)V"⟩
abbrev cX5_enter : ByteArray := prog_7_method_11_code
def yX5_enter : MethodName := ⟨RX5, "enter", "()V"⟩
abbrev cX5_openBlock : ByteArray := prog_7_method_12_code
def yX5_openBlock : MethodName := ⟨RX5, "openBlock", "(II)V"⟩
abbrev cX5_beginsThing : ByteArray := prog_7_method_13_code
def yX5_beginsThing : MethodName := ⟨RX5, "beginsThing", "(II)Z"⟩
abbrev cX5_meetThings : ByteArray := prog_7_method_14_code
def yX5_meetThings : MethodName := ⟨RX5, "meetThings", "(II)V"⟩
abbrev cX5_meetBehindThing : ByteArray := prog_7_method_15_code
def yX5_meetBehindThing : MethodName := ⟨RX5, "meetBehindThing", "(II)V"⟩
abbrev cX5_closeBlock : ByteArray := prog_7_method_16_code
def yX5_closeBlock : MethodName := ⟨RX5, "closeBlock", "(I)V"⟩
abbrev cX5_meetDeclaration : ByteArray := prog_7_method_17_code
def yX5_meetDeclaration : MethodName := ⟨RX5, "meetDeclaration", "()V"⟩
abbrev cX5_meetWhere : ByteArray := prog_7_method_18_code
def yX5_meetWhere : MethodName := ⟨RX5, "meetWhere", "()V"⟩
abbrev cX5_meetStep : ByteArray := prog_7_method_19_code
def yX5_meetStep : MethodName := ⟨RX5, "meetStep", "()V"⟩
abbrev cX5_meetTaking : ByteArray := prog_7_method_20_code
def yX5_meetTaking : MethodName := ⟨RX5, "meetTaking", "(I)V"⟩
abbrev cX5_meetLetting : ByteArray := prog_7_method_21_code
def yX5_meetLetting : MethodName := ⟨RX5, "meetLetting", "(I)V"⟩
abbrev cX5_meetPattern : ByteArray := prog_7_method_22_code
def yX5_meetPattern : MethodName := ⟨RX5, "meetPattern", "()V"⟩
abbrev cX5_meetPatterns : ByteArray := prog_7_method_23_code
def yX5_meetPatterns : MethodName := ⟨RX5, "meetPatterns", "()V"⟩
abbrev cX5_meetWholePattern : ByteArray := prog_7_method_24_code
def yX5_meetWholePattern : MethodName := ⟨RX5, "meetWholePattern", "()V"⟩
abbrev cX5_meetOperand : ByteArray := prog_7_method_25_code
def yX5_meetOperand : MethodName := ⟨RX5, "meetOperand", "()V"⟩
abbrev cX5_meetChain : ByteArray := prog_7_method_26_code
def yX5_meetChain : MethodName := ⟨RX5, "meetChain", "(I)V"⟩
abbrev cX5_meetLinks : ByteArray := prog_7_method_27_code
def yX5_meetLinks : MethodName := ⟨RX5, "meetLinks", "()V"⟩
abbrev cX5_meetApplied : ByteArray := prog_7_method_28_code
def yX5_meetApplied : MethodName := ⟨RX5, "meetApplied", "(I)V"⟩
abbrev cX5_meetAtoms : ByteArray := prog_7_method_29_code
def yX5_meetAtoms : MethodName := ⟨RX5, "meetAtoms", "()V"⟩
abbrev cX5_meetAtom : ByteArray := prog_7_method_30_code
def yX5_meetAtom : MethodName := ⟨RX5, "meetAtom", "()V"⟩
abbrev cX5_closerOf : ByteArray := prog_7_method_31_code
def yX5_closerOf : MethodName := ⟨RX5, "closerOf", "(I)I"⟩
abbrev cX5_meetRow : ByteArray := prog_7_method_32_code
def yX5_meetRow : MethodName := ⟨RX5, "meetRow", "(I)V"⟩
def RX6 : String := "LayoutDesk$Pile"
def TX6 : u_T := fun k => match k with
  | 0 => ("LayoutDesk$Pile", "dues", "[I", true)
  | 1 => ("LayoutDesk$Pile", "nodes", "[I", true)
  | _ => ("LayoutDesk$Pile", "size", "I", false)
def tyX6 : Nat → FieldType := fun k => match k with
  | 0 => .array .int
  | 1 => .array .int
  | _ => .int
abbrev wsX60 : List Cond := u_ws RX6 TX6 3
theorem nmX6 : ∀ a, a < 3 → ∀ b, b < 3 → a ≠ b → (TX6 a).2.1 ≠ (TX6 b).2.1 := by decide +kernel
theorem tyX6_ok : ∀ k, k < 3 → parseFieldDescriptor (TX6 k).2.2.1 = some (tyX6 k) := by decide +kernel
abbrev cX6_init : ByteArray := prog_8_method_1_code
def yX6_init : MethodName := ⟨RX6, "<init>", "()V"⟩
abbrev cX6_isEmpty : ByteArray := prog_8_method_2_code
def yX6_isEmpty : MethodName := ⟨RX6, "isEmpty", "()Z"⟩
abbrev cX6_empty : ByteArray := prog_8_method_3_code
def yX6_empty : MethodName := ⟨RX6, "empty", "()V"⟩
abbrev cX6_push : ByteArray := prog_8_method_4_code
def yX6_push : MethodName := ⟨RX6, "push", "(II)V"⟩
abbrev cX6_pushRow : ByteArray := prog_8_method_5_code
def yX6_pushRow : MethodName := ⟨RX6, "pushRow", "([III)V"⟩
abbrev cX6_topDue : ByteArray := prog_8_method_6_code
def yX6_topDue : MethodName := ⟨RX6, "topDue", "()I"⟩
abbrev cX6_topNode : ByteArray := prog_8_method_7_code
def yX6_topNode : MethodName := ⟨RX6, "topNode", "()I"⟩
abbrev cX6_pop : ByteArray := prog_8_method_8_code
def yX6_pop : MethodName := ⟨RX6, "pop", "()V"⟩
def RX7 : String := "LayoutDesk$Sort"
def TX7 : u_T := fun k => match k with
  | _ => ("", "", "", false)
def tyX7 : Nat → FieldType := fun k => match k with
  | _ => .int
abbrev wsX70 : List Cond := u_ws RX7 TX7 0
theorem nmX7 : ∀ a, a < 0 → ∀ b, b < 0 → a ≠ b → (TX7 a).2.1 ≠ (TX7 b).2.1 := by decide +kernel
theorem tyX7_ok : ∀ k, k < 0 → parseFieldDescriptor (TX7 k).2.2.1 = some (tyX7 k) := by decide +kernel
abbrev cX7_kindOf : ByteArray := prog_9_method_2_code
def yX7_kindOf : MethodName := ⟨RX7, "kindOf", "(I)I"⟩
abbrev cX7_opensBlock : ByteArray := prog_9_method_3_code
def yX7_opensBlock : MethodName := ⟨RX7, "opensBlock", "(I)Z"⟩
abbrev cX7_beginsPattern : ByteArray := prog_9_method_4_code
def yX7_beginsPattern : MethodName := ⟨RX7, "beginsPattern", "(I)Z"⟩
abbrev cX7_beginsAtom : ByteArray := prog_9_method_5_code
def yX7_beginsAtom : MethodName := ⟨RX7, "beginsAtom", "(I)Z"⟩
abbrev cX7_beginsExpression : ByteArray := prog_9_method_6_code
def yX7_beginsExpression : MethodName := ⟨RX7, "beginsExpression", "(I)Z"⟩
def RX8 : String := "LayoutDesk$Text"
def TX8 : u_T := fun k => match k with
  | 0 => ("LayoutDesk$Text", "bytes", "[C", true)
  | _ => ("LayoutDesk$Text", "length", "I", false)
def tyX8 : Nat → FieldType := fun k => match k with
  | 0 => .array .char
  | _ => .int
abbrev wsX80 : List Cond := u_ws RX8 TX8 2
theorem nmX8 : ∀ a, a < 2 → ∀ b, b < 2 → a ≠ b → (TX8 a).2.1 ≠ (TX8 b).2.1 := by decide +kernel
theorem tyX8_ok : ∀ k, k < 2 → parseFieldDescriptor (TX8 k).2.2.1 = some (tyX8 k) := by decide +kernel
abbrev cX8_init : ByteArray := prog_10_method_1_code
def yX8_init : MethodName := ⟨RX8, "<init>", "()V"⟩
abbrev cX8_length : ByteArray := prog_10_method_2_code
def yX8_length : MethodName := ⟨RX8, "length", "()I"⟩
abbrev cX8_hasRoom : ByteArray := prog_10_method_3_code
def yX8_hasRoom : MethodName := ⟨RX8, "hasRoom", "(I)Z"⟩
abbrev cX8_byteAt : ByteArray := prog_10_method_4_code
def yX8_byteAt : MethodName := ⟨RX8, "byteAt", "(I)I"⟩
abbrev cX8_append : ByteArray := prog_10_method_5_code
def yX8_append : MethodName := ⟨RX8, "append", "(I)V"⟩
abbrev cX8_set : ByteArray := prog_10_method_6_code
def yX8_set : MethodName := ⟨RX8, "set", "(II)V"⟩
abbrev cX8_empty : ByteArray := prog_10_method_7_code
def yX8_empty : MethodName := ⟨RX8, "empty", "()V"⟩
abbrev cX8_copyTo : ByteArray := prog_10_method_8_code
def yX8_copyTo : MethodName := ⟨RX8, "copyTo", "([C)V"⟩
abbrev cX8_become : ByteArray := prog_10_method_9_code
def yX8_become : MethodName := ⟨RX8, "become", "([CI)V"⟩
def RX9 : String := "LayoutDesk$Tree"
def TX9 : u_T := fun k => match k with
  | 0 => ("LayoutDesk$Tree", "kinds", "[I", true)
  | 1 => ("LayoutDesk$Tree", "sizes", "[I", true)
  | 2 => ("LayoutDesk$Tree", "parents", "[I", true)
  | 3 => ("LayoutDesk$Tree", "places", "[I", true)
  | 4 => ("LayoutDesk$Tree", "lengths", "[I", true)
  | 5 => ("LayoutDesk$Tree", "letters", "[C", true)
  | _ => ("LayoutDesk$Tree", "size", "I", false)
def tyX9 : Nat → FieldType := fun k => match k with
  | 0 => .array .int
  | 1 => .array .int
  | 2 => .array .int
  | 3 => .array .int
  | 4 => .array .int
  | 5 => .array .char
  | _ => .int
abbrev wsX90 : List Cond := u_ws RX9 TX9 7
theorem nmX9 : ∀ a, a < 7 → ∀ b, b < 7 → a ≠ b → (TX9 a).2.1 ≠ (TX9 b).2.1 := by decide +kernel
theorem tyX9_ok : ∀ k, k < 7 → parseFieldDescriptor (TX9 k).2.2.1 = some (tyX9 k) := by decide +kernel
abbrev cX9_init : ByteArray := prog_11_method_1_code
def yX9_init : MethodName := ⟨RX9, "<init>", "()V"⟩
abbrev cX9_size : ByteArray := prog_11_method_2_code
def yX9_size : MethodName := ⟨RX9, "size", "()I"⟩
abbrev cX9_has : ByteArray := prog_11_method_3_code
def yX9_has : MethodName := ⟨RX9, "has", "(I)Z"⟩
abbrev cX9_empty : ByteArray := prog_11_method_4_code
def yX9_empty : MethodName := ⟨RX9, "empty", "()V"⟩
abbrev cX9_add : ByteArray := prog_11_method_5_code
def yX9_add : MethodName := ⟨RX9, "add", "(I)I"⟩
abbrev cX9_addWritten : ByteArray := prog_11_method_6_code
def yX9_addWritten : MethodName := ⟨RX9, "addWritten", "(III)I"⟩
abbrev cX9_insert : ByteArray := prog_11_method_7_code
def yX9_insert : MethodName := ⟨RX9, "insert", "(II)V"⟩
abbrev cX9_close : ByteArray := prog_11_method_8_code
def yX9_close : MethodName := ⟨RX9, "close", "(I)V"⟩
abbrev cX9_setKind : ByteArray := prog_11_method_9_code
def yX9_setKind : MethodName := ⟨RX9, "setKind", "(II)V"⟩
abbrev cX9_isWholePattern : ByteArray := prog_11_method_10_code
def yX9_isWholePattern : MethodName := ⟨RX9, "isWholePattern", "(I)Z"⟩
abbrev cX9_keep : ByteArray := prog_11_method_11_code
def yX9_keep : MethodName := ⟨RX9, "keep", "(LLayoutDesk$Text;)V"⟩
abbrev cX9_kindOf : ByteArray := prog_11_method_12_code
def yX9_kindOf : MethodName := ⟨RX9, "kindOf", "(I)I"⟩
abbrev cX9_parentOf : ByteArray := prog_11_method_13_code
def yX9_parentOf : MethodName := ⟨RX9, "parentOf", "(I)I"⟩
abbrev cX9_sizeOf : ByteArray := prog_11_method_14_code
def yX9_sizeOf : MethodName := ⟨RX9, "sizeOf", "(I)I"⟩
abbrev cX9_endOf : ByteArray := prog_11_method_15_code
def yX9_endOf : MethodName := ⟨RX9, "endOf", "(I)I"⟩
abbrev cX9_nameLengthOf : ByteArray := prog_11_method_16_code
def yX9_nameLengthOf : MethodName := ⟨RX9, "nameLengthOf", "(I)I"⟩
abbrev cX9_nameByte : ByteArray := prog_11_method_17_code
def yX9_nameByte : MethodName := ⟨RX9, "nameByte", "(II)I"⟩
abbrev cX9_numberOf : ByteArray := prog_11_method_18_code
def yX9_numberOf : MethodName := ⟨RX9, "numberOf", "(I)I"⟩
abbrev cX9_part : ByteArray := prog_11_method_19_code
def yX9_part : MethodName := ⟨RX9, "part", "(II)I"⟩
abbrev cX9_writtenByte : ByteArray := prog_11_method_20_code
def yX9_writtenByte : MethodName := ⟨RX9, "writtenByte", "(II)I"⟩
def RX10 : String := "LayoutDesk$Writer"
def TX10 : u_T := fun k => match k with
  | 0 => ("LayoutDesk$Writer", "bytes", "[C", true)
  | 1 => ("LayoutDesk$Writer", "length", "I", false)
  | 2 => ("LayoutDesk$Writer", "tree", "LLayoutDesk$Tree;", false)
  | 3 => ("LayoutDesk$Writer", "byColumns", "Z", false)
  | 4 => ("LayoutDesk$Writer", "lineBegins", "Z", false)
  | _ => ("LayoutDesk$Writer", "blockEnded", "Z", false)
def tyX10 : Nat → FieldType := fun k => match k with
  | 0 => .array .char
  | 1 => .int
  | 2 => .object "LayoutDesk$Tree"
  | 3 => .boolean
  | 4 => .boolean
  | _ => .boolean
abbrev wsX100 : List Cond := u_ws RX10 TX10 6
theorem nmX10 : ∀ a, a < 6 → ∀ b, b < 6 → a ≠ b → (TX10 a).2.1 ≠ (TX10 b).2.1 := by decide +kernel
theorem tyX10_ok : ∀ k, k < 6 → parseFieldDescriptor (TX10 k).2.2.1 = some (tyX10 k) := by decide +kernel
abbrev cX10_init : ByteArray := prog_12_method_1_code
def yX10_init : MethodName := ⟨RX10, "<init>", "(LLayoutDesk$Tree;)V"⟩
abbrev cX10_compose : ByteArray := prog_12_method_2_code
def yX10_compose : MethodName := ⟨RX10, "compose", "(LLayoutDesk$Tree;Z)V"⟩
abbrev cX10_handOver : ByteArray := prog_12_method_3_code
def yX10_handOver : MethodName := ⟨RX10, "handOver", "(LLayoutDesk$Text;)Z"⟩
abbrev cX10_put : ByteArray := prog_12_method_4_code
def yX10_put : MethodName := ⟨RX10, "put", "(I)V"⟩
abbrev cX10_beginLine : ByteArray := prog_12_method_5_code
def yX10_beginLine : MethodName := ⟨RX10, "beginLine", "(I)V"⟩
abbrev cX10_beginToken : ByteArray := prog_12_method_6_code
def yX10_beginToken : MethodName := ⟨RX10, "beginToken", "(I)V"⟩
abbrev cX10_putWord : ByteArray := prog_12_method_7_code
def yX10_putWord : MethodName := ⟨RX10, "putWord", "(Ljava/lang/String;I)V"⟩
abbrev cX10_putName : ByteArray := prog_12_method_8_code
def yX10_putName : MethodName := ⟨RX10, "putName", "(II)V"⟩
abbrev cX10_putNumber : ByteArray := prog_12_method_9_code
def yX10_putNumber : MethodName := ⟨RX10, "putNumber", "(II)V"⟩
abbrev cX10_putLines : ByteArray := prog_12_method_10_code
def yX10_putLines : MethodName := ⟨RX10, "putLines", "(III)V"⟩
abbrev cX10_putBraces : ByteArray := prog_12_method_11_code
def yX10_putBraces : MethodName := ⟨RX10, "putBraces", "(III)V"⟩
abbrev cX10_putBlock : ByteArray := prog_12_method_12_code
def yX10_putBlock : MethodName := ⟨RX10, "putBlock", "(III)V"⟩
abbrev cX10_putParts : ByteArray := prog_12_method_13_code
def yX10_putParts : MethodName := ⟨RX10, "putParts", "(ILjava/lang/String;II)V"⟩
abbrev cX10_putBody : ByteArray := prog_12_method_14_code
def yX10_putBody : MethodName := ⟨RX10, "putBody", "(ILjava/lang/String;II)V"⟩
abbrev cX10_putWorded : ByteArray := prog_12_method_15_code
def yX10_putWorded : MethodName := ⟨RX10, "putWorded", "(ILjava/lang/String;Ljava/lang/String;Ljava/lang/String;II)V"⟩
abbrev cX10_putNode : ByteArray := prog_12_method_16_code
def yX10_putNode : MethodName := ⟨RX10, "putNode", "(III)V"⟩
abbrev cX10_putThing : ByteArray := prog_12_method_17_code
def yX10_putThing : MethodName := ⟨RX10, "putThing", "(III)V"⟩
def RX11 : String := "LayoutDesk"
def TX11 : u_T := fun k => match k with
  | 0 => ("LayoutDesk", "text", "LLayoutDesk$Text;", true)
  | 1 => ("LayoutDesk", "lexemes", "LLayoutDesk$Lexemes;", true)
  | 2 => ("LayoutDesk", "feed", "LLayoutDesk$Feed;", true)
  | 3 => ("LayoutDesk", "parser", "LLayoutDesk$Parser;", true)
  | 4 => ("LayoutDesk", "writer", "LLayoutDesk$Writer;", true)
  | 5 => ("LayoutDesk", "tree", "LLayoutDesk$Tree;", false)
  | 6 => ("LayoutDesk", "spare", "LLayoutDesk$Tree;", false)
  | 7 => ("LayoutDesk", "reads", "I", false)
  | _ => ("LayoutDesk", "latestFault", "I", false)
def tyX11 : Nat → FieldType := fun k => match k with
  | 0 => .object "LayoutDesk$Text"
  | 1 => .object "LayoutDesk$Lexemes"
  | 2 => .object "LayoutDesk$Feed"
  | 3 => .object "LayoutDesk$Parser"
  | 4 => .object "LayoutDesk$Writer"
  | 5 => .object "LayoutDesk$Tree"
  | 6 => .object "LayoutDesk$Tree"
  | 7 => .int
  | _ => .int
abbrev wsX110 : List Cond := u_ws RX11 TX11 9
theorem nmX11 : ∀ a, a < 9 → ∀ b, b < 9 → a ≠ b → (TX11 a).2.1 ≠ (TX11 b).2.1 := by decide +kernel
theorem tyX11_ok : ∀ k, k < 9 → parseFieldDescriptor (TX11 k).2.2.1 = some (tyX11 k) := by decide +kernel
abbrev cX11_init : ByteArray := prog_1_method_1_code
def yX11_init : MethodName := ⟨RX11, "<init>", "()V"⟩
abbrev cX11_type : ByteArray := prog_1_method_2_code
def yX11_type : MethodName := ⟨RX11, "type", "(JJI)I"⟩
abbrev cX11_space : ByteArray := prog_1_method_3_code
def yX11_space : MethodName := ⟨RX11, "space", "(ZI)I"⟩
abbrev cX11_clear : ByteArray := prog_1_method_4_code
def yX11_clear : MethodName := ⟨RX11, "clear", "()I"⟩
abbrev cX11_at : ByteArray := prog_1_method_5_code
def yX11_at : MethodName := ⟨RX11, "at", "(I)I"⟩
abbrev cX11_alter : ByteArray := prog_1_method_6_code
def yX11_alter : MethodName := ⟨RX11, "alter", "(II)I"⟩
abbrev cX11_read : ByteArray := prog_1_method_7_code
def yX11_read : MethodName := ⟨RX11, "read", "()I"⟩
abbrev cX11_fault : ByteArray := prog_1_method_8_code
def yX11_fault : MethodName := ⟨RX11, "fault", "()I"⟩
abbrev cX11_lexeme : ByteArray := prog_1_method_9_code
def yX11_lexeme : MethodName := ⟨RX11, "lexeme", "(II)I"⟩
abbrev cX11_token : ByteArray := prog_1_method_10_code
def yX11_token : MethodName := ⟨RX11, "token", "(I)I"⟩
abbrev cX11_count : ByteArray := prog_1_method_11_code
def yX11_count : MethodName := ⟨RX11, "count", "(I)I"⟩
abbrev cX11_node : ByteArray := prog_1_method_12_code
def yX11_node : MethodName := ⟨RX11, "node", "(II)I"⟩
abbrev cX11_letter : ByteArray := prog_1_method_13_code
def yX11_letter : MethodName := ⟨RX11, "letter", "(II)I"⟩
abbrev cX11_child : ByteArray := prog_1_method_14_code
def yX11_child : MethodName := ⟨RX11, "child", "(II)I"⟩
abbrev cX11_write : ByteArray := prog_1_method_15_code
def yX11_write : MethodName := ⟨RX11, "write", "(I)I"⟩
abbrev cX11_digest : ByteArray := prog_1_method_16_code
def yX11_digest : MethodName := ⟨RX11, "digest", "()J"⟩
def RX12 : String := "LayoutDeskModel"
def TX12 : u_T := fun k => match k with
  | 0 => ("LayoutDeskModel", "size", "I", false)
  | 1 => ("LayoutDeskModel", "text", "[I", true)
  | 2 => ("LayoutDeskModel", "lexemes", "I", false)
  | 3 => ("LayoutDeskModel", "places", "[I", true)
  | 4 => ("LayoutDeskModel", "columns", "[I", true)
  | 5 => ("LayoutDeskModel", "kinds", "[I", true)
  | 6 => ("LayoutDeskModel", "codes", "[I", true)
  | 7 => ("LayoutDeskModel", "sizes", "[I", true)
  | 8 => ("LayoutDeskModel", "openings", "[I", true)
  | 9 => ("LayoutDeskModel", "indents", "[I", true)
  | 10 => ("LayoutDeskModel", "numbers", "[I", true)
  | 11 => ("LayoutDeskModel", "letters", "[I", true)
  | 12 => ("LayoutDeskModel", "fault", "I", false)
  | 13 => ("LayoutDeskModel", "faultAt", "I", false)
  | 14 => ("LayoutDeskModel", "nodes", "I", false)
  | 15 => ("LayoutDeskModel", "nodeKind", "[I", true)
  | 16 => ("LayoutDeskModel", "nodeLexeme", "[I", true)
  | 17 => ("LayoutDeskModel", "nodeEnd", "[I", true)
  | 18 => ("LayoutDeskModel", "top", "I", false)
  | 19 => ("LayoutDeskModel", "level", "[I", true)
  | 20 => ("LayoutDeskModel", "phase", "[I", true)
  | 21 => ("LayoutDeskModel", "start", "[I", true)
  | 22 => ("LayoutDeskModel", "what", "[I", true)
  | 23 => ("LayoutDeskModel", "opened", "I", false)
  | 24 => ("LayoutDeskModel", "codeBehind", "I", false)
  | 25 => ("LayoutDeskModel", "tokens", "I", false)
  | 26 => ("LayoutDeskModel", "token", "[I", true)
  | 27 => ("LayoutDeskModel", "contexts", "I", false)
  | 28 => ("LayoutDeskModel", "context", "[I", true)
  | 29 => ("LayoutDeskModel", "hasTree", "Z", false)
  | 30 => ("LayoutDeskModel", "many", "I", false)
  | 31 => ("LayoutDeskModel", "treeKind", "[I", true)
  | 32 => ("LayoutDeskModel", "treeEnd", "[I", true)
  | 33 => ("LayoutDeskModel", "treeIn", "[I", true)
  | 34 => ("LayoutDeskModel", "treeNumber", "[I", true)
  | 35 => ("LayoutDeskModel", "treeSize", "[I", true)
  | 36 => ("LayoutDeskModel", "treeLetters", "[I", true)
  | 37 => ("LayoutDeskModel", "reads", "I", false)
  | 38 => ("LayoutDeskModel", "outs", "I", false)
  | 39 => ("LayoutDeskModel", "out", "[I", true)
  | 40 => ("LayoutDeskModel", "byColumns", "Z", false)
  | 41 => ("LayoutDeskModel", "isFresh", "Z", false)
  | 42 => ("LayoutDeskModel", "isBehind", "Z", false)
  | 43 => ("LayoutDeskModel", "column", "I", false)
  | 44 => ("LayoutDeskModel", "waits", "I", false)
  | _ => ("LayoutDeskModel", "waiting", "[I", true)
def tyX12 : Nat → FieldType := fun k => match k with
  | 0 => .int
  | 1 => .array .int
  | 2 => .int
  | 3 => .array .int
  | 4 => .array .int
  | 5 => .array .int
  | 6 => .array .int
  | 7 => .array .int
  | 8 => .array .int
  | 9 => .array .int
  | 10 => .array .int
  | 11 => .array .int
  | 12 => .int
  | 13 => .int
  | 14 => .int
  | 15 => .array .int
  | 16 => .array .int
  | 17 => .array .int
  | 18 => .int
  | 19 => .array .int
  | 20 => .array .int
  | 21 => .array .int
  | 22 => .array .int
  | 23 => .int
  | 24 => .int
  | 25 => .int
  | 26 => .array .int
  | 27 => .int
  | 28 => .array .int
  | 29 => .boolean
  | 30 => .int
  | 31 => .array .int
  | 32 => .array .int
  | 33 => .array .int
  | 34 => .array .int
  | 35 => .array .int
  | 36 => .array .int
  | 37 => .int
  | 38 => .int
  | 39 => .array .int
  | 40 => .boolean
  | 41 => .boolean
  | 42 => .boolean
  | 43 => .int
  | 44 => .int
  | _ => .array .int
abbrev wsX120 : List Cond := u_ws RX12 TX12 46
theorem nmX12 : ∀ a, a < 46 → ∀ b, b < 46 → a ≠ b → (TX12 a).2.1 ≠ (TX12 b).2.1 := by decide +kernel
theorem tyX12_ok : ∀ k, k < 46 → parseFieldDescriptor (TX12 k).2.2.1 = some (tyX12 k) := by decide +kernel
abbrev cX12_init : ByteArray := prog_14_method_1_code
def yX12_init : MethodName := ⟨RX12, "<init>", "()V"⟩
abbrev cX12_in : ByteArray := prog_14_method_3_code
def yX12_in : MethodName := ⟨RX12, "in", "(JJJ)Z"⟩
abbrev cX12_type : ByteArray := prog_14_method_4_code
def yX12_type : MethodName := ⟨RX12, "type", "(JJI)I"⟩
abbrev cX12_space : ByteArray := prog_14_method_5_code
def yX12_space : MethodName := ⟨RX12, "space", "(ZI)I"⟩
abbrev cX12_clear : ByteArray := prog_14_method_6_code
def yX12_clear : MethodName := ⟨RX12, "clear", "()I"⟩
abbrev cX12_at : ByteArray := prog_14_method_7_code
def yX12_at : MethodName := ⟨RX12, "at", "(I)I"⟩
abbrev cX12_alter : ByteArray := prog_14_method_8_code
def yX12_alter : MethodName := ⟨RX12, "alter", "(II)I"⟩
abbrev cX12_fails : ByteArray := prog_14_method_9_code
def yX12_fails : MethodName := ⟨RX12, "fails", "(II)Z"⟩
abbrev cX12_byteAt : ByteArray := prog_14_method_10_code
def yX12_byteAt : MethodName := ⟨RX12, "byteAt", "(I)I"⟩
abbrev cX12_isLow : ByteArray := prog_14_method_11_code
def yX12_isLow : MethodName := ⟨RX12, "isLow", "(I)Z"⟩
abbrev cX12_isHigh : ByteArray := prog_14_method_12_code
def yX12_isHigh : MethodName := ⟨RX12, "isHigh", "(I)Z"⟩
abbrev cX12_isFigure : ByteArray := prog_14_method_13_code
def yX12_isFigure : MethodName := ⟨RX12, "isFigure", "(I)Z"⟩
abbrev cX12_isOperator : ByteArray := prog_14_method_14_code
def yX12_isOperator : MethodName := ⟨RX12, "isOperator", "(I)Z"⟩
abbrev cX12_isSign : ByteArray := prog_14_method_15_code
def yX12_isSign : MethodName := ⟨RX12, "isSign", "(I)Z"⟩
abbrev cX12_wordOf : ByteArray := prog_14_method_16_code
def yX12_wordOf : MethodName := ⟨RX12, "wordOf", "(J)I"⟩
abbrev cX12_skips : ByteArray := prog_14_method_17_code
def yX12_skips : MethodName := ⟨RX12, "skips", "(I)I"⟩
abbrev cX12_isCut : ByteArray := prog_14_method_18_code
def yX12_isCut : MethodName := ⟨RX12, "isCut", "()Z"⟩
abbrev cX12_node : ByteArray := prog_14_method_19_code
def yX12_node : MethodName := ⟨RX12, "node", "(IIZ)I"⟩
abbrev cX12_wrap : ByteArray := prog_14_method_20_code
def yX12_wrap : MethodName := ⟨RX12, "wrap", "(II)V"⟩
abbrev cX12_push : ByteArray := prog_14_method_21_code
def yX12_push : MethodName := ⟨RX12, "push", "(III)V"⟩
abbrev cX12_isOpen : ByteArray := prog_14_method_22_code
def yX12_isOpen : MethodName := ⟨RX12, "isOpen", "(I)Z"⟩
abbrev cX12_beginsAtom : ByteArray := prog_14_method_23_code
def yX12_beginsAtom : MethodName := ⟨RX12, "beginsAtom", "(I)Z"⟩
abbrev cX12_beginsOperand : ByteArray := prog_14_method_24_code
def yX12_beginsOperand : MethodName := ⟨RX12, "beginsOperand", "(I)Z"⟩
abbrev cX12_beginsPattern : ByteArray := prog_14_method_25_code
def yX12_beginsPattern : MethodName := ⟨RX12, "beginsPattern", "(I)Z"⟩
abbrev cX12_isPattern : ByteArray := prog_14_method_26_code
def yX12_isPattern : MethodName := ⟨RX12, "isPattern", "(I)Z"⟩
abbrev cX12_accepts : ByteArray := prog_14_method_27_code
def yX12_accepts : MethodName := ⟨RX12, "accepts", "(III)Z"⟩
abbrev cX12_mayEnd : ByteArray := prog_14_method_28_code
def yX12_mayEnd : MethodName := ⟨RX12, "mayEnd", "(II)Z"⟩
abbrev cX12_after : ByteArray := prog_14_method_29_code
def yX12_after : MethodName := ⟨RX12, "after", "(I)I"⟩
abbrev cX12_finds : ByteArray := prog_14_method_30_code
def yX12_finds : MethodName := ⟨RX12, "finds", "(I)I"⟩
abbrev cX12_ends : ByteArray := prog_14_method_31_code
def yX12_ends : MethodName := ⟨RX12, "ends", "()V"⟩
abbrev cX12_within : ByteArray := prog_14_method_32_code
def yX12_within : MethodName := ⟨RX12, "within", "(I)I"⟩
abbrev cX12_leafs : ByteArray := prog_14_method_33_code
def yX12_leafs : MethodName := ⟨RX12, "leafs", "(II)V"⟩
abbrev cX12_opens : ByteArray := prog_14_method_34_code
def yX12_opens : MethodName := ⟨RX12, "opens", "(III)V"⟩
abbrev cX12_atom : ByteArray := prog_14_method_35_code
def yX12_atom : MethodName := ⟨RX12, "atom", "(II)V"⟩
abbrev cX12_pattern : ByteArray := prog_14_method_36_code
def yX12_pattern : MethodName := ⟨RX12, "pattern", "(II)V"⟩
abbrev cX12_whole : ByteArray := prog_14_method_37_code
def yX12_whole : MethodName := ⟨RX12, "whole", "(II)V"⟩
abbrev cX12_expects : ByteArray := prog_14_method_38_code
def yX12_expects : MethodName := ⟨RX12, "expects", "()V"⟩
abbrev cX12_operand : ByteArray := prog_14_method_39_code
def yX12_operand : MethodName := ⟨RX12, "operand", "(IIZ)V"⟩
abbrev cX12_begins : ByteArray := prog_14_method_40_code
def yX12_begins : MethodName := ⟨RX12, "begins", "(III)V"⟩
abbrev cX12_inBlock : ByteArray := prog_14_method_41_code
def yX12_inBlock : MethodName := ⟨RX12, "inBlock", "(III)V"⟩
abbrev cX12_inBrackets : ByteArray := prog_14_method_42_code
def yX12_inBrackets : MethodName := ⟨RX12, "inBrackets", "(III)V"⟩
abbrev cX12_goesTo : ByteArray := prog_14_method_43_code
def yX12_goesTo : MethodName := ⟨RX12, "goesTo", "(II)V"⟩
abbrev cX12_does : ByteArray := prog_14_method_44_code
def yX12_does : MethodName := ⟨RX12, "does", "(III)V"⟩
abbrev cX12_opensBy : ByteArray := prog_14_method_45_code
def yX12_opensBy : MethodName := ⟨RX12, "opensBy", "(I)Z"⟩
abbrev cX12_comes : ByteArray := prog_14_method_46_code
def yX12_comes : MethodName := ⟨RX12, "comes", "(IIII)Z"⟩
abbrev cX12_put : ByteArray := prog_14_method_47_code
def yX12_put : MethodName := ⟨RX12, "put", "(III)Z"⟩
abbrev cX12_now : ByteArray := prog_14_method_48_code
def yX12_now : MethodName := ⟨RX12, "now", "()I"⟩
abbrev cX12_behindOf : ByteArray := prog_14_method_49_code
def yX12_behindOf : MethodName := ⟨RX12, "behindOf", "(I)I"⟩
abbrev cX12_readLexeme : ByteArray := prog_14_method_50_code
def yX12_readLexeme : MethodName := ⟨RX12, "readLexeme", "(I)Z"⟩
abbrev cX12_isProgram : ByteArray := prog_14_method_51_code
def yX12_isProgram : MethodName := ⟨RX12, "isProgram", "()Z"⟩
abbrev cX12_takeTree : ByteArray := prog_14_method_52_code
def yX12_takeTree : MethodName := ⟨RX12, "takeTree", "()V"⟩
abbrev cX12_read : ByteArray := prog_14_method_53_code
def yX12_read : MethodName := ⟨RX12, "read", "()I"⟩
abbrev cX12_fault : ByteArray := prog_14_method_54_code
def yX12_fault : MethodName := ⟨RX12, "fault", "()I"⟩
abbrev cX12_lexeme : ByteArray := prog_14_method_55_code
def yX12_lexeme : MethodName := ⟨RX12, "lexeme", "(II)I"⟩
abbrev cX12_token : ByteArray := prog_14_method_56_code
def yX12_token : MethodName := ⟨RX12, "token", "(I)I"⟩
abbrev cX12_count : ByteArray := prog_14_method_57_code
def yX12_count : MethodName := ⟨RX12, "count", "(I)I"⟩
abbrev cX12_isNode : ByteArray := prog_14_method_58_code
def yX12_isNode : MethodName := ⟨RX12, "isNode", "(I)Z"⟩
abbrev cX12_node_ : ByteArray := prog_14_method_59_code
def yX12_node_ : MethodName := ⟨RX12, "node", "(II)I"⟩
abbrev cX12_letter : ByteArray := prog_14_method_60_code
def yX12_letter : MethodName := ⟨RX12, "letter", "(II)I"⟩
abbrev cX12_childOf : ByteArray := prog_14_method_61_code
def yX12_childOf : MethodName := ⟨RX12, "childOf", "(II)I"⟩
abbrev cX12_child : ByteArray := prog_14_method_62_code
def yX12_child : MethodName := ⟨RX12, "child", "(II)I"⟩
abbrev cX12_digest : ByteArray := prog_14_method_63_code
def yX12_digest : MethodName := ⟨RX12, "digest", "()J"⟩
abbrev cX12_say : ByteArray := prog_14_method_64_code
def yX12_say : MethodName := ⟨RX12, "say", "(I)V"⟩
abbrev cX12_line : ByteArray := prog_14_method_65_code
def yX12_line : MethodName := ⟨RX12, "line", "(I)V"⟩
abbrev cX12_gap : ByteArray := prog_14_method_66_code
def yX12_gap : MethodName := ⟨RX12, "gap", "()V"⟩
abbrev cX12_says : ByteArray := prog_14_method_67_code
def yX12_says : MethodName := ⟨RX12, "says", "(J)V"⟩
abbrev cX12_sayNumber : ByteArray := prog_14_method_68_code
def yX12_sayNumber : MethodName := ⟨RX12, "sayNumber", "(I)V"⟩
abbrev cX12_sayName : ByteArray := prog_14_method_69_code
def yX12_sayName : MethodName := ⟨RX12, "sayName", "(I)V"⟩
abbrev cX12_later : ByteArray := prog_14_method_70_code
def yX12_later : MethodName := ⟨RX12, "later", "(I)V"⟩
abbrev cX12_sayCode : ByteArray := prog_14_method_71_code
def yX12_sayCode : MethodName := ⟨RX12, "sayCode", "(I)V"⟩
abbrev cX12_manyIn : ByteArray := prog_14_method_72_code
def yX12_manyIn : MethodName := ⟨RX12, "manyIn", "(I)I"⟩
abbrev cX12_laterChildren : ByteArray := prog_14_method_73_code
def yX12_laterChildren : MethodName := ⟨RX12, "laterChildren", "(IIII)V"⟩
abbrev cX12_block : ByteArray := prog_14_method_74_code
def yX12_block : MethodName := ⟨RX12, "block", "(I)V"⟩
abbrev cX12_declares : ByteArray := prog_14_method_75_code
def yX12_declares : MethodName := ⟨RX12, "declares", "(I)V"⟩
abbrev cX12_tells : ByteArray := prog_14_method_76_code
def yX12_tells : MethodName := ⟨RX12, "tells", "(I)V"⟩
abbrev cX12_write : ByteArray := prog_14_method_77_code
def yX12_write : MethodName := ⟨RX12, "write", "(I)I"⟩
def RJ11 : String := "java/lang/Character"
def TJ11 : u_T := fun k => match k with
  | _ => ("", "", "", false)
def tyJ11 : Nat → FieldType := fun k => match k with
  | _ => .int
abbrev wsJ110 : List Cond := u_ws RJ11 TJ11 0
theorem nmJ11 : ∀ a, a < 0 → ∀ b, b < 0 → a ≠ b → (TJ11 a).2.1 ≠ (TJ11 b).2.1 := by decide +kernel
theorem tyJ11_ok : ∀ k, k < 0 → parseFieldDescriptor (TJ11 k).2.2.1 = some (tyJ11 k) := by decide +kernel
abbrev cJ11_isValidCodePoint_9a6ad : ByteArray := prog_15_method_11_code
def yJ11_isValidCodePoint_9a6ad : MethodName := ⟨RJ11, "isValidCodePoint", "(I)Z"⟩
abbrev cJ11_highSurrogate_5068e : ByteArray := prog_15_method_28_code
def yJ11_highSurrogate_5068e : MethodName := ⟨RJ11, "highSurrogate", "(I)C"⟩
abbrev cJ11_lowSurrogate_5068e : ByteArray := prog_15_method_29_code
def yJ11_lowSurrogate_5068e : MethodName := ⟨RJ11, "lowSurrogate", "(I)C"⟩
def RJ9 : String := "java/lang/Math"
def TJ9 : u_T := fun k => match k with
  | _ => ("", "", "", false)
def tyJ9 : Nat → FieldType := fun k => match k with
  | _ => .int
abbrev wsJ90 : List Cond := u_ws RJ9 TJ9 0
theorem nmJ9 : ∀ a, a < 0 → ∀ b, b < 0 → a ≠ b → (TJ9 a).2.1 ≠ (TJ9 b).2.1 := by decide +kernel
theorem tyJ9_ok : ∀ k, k < 0 → parseFieldDescriptor (TJ9 k).2.2.1 = some (tyJ9 k) := by decide +kernel
abbrev cJ9_max_7cf53 : ByteArray := prog_16_method_65_code
def yJ9_max_7cf53 : MethodName := ⟨RJ9, "max", "(II)I"⟩
abbrev cJ9_min_7cf53 : ByteArray := prog_16_method_69_code
def yJ9_min_7cf53 : MethodName := ⟨RJ9, "min", "(II)I"⟩
def RJ0 : String := "java/lang/String"
def TJ0 : u_T := fun k => match k with
  | _ => ("", "", "", false)
def tyJ0 : Nat → FieldType := fun k => match k with
  | _ => .int
abbrev wsJ00 : List Cond := u_ws RJ0 TJ0 0
theorem nmJ0 : ∀ a, a < 0 → ∀ b, b < 0 → a ≠ b → (TJ0 a).2.1 ≠ (TJ0 b).2.1 := by decide +kernel
theorem tyJ0_ok : ∀ k, k < 0 → parseFieldDescriptor (TJ0 k).2.2.1 = some (tyJ0 k) := by decide +kernel
abbrev cJ0_length_8abf5 : ByteArray := prog_17_method_54_code
def yJ0_length_8abf5 : MethodName := ⟨RJ0, "length", "()I"⟩
abbrev cJ0_isEmpty_aae02 : ByteArray := prog_17_method_55_code
def yJ0_isEmpty_aae02 : MethodName := ⟨RJ0, "isEmpty", "()Z"⟩
abbrev cJ0_charAt_5068e : ByteArray := prog_17_method_56_code
def yJ0_charAt_5068e : MethodName := ⟨RJ0, "charAt", "(I)C"⟩
abbrev cJ0_indexOf_0f7a4 : ByteArray := prog_17_method_79_code
def yJ0_indexOf_0f7a4 : MethodName := ⟨RJ0, "indexOf", "(I)I"⟩
abbrev cJ0_indexOf_7cf53 : ByteArray := prog_17_method_80_code
def yJ0_indexOf_7cf53 : MethodName := ⟨RJ0, "indexOf", "(II)I"⟩
abbrev cJ0_coder_7d493 : ByteArray := prog_17_method_152_code
def yJ0_coder_7d493 : MethodName := ⟨RJ0, "coder", "()B"⟩
abbrev cJ0_isLatin1_aae02 : ByteArray := prog_17_method_154_code
def yJ0_isLatin1_aae02 : MethodName := ⟨RJ0, "isLatin1", "()Z"⟩
abbrev cJ0_checkIndex_df160 : ByteArray := prog_17_method_155_code
def yJ0_checkIndex_df160 : MethodName := ⟨RJ0, "checkIndex", "(II)V"⟩
abbrev cJ0_checkBoundsBeginEnd_23922 : ByteArray := prog_17_method_158_code
def yJ0_checkBoundsBeginEnd_23922 : MethodName := ⟨RJ0, "checkBoundsBeginEnd", "(III)V"⟩
def RJ1 : String := "java/lang/StringLatin1"
def TJ1 : u_T := fun k => match k with
  | _ => ("", "", "", false)
def tyJ1 : Nat → FieldType := fun k => match k with
  | _ => .int
abbrev wsJ10 : List Cond := u_ws RJ1 TJ1 0
theorem nmJ1 : ∀ a, a < 0 → ∀ b, b < 0 → a ≠ b → (TJ1 a).2.1 ≠ (TJ1 b).2.1 := by decide +kernel
theorem tyJ1_ok : ∀ k, k < 0 → parseFieldDescriptor (TJ1 k).2.2.1 = some (tyJ1 k) := by decide +kernel
abbrev cJ1_charAt_3b067 : ByteArray := prog_18_method_2_code
def yJ1_charAt_3b067 : MethodName := ⟨RJ1, "charAt", "([BI)C"⟩
abbrev cJ1_canEncode_9a6ad : ByteArray := prog_18_method_4_code
def yJ1_canEncode_9a6ad : MethodName := ⟨RJ1, "canEncode", "(I)Z"⟩
abbrev cJ1_indexOf_4cfef : ByteArray := prog_18_method_22_code
def yJ1_indexOf_4cfef : MethodName := ⟨RJ1, "indexOf", "([BIII)I"⟩
abbrev cJ1_indexOfChar_4cfef : ByteArray := prog_18_method_23_code
def yJ1_indexOfChar_4cfef : MethodName := ⟨RJ1, "indexOfChar", "([BIII)I"⟩
def RJ2 : String := "java/lang/StringUTF16"
def TJ2 : u_T := fun k => match k with
  | _ => ("", "", "", false)
def tyJ2 : Nat → FieldType := fun k => match k with
  | _ => .int
abbrev wsJ20 : List Cond := u_ws RJ2 TJ2 0
theorem nmJ2 : ∀ a, a < 0 → ∀ b, b < 0 → a ≠ b → (TJ2 a).2.1 ≠ (TJ2 b).2.1 := by decide +kernel
theorem tyJ2_ok : ∀ k, k < 0 → parseFieldDescriptor (TJ2 k).2.2.1 = some (tyJ2 k) := by decide +kernel
abbrev cJ2_getChar_3b067 : ByteArray := prog_19_method_5_code
def yJ2_getChar_3b067 : MethodName := ⟨RJ2, "getChar", "([BI)C"⟩
abbrev cJ2_length_9d52b : ByteArray := prog_19_method_6_code
def yJ2_length_9d52b : MethodName := ⟨RJ2, "length", "([B)I"⟩
abbrev cJ2_indexOf_4cfef : ByteArray := prog_19_method_40_code
def yJ2_indexOf_4cfef : MethodName := ⟨RJ2, "indexOf", "([BIII)I"⟩
abbrev cJ2_indexOfChar_4cfef : ByteArray := prog_19_method_47_code
def yJ2_indexOfChar_4cfef : MethodName := ⟨RJ2, "indexOfChar", "([BIII)I"⟩
abbrev cJ2_indexOfCharUnsafe_4cfef : ByteArray := prog_19_method_48_code
def yJ2_indexOfCharUnsafe_4cfef : MethodName := ⟨RJ2, "indexOfCharUnsafe", "([BIII)I"⟩
abbrev cJ2_indexOfSupplementary_4cfef : ByteArray := prog_19_method_49_code
def yJ2_indexOfSupplementary_4cfef : MethodName := ⟨RJ2, "indexOfSupplementary", "([BIII)I"⟩
abbrev cJ2_charAt_3b067 : ByteArray := prog_19_method_83_code
def yJ2_charAt_3b067 : MethodName := ⟨RJ2, "charAt", "([BI)C"⟩
abbrev cJ2_checkIndex_2214a : ByteArray := prog_19_method_91_code
def yJ2_checkIndex_2214a : MethodName := ⟨RJ2, "checkIndex", "(I[B)V"⟩
abbrev cJ2_checkBoundsBeginEnd_d044e : ByteArray := prog_19_method_93_code
def yJ2_checkBoundsBeginEnd_d044e : MethodName := ⟨RJ2, "checkBoundsBeginEnd", "(II[B)V"⟩
def RJ10 : String := "java/lang/System"
def TJ10 : u_T := fun k => match k with
  | _ => ("", "", "", false)
def tyJ10 : Nat → FieldType := fun k => match k with
  | _ => .int
abbrev wsJ100 : List Cond := u_ws RJ10 TJ10 0
theorem nmJ10 : ∀ a, a < 0 → ∀ b, b < 0 → a ≠ b → (TJ10 a).2.1 ≠ (TJ10 b).2.1 := by decide +kernel
theorem tyJ10_ok : ∀ k, k < 0 → parseFieldDescriptor (TJ10 k).2.2.1 = some (tyJ10 k) := by decide +kernel
def RJ3 : String := "jdk/internal/util/Preconditions"
def TJ3 : u_T := fun k => match k with
  | _ => ("", "", "", false)
def tyJ3 : Nat → FieldType := fun k => match k with
  | _ => .int
abbrev wsJ30 : List Cond := u_ws RJ3 TJ3 0
theorem nmJ3 : ∀ a, a < 0 → ∀ b, b < 0 → a ≠ b → (TJ3 a).2.1 ≠ (TJ3 b).2.1 := by decide +kernel
theorem tyJ3_ok : ∀ k, k < 0 → parseFieldDescriptor (TJ3 k).2.2.1 = some (tyJ3 k) := by decide +kernel
abbrev cJ3_checkIndex_8e157 : ByteArray := prog_21_method_11_code
def yJ3_checkIndex_8e157 : MethodName := ⟨RJ3, "checkIndex", "(IILjava/util/function/BiFunction;)I"⟩
abbrev cJ3_checkFromToIndex_8c36e : ByteArray := prog_21_method_12_code
def yJ3_checkFromToIndex_8c36e : MethodName := ⟨RJ3, "checkFromToIndex", "(IIILjava/util/function/BiFunction;)I"⟩
def RL : String := "LayoutDeskLaw"
abbrev cL_law : ByteArray := code
def yL_law : MethodName := ⟨RL, "law", "([I)Z"⟩
def wsL_law_r1 : List Cond := [Cond.classLink RL 7 RX11, Cond.instantiable RX11 9, Cond.initialized RX11, Cond.classLink RL 10 RX12, Cond.instantiable RX12 46, Cond.initialized RX12, Cond.constantLong RL 13 (4294967295), Cond.methodLink RL 9 yX11_init, Cond.instanceMethod yX11_init, Cond.code yX11_init cX11_init 1 none, Cond.methodLink RX11 1 objectInit, Cond.instanceMethod objectInit, Cond.code objectInit ⟨#[0xb1]⟩ 1 none, Cond.classLink RX11 7 RX8, Cond.instantiable RX8 2, Cond.initialized RX8, Cond.fieldLink RX11 10 "LayoutDesk" "text" "LLayoutDesk$Text;", Cond.classLink RX11 16 RX3, Cond.instantiable RX3 14, Cond.initialized RX3, Cond.fieldLink RX11 21 "LayoutDesk" "lexemes" "LLayoutDesk$Lexemes;", Cond.classLink RX11 25 RX1, Cond.instantiable RX1 9, Cond.initialized RX1]
def wsL_law_r2 : List Cond := [Cond.fieldLink RX11 30 "LayoutDesk" "feed" "LLayoutDesk$Feed;", Cond.classLink RX11 34 RX9, Cond.instantiable RX9 7, Cond.initialized RX9, Cond.fieldLink RX11 37 "LayoutDesk" "tree" "LLayoutDesk$Tree;", Cond.fieldLink RX11 41 "LayoutDesk" "spare" "LLayoutDesk$Tree;", Cond.classLink RX11 44 RX5, Cond.instantiable RX5 7, Cond.initialized RX5, Cond.fieldLink RX11 49 "LayoutDesk" "parser" "LLayoutDesk$Parser;", Cond.classLink RX11 53 RX10, Cond.instantiable RX10 6, Cond.initialized RX10, Cond.fieldLink RX11 58 "LayoutDesk" "writer" "LLayoutDesk$Writer;", Cond.methodLink RX11 9 yX8_init, Cond.instanceMethod yX8_init, Cond.code yX8_init cX8_init 1 none, Cond.methodLink RX8 3 objectInit, Cond.arrayClass .char, Cond.fieldLink RX8 11 "LayoutDesk$Text" "bytes" "[C", Cond.methodLink RX11 18 yX3_init, Cond.instanceMethod yX3_init, Cond.code yX3_init cX3_init 2 none, Cond.methodLink RX3 3 objectInit]
def wsL_law_r3 : List Cond := [Cond.fieldLink RX3 9 "LayoutDesk$Lexemes" "text" "LLayoutDesk$Text;", Cond.arrayClass .int, Cond.fieldLink RX3 15 "LayoutDesk$Lexemes" "places" "[I", Cond.fieldLink RX3 19 "LayoutDesk$Lexemes" "columns" "[I", Cond.fieldLink RX3 22 "LayoutDesk$Lexemes" "sorts" "[I", Cond.fieldLink RX3 25 "LayoutDesk$Lexemes" "lengths" "[I", Cond.fieldLink RX3 28 "LayoutDesk$Lexemes" "openings" "[I", Cond.fieldLink RX3 31 "LayoutDesk$Lexemes" "indents" "[I", Cond.methodLink RX11 27 yX1_init, Cond.instanceMethod yX1_init, Cond.code yX1_init cX1_init 2 none, Cond.methodLink RX1 5 objectInit, Cond.fieldLink RX1 11 "LayoutDesk$Feed" "lexemes" "LLayoutDesk$Lexemes;", Cond.fieldLink RX1 17 "LayoutDesk$Feed" "tokens" "[I", Cond.fieldLink RX1 21 "LayoutDesk$Feed" "contexts" "[I", Cond.methodLink RX11 36 yX9_init, Cond.instanceMethod yX9_init, Cond.code yX9_init cX9_init 1 none, Cond.methodLink RX9 5 objectInit, Cond.fieldLink RX9 13 "LayoutDesk$Tree" "kinds" "[I", Cond.fieldLink RX9 17 "LayoutDesk$Tree" "sizes" "[I", Cond.fieldLink RX9 20 "LayoutDesk$Tree" "parents" "[I", Cond.fieldLink RX9 23 "LayoutDesk$Tree" "places" "[I", Cond.fieldLink RX9 26 "LayoutDesk$Tree" "lengths" "[I"]
def wsL_law_r4 : List Cond := [Cond.fieldLink RX9 31 "LayoutDesk$Tree" "letters" "[C", Cond.methodLink RX11 46 yX5_init, Cond.instanceMethod yX5_init, Cond.code yX5_init cX5_init 4 none, Cond.methodLink RX5 3 objectInit, Cond.fieldLink RX5 9 "LayoutDesk$Parser" "lexemes" "LLayoutDesk$Lexemes;", Cond.fieldLink RX5 15 "LayoutDesk$Parser" "feed" "LLayoutDesk$Feed;", Cond.classLink RX5 19 RX4, Cond.instantiable RX4 7, Cond.initialized RX4, Cond.fieldLink RX5 22 "LayoutDesk$Parser" "openings" "LLayoutDesk$Openings;", Cond.classLink RX5 26 RX6, Cond.instantiable RX6 3, Cond.initialized RX6, Cond.fieldLink RX5 29 "LayoutDesk$Parser" "pile" "LLayoutDesk$Pile;", Cond.fieldLink RX5 33 "LayoutDesk$Parser" "tree" "LLayoutDesk$Tree;", Cond.methodLink RX5 21 yX4_init, Cond.instanceMethod yX4_init, Cond.code yX4_init cX4_init 1 none, Cond.methodLink RX4 5 objectInit, Cond.fieldLink RX4 13 "LayoutDesk$Openings" "depths" "[I", Cond.fieldLink RX4 17 "LayoutDesk$Openings" "tokens" "[I", Cond.fieldLink RX4 20 "LayoutDesk$Openings" "positions" "[I", Cond.fieldLink RX4 23 "LayoutDesk$Openings" "lets" "[I"]
def wsL_law_r5 : List Cond := [Cond.methodLink RX5 28 yX6_init, Cond.instanceMethod yX6_init, Cond.code yX6_init cX6_init 1 none, Cond.methodLink RX6 5 objectInit, Cond.fieldLink RX6 13 "LayoutDesk$Pile" "dues" "[I", Cond.fieldLink RX6 17 "LayoutDesk$Pile" "nodes" "[I", Cond.methodLink RX11 55 yX10_init, Cond.instanceMethod yX10_init, Cond.code yX10_init cX10_init 2 none, Cond.methodLink RX10 1 objectInit, Cond.fieldLink RX10 9 "LayoutDesk$Writer" "bytes" "[C", Cond.fieldLink RX10 15 "LayoutDesk$Writer" "tree" "LLayoutDesk$Tree;", Cond.methodLink RL 12 yX12_init, Cond.instanceMethod yX12_init, Cond.code yX12_init cX12_init 1 none, Cond.methodLink RX12 1 objectInit, Cond.fieldLink RX12 7 "LayoutDeskModel" "text" "[I", Cond.fieldLink RX12 13 "LayoutDeskModel" "places" "[I", Cond.fieldLink RX12 16 "LayoutDeskModel" "columns" "[I", Cond.fieldLink RX12 19 "LayoutDeskModel" "kinds" "[I", Cond.fieldLink RX12 22 "LayoutDeskModel" "codes" "[I", Cond.fieldLink RX12 25 "LayoutDeskModel" "sizes" "[I", Cond.fieldLink RX12 28 "LayoutDeskModel" "openings" "[I", Cond.fieldLink RX12 31 "LayoutDeskModel" "indents" "[I"]
def wsL_law_r6 : List Cond := [Cond.fieldLink RX12 34 "LayoutDeskModel" "numbers" "[I", Cond.fieldLink RX12 37 "LayoutDeskModel" "letters" "[I", Cond.fieldLink RX12 40 "LayoutDeskModel" "nodeKind" "[I", Cond.fieldLink RX12 43 "LayoutDeskModel" "nodeLexeme" "[I", Cond.fieldLink RX12 46 "LayoutDeskModel" "nodeEnd" "[I", Cond.fieldLink RX12 49 "LayoutDeskModel" "level" "[I", Cond.fieldLink RX12 52 "LayoutDeskModel" "phase" "[I", Cond.fieldLink RX12 55 "LayoutDeskModel" "start" "[I", Cond.fieldLink RX12 58 "LayoutDeskModel" "what" "[I", Cond.fieldLink RX12 61 "LayoutDeskModel" "token" "[I", Cond.fieldLink RX12 64 "LayoutDeskModel" "context" "[I", Cond.fieldLink RX12 67 "LayoutDeskModel" "treeKind" "[I", Cond.fieldLink RX12 70 "LayoutDeskModel" "treeEnd" "[I", Cond.fieldLink RX12 73 "LayoutDeskModel" "treeIn" "[I", Cond.fieldLink RX12 76 "LayoutDeskModel" "treeNumber" "[I", Cond.fieldLink RX12 79 "LayoutDeskModel" "treeSize" "[I", Cond.constant RX12 82 (36000), Cond.fieldLink RX12 83 "LayoutDeskModel" "treeLetters" "[I", Cond.fieldLink RX12 86 "LayoutDeskModel" "out" "[I", Cond.fieldLink RX12 89 "LayoutDeskModel" "waiting" "[I", Cond.methodLink RL 15 yX11_type, Cond.instanceMethod yX11_type, Cond.selects RX11 yX11_type yX11_type, Cond.code yX11_type cX11_type 9 (some .int)]
def wsL_law_r7 : List Cond := [Cond.methodLink RX11 62 yX8_hasRoom, Cond.instanceMethod yX8_hasRoom, Cond.selects RX8 yX8_hasRoom yX8_hasRoom, Cond.code yX8_hasRoom cX8_hasRoom 2 (some .boolean), Cond.fieldLink RX8 15 "LayoutDesk$Text" "length" "I", Cond.methodLink RX11 66 yX8_append, Cond.instanceMethod yX8_append, Cond.selects RX8 yX8_append yX8_append, Cond.code yX8_append cX8_append 2 none, Cond.methodLink RX11 70 yX8_length, Cond.instanceMethod yX8_length, Cond.selects RX8 yX8_length yX8_length, Cond.code yX8_length cX8_length 1 (some .int), Cond.methodLink RL 19 yX12_type, Cond.instanceMethod yX12_type, Cond.selects RX12 yX12_type yX12_type, Cond.code yX12_type cX12_type 7 (some .int), Cond.constantLong RX12 92 (16), Cond.fieldLink RX12 98 "LayoutDeskModel" "size" "I", Cond.constantLong RX12 102 (255), Cond.methodLink RX12 94 yX12_in, Cond.static yX12_in, Cond.code yX12_in cX12_in 6 (some .boolean), Cond.methodLink RL 20 yX11_space]
def wsL_law_r8 : List Cond := [Cond.instanceMethod yX11_space, Cond.selects RX11 yX11_space yX11_space, Cond.code yX11_space cX11_space 4 (some .int), Cond.methodLink RL 24 yX12_space, Cond.instanceMethod yX12_space, Cond.selects RX12 yX12_space yX12_space, Cond.code yX12_space cX12_space 4 (some .int), Cond.constantLong RX12 104 (80), Cond.methodLink RL 25 yX11_clear, Cond.instanceMethod yX11_clear, Cond.selects RX11 yX11_clear yX11_clear, Cond.code yX11_clear cX11_clear 2 (some .int), Cond.methodLink RX11 74 yX8_empty, Cond.instanceMethod yX8_empty, Cond.selects RX8 yX8_empty yX8_empty, Cond.code yX8_empty cX8_empty 1 none, Cond.methodLink RL 29 yX12_clear, Cond.instanceMethod yX12_clear, Cond.selects RX12 yX12_clear yX12_clear, Cond.code yX12_clear cX12_clear 2 (some .int), Cond.methodLink RL 30 yX11_at, Cond.instanceMethod yX11_at, Cond.selects RX11 yX11_at yX11_at, Cond.code yX11_at cX11_at 2 (some .int)]
def wsL_law_r9 : List Cond := [Cond.methodLink RX11 77 yX8_byteAt, Cond.instanceMethod yX8_byteAt, Cond.selects RX8 yX8_byteAt yX8_byteAt, Cond.code yX8_byteAt cX8_byteAt 2 (some .int), Cond.methodLink RL 34 yX12_at, Cond.instanceMethod yX12_at, Cond.selects RX12 yX12_at yX12_at, Cond.code yX12_at cX12_at 2 (some .int), Cond.methodLink RL 35 yX11_alter, Cond.instanceMethod yX11_alter, Cond.selects RX11 yX11_alter yX11_alter, Cond.code yX11_alter cX11_alter 4 (some .int), Cond.methodLink RX11 81 yX8_set, Cond.instanceMethod yX8_set, Cond.selects RX8 yX8_set yX8_set, Cond.code yX8_set cX8_set 3 none, Cond.methodLink RL 39 yX12_alter, Cond.instanceMethod yX12_alter, Cond.selects RX12 yX12_alter yX12_alter, Cond.code yX12_alter cX12_alter 4 (some .int), Cond.methodLink RL 40 yX11_read, Cond.instanceMethod yX11_read, Cond.selects RX11 yX11_read yX11_read, Cond.code yX11_read cX11_read 2 (some .int)]
def wsL_law_r10 : List Cond := [Cond.fieldLink RX11 85 "LayoutDesk" "reads" "I", Cond.fieldLink RX11 96 "LayoutDesk" "latestFault" "I", Cond.methodLink RX11 89 yX1_empty, Cond.instanceMethod yX1_empty, Cond.selects RX1 yX1_empty yX1_empty, Cond.code yX1_empty cX1_empty 1 none, Cond.fieldLink RX1 24 "LayoutDesk$Feed" "size" "I", Cond.methodLink RX11 90 yX3_scan, Cond.instanceMethod yX3_scan, Cond.selects RX3 yX3_scan yX3_scan, Cond.code yX3_scan cX3_scan 3 none, Cond.fieldLink RX3 34 "LayoutDesk$Lexemes" "size" "I", Cond.fieldLink RX3 38 "LayoutDesk$Lexemes" "faultNumber" "I", Cond.fieldLink RX3 41 "LayoutDesk$Lexemes" "faultPlace" "I", Cond.fieldLink RX3 62 "LayoutDesk$Lexemes" "place" "I", Cond.fieldLink RX3 65 "LayoutDesk$Lexemes" "lineStart" "I", Cond.fieldLink RX3 68 "LayoutDesk$Lexemes" "lineHasLexeme" "Z", Cond.fieldLink RX3 59 "LayoutDesk$Lexemes" "endOpening" "I", Cond.methodLink RX3 44 yX8_length, Cond.methodLink RX3 72 yX8_byteAt, Cond.methodLink RX3 75 yX3_goOn, Cond.instanceMethod yX3_goOn, Cond.selects RX3 yX3_goOn yX3_goOn, Cond.code yX3_goOn cX3_goOn 2 none]
def wsL_law_r11 : List Cond := [Cond.methodLink RX3 87 yX3_endLine, Cond.instanceMethod yX3_endLine, Cond.selects RX3 yX3_endLine yX3_endLine, Cond.code yX3_endLine cX3_endLine 2 none, Cond.methodLink RX3 90 yX3_passNestedComment, Cond.instanceMethod yX3_passNestedComment, Cond.selects RX3 yX3_passNestedComment yX3_passNestedComment, Cond.code yX3_passNestedComment cX3_passNestedComment 6 none, Cond.methodLink RX3 105 yX3_refuse, Cond.instanceMethod yX3_refuse, Cond.selects RX3 yX3_refuse yX3_refuse, Cond.code yX3_refuse cX3_refuse 2 none, Cond.methodLink RX3 93 yX3_isLineComment, Cond.instanceMethod yX3_isLineComment, Cond.selects RX3 yX3_isLineComment yX3_isLineComment, Cond.code yX3_isLineComment cX3_isLineComment 4 (some .boolean), Cond.methodLink RX3 102 yX3_isOperatorByte, Cond.static yX3_isOperatorByte, Cond.code yX3_isOperatorByte cX3_isOperatorByte 1 (some .boolean), Cond.methodLink RX3 179 yJ0_indexOf_0f7a4, Cond.instanceMethod yJ0_indexOf_0f7a4, Cond.selects RJ0 yJ0_indexOf_0f7a4 yJ0_indexOf_0f7a4, Cond.initialized RJ0, Cond.code yJ0_indexOf_0f7a4 cJ0_indexOf_0f7a4 2 (some .int)]
def wsL_law_r12 : List Cond := [Cond.methodLink RJ0 633 yJ0_indexOf_7cf53, Cond.instanceMethod yJ0_indexOf_7cf53, Cond.selects RJ0 yJ0_indexOf_7cf53 yJ0_indexOf_7cf53, Cond.code yJ0_indexOf_7cf53 cJ0_indexOf_7cf53 3 (some .int), Cond.fieldLink RJ0 9 "java/lang/String" "value" "[B", Cond.methodLink RJ0 492 yJ0_isLatin1_aae02, Cond.instanceMethod yJ0_isLatin1_aae02, Cond.selects RJ0 yJ0_isLatin1_aae02 yJ0_isLatin1_aae02, Cond.code yJ0_isLatin1_aae02 cJ0_isLatin1_aae02 1 (some .boolean), Cond.fieldLink RJ0 38 "java/lang/String" "COMPACT_STRINGS" "Z", Cond.fieldLink RJ0 15 "java/lang/String" "coder" "B", Cond.methodLink RJ0 505 yJ0_length_8abf5, Cond.instanceMethod yJ0_length_8abf5, Cond.selects RJ0 yJ0_length_8abf5 yJ0_length_8abf5, Cond.code yJ0_length_8abf5 cJ0_length_8abf5 1 (some .int), Cond.methodLink RJ0 335 yJ0_coder_7d493, Cond.instanceMethod yJ0_coder_7d493, Cond.selects RJ0 yJ0_coder_7d493 yJ0_coder_7d493, Cond.code yJ0_coder_7d493 cJ0_coder_7d493 1 (some .byte), Cond.methodLink RJ0 637 yJ1_indexOf_4cfef, Cond.static yJ1_indexOf_4cfef, Cond.initialized RJ1, Cond.code yJ1_indexOf_4cfef cJ1_indexOf_4cfef 4 (some .int), Cond.methodLink RJ1 92 Lib.Math.max.name]
def wsL_law_r13 : List Cond := [Cond.static Lib.Math.max.name, Cond.initialized "java/lang/Math", Cond.code Lib.Math.max.name Lib.Math.max.code 2 (some .int), Cond.methodLink RJ1 38 Lib.Math.min.name, Cond.static Lib.Math.min.name, Cond.code Lib.Math.min.name Lib.Math.min.code 2 (some .int), Cond.methodLink RJ1 88 yJ1_canEncode_9a6ad, Cond.static yJ1_canEncode_9a6ad, Cond.code yJ1_canEncode_9a6ad cJ1_canEncode_9a6ad 1 (some .boolean), Cond.methodLink RJ1 95 yJ1_indexOfChar_4cfef, Cond.static yJ1_indexOfChar_4cfef, Cond.code yJ1_indexOfChar_4cfef cJ1_indexOfChar_4cfef 6 (some .int), Cond.methodLink RJ0 640 yJ2_indexOf_4cfef, Cond.static yJ2_indexOf_4cfef, Cond.initialized RJ2, Cond.code yJ2_indexOf_4cfef cJ2_indexOf_4cfef 4 (some .int), Cond.methodLink RJ2 224 Lib.Math.max.name, Cond.methodLink RJ2 183 Lib.Math.min.name, Cond.constant RJ2 227 (65536), Cond.methodLink RJ2 228 yJ2_indexOfChar_4cfef, Cond.static yJ2_indexOfChar_4cfef, Cond.code yJ2_indexOfChar_4cfef cJ2_indexOfChar_4cfef 4 (some .int), Cond.methodLink RJ2 96 yJ2_checkBoundsBeginEnd_d044e, Cond.static yJ2_checkBoundsBeginEnd_d044e]
def wsL_law_r14 : List Cond := [Cond.code yJ2_checkBoundsBeginEnd_d044e cJ2_checkBoundsBeginEnd_d044e 3 none, Cond.methodLink RJ2 48 yJ2_length_9d52b, Cond.static yJ2_length_9d52b, Cond.code yJ2_length_9d52b cJ2_length_9d52b 1 (some .int), Cond.methodLink RJ2 241 yJ0_checkBoundsBeginEnd_23922, Cond.static yJ0_checkBoundsBeginEnd_23922, Cond.code yJ0_checkBoundsBeginEnd_23922 cJ0_checkBoundsBeginEnd_23922 3 none, Cond.fieldLink RJ0 1053 "jdk/internal/util/Preconditions" "SIOOBE_FORMATTER" "Ljava/util/function/BiFunction;", Cond.methodLink RJ0 1062 yJ3_checkFromToIndex_8c36e, Cond.static yJ3_checkFromToIndex_8c36e, Cond.initialized RJ3, Cond.code yJ3_checkFromToIndex_8c36e cJ3_checkFromToIndex_8c36e 4 (some .int), Cond.methodLink RJ2 244 yJ2_indexOfCharUnsafe_4cfef, Cond.static yJ2_indexOfCharUnsafe_4cfef, Cond.code yJ2_indexOfCharUnsafe_4cfef cJ2_indexOfCharUnsafe_4cfef 5 (some .int), Cond.methodLink RJ2 71 yJ2_getChar_3b067, Cond.static yJ2_getChar_3b067, Cond.code yJ2_getChar_3b067 cJ2_getChar_3b067 2 (some .char), Cond.fieldLink RJ2 44 "java/lang/StringUTF16" "$assertionsDisabled" "Z", Cond.fieldLink RJ2 59 "java/lang/StringUTF16" "HI_BYTE_SHIFT" "I", Cond.fieldLink RJ2 63 "java/lang/StringUTF16" "LO_BYTE_SHIFT" "I", Cond.methodLink RJ2 232 yJ2_indexOfSupplementary_4cfef, Cond.static yJ2_indexOfSupplementary_4cfef, Cond.code yJ2_indexOfSupplementary_4cfef cJ2_indexOfSupplementary_4cfef 7 (some .int)]
def wsL_law_r15 : List Cond := [Cond.methodLink RJ2 164 yJ11_isValidCodePoint_9a6ad, Cond.static yJ11_isValidCodePoint_9a6ad, Cond.initialized RJ11, Cond.code yJ11_isValidCodePoint_9a6ad cJ11_isValidCodePoint_9a6ad 2 (some .boolean), Cond.methodLink RJ2 157 yJ11_highSurrogate_5068e, Cond.static yJ11_highSurrogate_5068e, Cond.code yJ11_highSurrogate_5068e cJ11_highSurrogate_5068e 1 (some .char), Cond.constant RJ11 110 (55232), Cond.methodLink RJ2 161 yJ11_lowSurrogate_5068e, Cond.static yJ11_lowSurrogate_5068e, Cond.code yJ11_lowSurrogate_5068e cJ11_lowSurrogate_5068e 1 (some .char), Cond.constant RJ11 76 (56320), Cond.methodLink RX3 96 yX3_passLineComment, Cond.instanceMethod yX3_passLineComment, Cond.selects RX3 yX3_passLineComment yX3_passLineComment, Cond.code yX3_passLineComment cX3_passLineComment 3 none, Cond.methodLink RX3 99 yX3_takeLexeme, Cond.instanceMethod yX3_takeLexeme, Cond.selects RX3 yX3_takeLexeme yX3_takeLexeme, Cond.code yX3_takeLexeme cX3_takeLexeme 3 none, Cond.methodLink RX3 108 yX3_isSmall, Cond.static yX3_isSmall, Cond.code yX3_isSmall cX3_isSmall 1 (some .boolean), Cond.methodLink RX3 111 yX3_nameLength]
def wsL_law_r16 : List Cond := [Cond.instanceMethod yX3_nameLength, Cond.selects RX3 yX3_nameLength yX3_nameLength, Cond.code yX3_nameLength cX3_nameLength 3 (some .int), Cond.methodLink RX3 139 yX3_isNameByte, Cond.static yX3_isNameByte, Cond.code yX3_isNameByte cX3_isNameByte 1 (some .boolean), Cond.methodLink RX3 121 yX3_isCapital, Cond.static yX3_isCapital, Cond.code yX3_isCapital cX3_isCapital 1 (some .boolean), Cond.methodLink RX3 124 yX3_isFigure, Cond.static yX3_isFigure, Cond.code yX3_isFigure cX3_isFigure 1 (some .boolean), Cond.methodLink RX3 114 yX3_wordSort, Cond.instanceMethod yX3_wordSort, Cond.selects RX3 yX3_wordSort yX3_wordSort, Cond.code yX3_wordSort cX3_wordSort 2 (some .int), Cond.methodLink RX3 144 yX3_spells, Cond.instanceMethod yX3_spells, Cond.selects RX3 yX3_spells yX3_spells, Cond.code yX3_spells cX3_spells 4 (some .boolean), Cond.methodLink RX3 170 yJ0_length_8abf5, Cond.methodLink RX3 173 yJ0_charAt_5068e, Cond.instanceMethod yJ0_charAt_5068e, Cond.selects RJ0 yJ0_charAt_5068e yJ0_charAt_5068e]
def wsL_law_r17 : List Cond := [Cond.code yJ0_charAt_5068e cJ0_charAt_5068e 2 (some .char), Cond.methodLink RJ0 495 yJ1_charAt_3b067, Cond.static yJ1_charAt_3b067, Cond.code yJ1_charAt_3b067 cJ1_charAt_3b067 2 (some .char), Cond.methodLink RJ1 9 yJ0_checkIndex_df160, Cond.static yJ0_checkIndex_df160, Cond.code yJ0_checkIndex_df160 cJ0_checkIndex_df160 2 none, Cond.methodLink RJ0 1059 yJ3_checkIndex_8e157, Cond.static yJ3_checkIndex_8e157, Cond.code yJ3_checkIndex_8e157 cJ3_checkIndex_8e157 3 (some .int), Cond.methodLink RJ0 498 yJ2_charAt_3b067, Cond.static yJ2_charAt_3b067, Cond.code yJ2_charAt_3b067 cJ2_charAt_3b067 2 (some .char), Cond.methodLink RJ2 67 yJ2_checkIndex_2214a, Cond.static yJ2_checkIndex_2214a, Cond.code yJ2_checkIndex_2214a cJ2_checkIndex_2214a 2 none, Cond.methodLink RJ2 414 yJ0_checkIndex_df160, Cond.methodLink RX3 117 yX3_add, Cond.instanceMethod yX3_add, Cond.selects RX3 yX3_add yX3_add, Cond.code yX3_add cX3_add 6 none, Cond.methodLink RX3 79 yX3_isBlockDue, Cond.instanceMethod yX3_isBlockDue, Cond.selects RX3 yX3_isBlockDue yX3_isBlockDue]
def wsL_law_r18 : List Cond := [Cond.code yX3_isBlockDue cX3_isBlockDue 1 (some .boolean), Cond.methodLink RX3 52 yX3_sortOf, Cond.instanceMethod yX3_sortOf, Cond.selects RX3 yX3_sortOf yX3_sortOf, Cond.code yX3_sortOf cX3_sortOf 2 (some .int), Cond.methodLink RX3 83 yX7_opensBlock, Cond.static yX7_opensBlock, Cond.initialized RX7, Cond.code yX7_opensBlock cX7_opensBlock 1 (some .boolean), Cond.methodLink RX3 127 yX3_numberLength, Cond.instanceMethod yX3_numberLength, Cond.selects RX3 yX3_numberLength yX3_numberLength, Cond.code yX3_numberLength cX3_numberLength 3 (some .int), Cond.methodLink RX3 130 yX3_operatorLength, Cond.instanceMethod yX3_operatorLength, Cond.selects RX3 yX3_operatorLength yX3_operatorLength, Cond.code yX3_operatorLength cX3_operatorLength 3 (some .int), Cond.methodLink RX3 133 yX3_operatorSort, Cond.instanceMethod yX3_operatorSort, Cond.selects RX3 yX3_operatorSort yX3_operatorSort, Cond.code yX3_operatorSort cX3_operatorSort 2 (some .int), Cond.methodLink RX3 136 yX3_signSort, Cond.static yX3_signSort, Cond.code yX3_signSort cX3_signSort 1 (some .int)]
def wsL_law_r19 : List Cond := [Cond.methodLink RX11 93 yX3_faultNumber, Cond.instanceMethod yX3_faultNumber, Cond.selects RX3 yX3_faultNumber yX3_faultNumber, Cond.code yX3_faultNumber cX3_faultNumber 1 (some .int), Cond.methodLink RX11 99 yX3_faultPlace, Cond.instanceMethod yX3_faultPlace, Cond.selects RX3 yX3_faultPlace yX3_faultPlace, Cond.code yX3_faultPlace cX3_faultPlace 1 (some .int), Cond.methodLink RX11 102 yX5_parse, Cond.instanceMethod yX5_parse, Cond.selects RX5 yX5_parse yX5_parse, Cond.code yX5_parse cX5_parse 5 none, Cond.fieldLink RX5 37 "LayoutDesk$Parser" "faultNumber" "I", Cond.fieldLink RX5 41 "LayoutDesk$Parser" "faultPlace" "I", Cond.constant RX5 68 (100000), Cond.methodLink RX5 44 yX9_empty, Cond.instanceMethod yX9_empty, Cond.selects RX9 yX9_empty yX9_empty, Cond.code yX9_empty cX9_empty 1 none, Cond.fieldLink RX9 35 "LayoutDesk$Tree" "size" "I", Cond.methodLink RX5 49 yX4_empty, Cond.instanceMethod yX4_empty, Cond.selects RX4 yX4_empty yX4_empty, Cond.code yX4_empty cX4_empty 1 none]
def wsL_law_r20 : List Cond := [Cond.fieldLink RX4 26 "LayoutDesk$Openings" "size" "I", Cond.fieldLink RX4 30 "LayoutDesk$Openings" "letsPending" "I", Cond.fieldLink RX4 33 "LayoutDesk$Openings" "depth" "I", Cond.methodLink RX5 50 yX6_empty, Cond.instanceMethod yX6_empty, Cond.selects RX6 yX6_empty yX6_empty, Cond.code yX6_empty cX6_empty 1 none, Cond.fieldLink RX6 20 "LayoutDesk$Pile" "size" "I", Cond.methodLink RX5 51 yX1_start, Cond.instanceMethod yX1_start, Cond.selects RX1 yX1_start yX1_start, Cond.code yX1_start cX1_start 1 none, Cond.fieldLink RX1 40 "LayoutDesk$Feed" "depth" "I", Cond.fieldLink RX1 43 "LayoutDesk$Feed" "top" "I", Cond.fieldLink RX1 28 "LayoutDesk$Feed" "position" "I", Cond.methodLink RX1 46 yX1_meetLexeme, Cond.instanceMethod yX1_meetLexeme, Cond.selects RX1 yX1_meetLexeme yX1_meetLexeme, Cond.code yX1_meetLexeme cX1_meetLexeme 3 none, Cond.fieldLink RX1 49 "LayoutDesk$Feed" "phase" "I", Cond.fieldLink RX1 54 "LayoutDesk$Feed" "column" "I", Cond.methodLink RX1 92 yX3_openingOf, Cond.instanceMethod yX3_openingOf, Cond.selects RX3 yX3_openingOf yX3_openingOf]
def wsL_law_r21 : List Cond := [Cond.code yX3_openingOf cX3_openingOf 2 (some .int), Cond.methodLink RX1 89 yX3_indentOf, Cond.instanceMethod yX3_indentOf, Cond.selects RX3 yX3_indentOf yX3_indentOf, Cond.code yX3_indentOf cX3_indentOf 2 (some .int), Cond.methodLink RX5 60 yX9_add, Cond.instanceMethod yX9_add, Cond.selects RX9 yX9_add yX9_add, Cond.code yX9_add cX9_add 2 (some .int), Cond.methodLink RX9 39 yX9_addWritten, Cond.instanceMethod yX9_addWritten, Cond.selects RX9 yX9_addWritten yX9_addWritten, Cond.code yX9_addWritten cX9_addWritten 5 (some .int), Cond.methodLink RX5 64 yX5_openBlock, Cond.instanceMethod yX5_openBlock, Cond.selects RX5 yX5_openBlock yX5_openBlock, Cond.code yX5_openBlock cX5_openBlock 3 none, Cond.methodLink RX5 93 yX1_sort, Cond.instanceMethod yX1_sort, Cond.selects RX1 yX1_sort yX1_sort, Cond.code yX1_sort cX1_sort 1 (some .int), Cond.methodLink RX1 57 yX1_plainSort, Cond.instanceMethod yX1_plainSort, Cond.selects RX1 yX1_plainSort yX1_plainSort]
def wsL_law_r22 : List Cond := [Cond.code yX1_plainSort cX1_plainSort 2 (some .int), Cond.methodLink RX1 74 yX3_size, Cond.instanceMethod yX3_size, Cond.selects RX3 yX3_size yX3_size, Cond.code yX3_size cX3_size 1 (some .int), Cond.methodLink RX1 82 yX3_sortOf, Cond.methodLink RX5 98 yX5_refuse, Cond.instanceMethod yX5_refuse, Cond.selects RX5 yX5_refuse yX5_refuse, Cond.code yX5_refuse cX5_refuse 1 none, Cond.methodLink RX5 104 yX1_position, Cond.instanceMethod yX1_position, Cond.selects RX1 yX1_position yX1_position, Cond.code yX1_position cX1_position 1 (some .int), Cond.methodLink RX5 107 yX3_placeOf, Cond.instanceMethod yX3_placeOf, Cond.selects RX3 yX3_placeOf yX3_placeOf, Cond.code yX3_placeOf cX3_placeOf 2 (some .int), Cond.methodLink RX5 213 yX5_enter, Cond.instanceMethod yX5_enter, Cond.selects RX5 yX5_enter yX5_enter, Cond.code yX5_enter cX5_enter 1 none, Cond.methodLink RX5 209 yX1_size, Cond.instanceMethod yX1_size]
def wsL_law_r23 : List Cond := [Cond.selects RX1 yX1_size yX1_size, Cond.code yX1_size cX1_size 1 (some .int), Cond.methodLink RX5 210 yX4_enter, Cond.instanceMethod yX4_enter, Cond.selects RX4 yX4_enter yX4_enter, Cond.code yX4_enter cX4_enter 3 none, Cond.methodLink RX4 36 yX4_add, Cond.instanceMethod yX4_add, Cond.selects RX4 yX4_add yX4_add, Cond.code yX4_add cX4_add 3 none, Cond.methodLink RX5 199 yX1_take, Cond.instanceMethod yX1_take, Cond.selects RX1 yX1_take yX1_take, Cond.code yX1_take cX1_take 1 none, Cond.methodLink RX1 61 yX1_takeOpening, Cond.instanceMethod yX1_takeOpening, Cond.selects RX1 yX1_takeOpening yX1_takeOpening, Cond.code yX1_takeOpening cX1_takeOpening 1 none, Cond.methodLink RX1 37 Lib.Math.max.name, Cond.methodLink RX1 64 yX1_keep, Cond.instanceMethod yX1_keep, Cond.selects RX1 yX1_keep yX1_keep, Cond.code yX1_keep cX1_keep 2 none, Cond.methodLink RX1 95 yX1_enterContext]
def wsL_law_r24 : List Cond := [Cond.instanceMethod yX1_enterContext, Cond.selects RX1 yX1_enterContext yX1_enterContext, Cond.code yX1_enterContext cX1_enterContext 2 none, Cond.methodLink RX1 68 yX1_passIndent, Cond.instanceMethod yX1_passIndent, Cond.selects RX1 yX1_passIndent yX1_passIndent, Cond.code yX1_passIndent cX1_passIndent 1 none, Cond.methodLink RX1 71 yX1_takeIndent, Cond.instanceMethod yX1_takeIndent, Cond.selects RX1 yX1_takeIndent yX1_takeIndent, Cond.code yX1_takeIndent cX1_takeIndent 1 none, Cond.methodLink RX1 79 yX1_leaveContext, Cond.instanceMethod yX1_leaveContext, Cond.selects RX1 yX1_leaveContext yX1_leaveContext, Cond.code yX1_leaveContext cX1_leaveContext 1 none, Cond.methodLink RX1 76 yX1_takeLexeme, Cond.instanceMethod yX1_takeLexeme, Cond.selects RX1 yX1_takeLexeme yX1_takeLexeme, Cond.code yX1_takeLexeme cX1_takeLexeme 2 none, Cond.methodLink RX5 165 yX6_push, Cond.instanceMethod yX6_push, Cond.selects RX6 yX6_push yX6_push, Cond.code yX6_push cX6_push 3 none, Cond.methodLink RX5 69 yX6_isEmpty]
def wsL_law_r25 : List Cond := [Cond.instanceMethod yX6_isEmpty, Cond.selects RX6 yX6_isEmpty yX6_isEmpty, Cond.code yX6_isEmpty cX6_isEmpty 1 (some .boolean), Cond.methodLink RX5 73 yX6_topDue, Cond.instanceMethod yX6_topDue, Cond.selects RX6 yX6_topDue yX6_topDue, Cond.code yX6_topDue cX6_topDue 1 (some .int), Cond.methodLink RX5 77 yX6_topNode, Cond.instanceMethod yX6_topNode, Cond.selects RX6 yX6_topNode yX6_topNode, Cond.code yX6_topNode cX6_topNode 1 (some .int), Cond.methodLink RX5 80 yX6_pop, Cond.instanceMethod yX6_pop, Cond.selects RX6 yX6_pop yX6_pop, Cond.code yX6_pop cX6_pop 1 none, Cond.methodLink RX5 83 yX5_meetToken, Cond.instanceMethod yX5_meetToken, Cond.selects RX5 yX5_meetToken yX5_meetToken, Cond.code yX5_meetToken cX5_meetToken 2 none, Cond.methodLink RX5 195 yX1_isPartAhead, Cond.instanceMethod yX1_isPartAhead, Cond.selects RX1 yX1_isPartAhead yX1_isPartAhead, Cond.code yX1_isPartAhead cX1_isPartAhead 3 (some .boolean), Cond.methodLink RX1 86 yX1_sort]
def wsL_law_r26 : List Cond := [Cond.methodLink RX5 87 yX5_meetPartOfBlock, Cond.instanceMethod yX5_meetPartOfBlock, Cond.selects RX5 yX5_meetPartOfBlock yX5_meetPartOfBlock, Cond.code yX5_meetPartOfBlock cX5_meetPartOfBlock 3 none, Cond.fieldLink RX5 130 "LayoutDesk$Due" "IN_CASE" "[I", Cond.methodLink RX5 124 yX5_meetThings, Cond.instanceMethod yX5_meetThings, Cond.selects RX5 yX5_meetThings yX5_meetThings, Cond.code yX5_meetThings cX5_meetThings 3 none, Cond.methodLink RX5 221 yX5_beginsThing, Cond.static yX5_beginsThing, Cond.code yX5_beginsThing cX5_beginsThing 2 (some .boolean), Cond.methodLink RX5 215 yX7_beginsPattern, Cond.static yX7_beginsPattern, Cond.code yX7_beginsPattern cX7_beginsPattern 1 (some .boolean), Cond.methodLink RX5 218 yX7_beginsExpression, Cond.static yX7_beginsExpression, Cond.code yX7_beginsExpression cX7_beginsExpression 1 (some .boolean), Cond.methodLink RX7 13 yX7_beginsAtom, Cond.static yX7_beginsAtom, Cond.code yX7_beginsAtom cX7_beginsAtom 1 (some .boolean), Cond.methodLink RX7 9 yX7_beginsPattern, Cond.methodLink RX5 141 yX5_meetBehindThing, Cond.instanceMethod yX5_meetBehindThing]
def wsL_law_r27 : List Cond := [Cond.selects RX5 yX5_meetBehindThing yX5_meetBehindThing, Cond.code yX5_meetBehindThing cX5_meetBehindThing 4 none, Cond.methodLink RX5 225 yX5_closeBlock, Cond.instanceMethod yX5_closeBlock, Cond.selects RX5 yX5_closeBlock yX5_closeBlock, Cond.code yX5_closeBlock cX5_closeBlock 2 none, Cond.methodLink RX5 189 yX9_close, Cond.instanceMethod yX9_close, Cond.selects RX9 yX9_close yX9_close, Cond.code yX9_close cX9_close 2 none, Cond.methodLink RX9 53 yX9_has, Cond.instanceMethod yX9_has, Cond.selects RX9 yX9_has yX9_has, Cond.code yX9_has cX9_has 2 (some .boolean), Cond.methodLink RX5 192 yX4_leave, Cond.instanceMethod yX4_leave, Cond.selects RX4 yX4_leave yX4_leave, Cond.code yX4_leave cX4_leave 1 none, Cond.methodLink RX5 228 yX1_closeByError, Cond.instanceMethod yX1_closeByError, Cond.selects RX1 yX1_closeByError yX1_closeByError, Cond.code yX1_closeByError cX1_closeByError 2 (some .boolean), Cond.methodLink RX5 127 yX5_meetDeclaration, Cond.instanceMethod yX5_meetDeclaration]
def wsL_law_r28 : List Cond := [Cond.selects RX5 yX5_meetDeclaration yX5_meetDeclaration, Cond.code yX5_meetDeclaration cX5_meetDeclaration 2 none, Cond.fieldLink RX5 234 "LayoutDesk$Due" "IN_DECLARATION" "[I", Cond.methodLink RX5 162 yX9_size, Cond.instanceMethod yX9_size, Cond.selects RX9 yX9_size yX9_size, Cond.code yX9_size cX9_size 1 (some .int), Cond.methodLink RX5 231 yX5_takeLeaf, Cond.instanceMethod yX5_takeLeaf, Cond.selects RX5 yX5_takeLeaf yX5_takeLeaf, Cond.code yX5_takeLeaf cX5_takeLeaf 3 none, Cond.methodLink RX5 202 yX3_lengthOf, Cond.instanceMethod yX3_lengthOf, Cond.selects RX3 yX3_lengthOf yX3_lengthOf, Cond.code yX3_lengthOf cX3_lengthOf 2 (some .int), Cond.methodLink RX5 205 yX9_addWritten, Cond.methodLink RX5 134 yX6_pushRow, Cond.instanceMethod yX6_pushRow, Cond.selects RX6 yX6_pushRow yX6_pushRow, Cond.code yX6_pushRow cX6_pushRow 5 none, Cond.methodLink RX6 24 yX6_push, Cond.methodLink RX5 138 yX5_meetStep, Cond.instanceMethod yX5_meetStep, Cond.selects RX5 yX5_meetStep yX5_meetStep]
def wsL_law_r29 : List Cond := [Cond.code yX5_meetStep cX5_meetStep 1 none, Cond.methodLink RX5 237 yX4_enterLetStep, Cond.instanceMethod yX4_enterLetStep, Cond.selects RX4 yX4_enterLetStep yX4_enterLetStep, Cond.code yX4_enterLetStep cX4_enterLetStep 3 none, Cond.methodLink RX5 144 yX5_meetWhere, Cond.instanceMethod yX5_meetWhere, Cond.selects RX5 yX5_meetWhere yX5_meetWhere, Cond.code yX5_meetWhere cX5_meetWhere 1 none, Cond.methodLink RX5 147 yX5_meetTaking, Cond.instanceMethod yX5_meetTaking, Cond.selects RX5 yX5_meetTaking yX5_meetTaking, Cond.code yX5_meetTaking cX5_meetTaking 2 none, Cond.methodLink RX5 240 yX9_isWholePattern, Cond.instanceMethod yX9_isWholePattern, Cond.selects RX9 yX9_isWholePattern yX9_isWholePattern, Cond.code yX9_isWholePattern cX9_isWholePattern 3 (some .boolean), Cond.methodLink RX9 57 Lib.Math.max.name, Cond.methodLink RX9 63 yX9_kindOf, Cond.instanceMethod yX9_kindOf, Cond.selects RX9 yX9_kindOf yX9_kindOf, Cond.code yX9_kindOf cX9_kindOf 2 (some .int), Cond.methodLink RX5 243 yX9_insert, Cond.instanceMethod yX9_insert]
def wsL_law_r30 : List Cond := [Cond.selects RX9 yX9_insert yX9_insert, Cond.code yX9_insert cX9_insert 4 none, Cond.methodLink RX9 43 arraycopyName, Cond.native arraycopyName, Cond.static arraycopyName, Cond.initialized "java/lang/System", Cond.methodLink RX9 49 yX9_close, Cond.methodLink RX5 150 yX5_meetLetting, Cond.instanceMethod yX5_meetLetting, Cond.selects RX5 yX5_meetLetting yX5_meetLetting, Cond.code yX5_meetLetting cX5_meetLetting 3 none, Cond.methodLink RX5 246 yX4_settleLetStep, Cond.instanceMethod yX4_settleLetStep, Cond.selects RX4 yX4_settleLetStep yX4_settleLetStep, Cond.code yX4_settleLetStep cX4_settleLetStep 3 none, Cond.methodLink RX4 40 Lib.Math.max.name, Cond.methodLink RX5 250 yX9_setKind, Cond.instanceMethod yX9_setKind, Cond.selects RX9 yX9_setKind yX9_setKind, Cond.code yX9_setKind cX9_setKind 3 none, Cond.methodLink RX5 90 yX5_meetPartOfThing, Cond.instanceMethod yX5_meetPartOfThing, Cond.selects RX5 yX5_meetPartOfThing yX5_meetPartOfThing, Cond.code yX5_meetPartOfThing cX5_meetPartOfThing 3 none]
def wsL_law_r31 : List Cond := [Cond.methodLink RX5 153 yX5_meetPattern, Cond.instanceMethod yX5_meetPattern, Cond.selects RX5 yX5_meetPattern yX5_meetPattern, Cond.code yX5_meetPattern cX5_meetPattern 2 none, Cond.fieldLink RX5 253 "LayoutDesk$Due" "IN_BRACKETS" "[I", Cond.methodLink RX5 256 yX2_ofLeaf, Cond.static yX2_ofLeaf, Cond.initialized RX2, Cond.code yX2_ofLeaf cX2_ofLeaf 1 (some .int), Cond.methodLink RX5 156 yX5_meetPatterns, Cond.instanceMethod yX5_meetPatterns, Cond.selects RX5 yX5_meetPatterns yX5_meetPatterns, Cond.code yX5_meetPatterns cX5_meetPatterns 1 none, Cond.methodLink RX5 159 yX5_meetWholePattern, Cond.instanceMethod yX5_meetWholePattern, Cond.selects RX5 yX5_meetWholePattern yX5_meetWholePattern, Cond.code yX5_meetWholePattern cX5_meetWholePattern 2 none, Cond.methodLink RX5 168 yX5_meetOperand, Cond.instanceMethod yX5_meetOperand, Cond.selects RX5 yX5_meetOperand yX5_meetOperand, Cond.code yX5_meetOperand cX5_meetOperand 3 none, Cond.methodLink RX5 259 yX7_beginsAtom, Cond.methodLink RX5 262 yX2_ofOperand, Cond.static yX2_ofOperand]
def wsL_law_r32 : List Cond := [Cond.code yX2_ofOperand cX2_ofOperand 1 (some .int), Cond.methodLink RX5 265 yX0_inOperand, Cond.static yX0_inOperand, Cond.initialized RX0, Cond.code yX0_inOperand cX0_inOperand 1 (some (.array .int)), Cond.fieldLink RX0 9 "LayoutDesk$Due" "IN_LAMBDA" "[I", Cond.fieldLink RX0 13 "LayoutDesk$Due" "IN_LET" "[I", Cond.fieldLink RX0 16 "LayoutDesk$Due" "IN_IF" "[I", Cond.fieldLink RX0 19 "LayoutDesk$Due" "IN_CASE_OF" "[I", Cond.fieldLink RX0 22 "LayoutDesk$Due" "IN_DO" "[I", Cond.methodLink RX5 171 yX5_meetAtom, Cond.instanceMethod yX5_meetAtom, Cond.selects RX5 yX5_meetAtom yX5_meetAtom, Cond.code yX5_meetAtom cX5_meetAtom 3 none, Cond.methodLink RX5 269 yX5_closerOf, Cond.instanceMethod yX5_closerOf, Cond.selects RX5 yX5_closerOf yX5_closerOf, Cond.code yX5_closerOf cX5_closerOf 2 (some .int), Cond.methodLink RX5 272 yX9_kindOf, Cond.methodLink RX5 174 yX5_meetChain, Cond.instanceMethod yX5_meetChain, Cond.selects RX5 yX5_meetChain yX5_meetChain, Cond.code yX5_meetChain cX5_meetChain 2 none, Cond.methodLink RX5 177 yX5_meetLinks]
def wsL_law_r33 : List Cond := [Cond.instanceMethod yX5_meetLinks, Cond.selects RX5 yX5_meetLinks yX5_meetLinks, Cond.code yX5_meetLinks cX5_meetLinks 1 none, Cond.methodLink RX5 180 yX5_meetApplied, Cond.instanceMethod yX5_meetApplied, Cond.selects RX5 yX5_meetApplied yX5_meetApplied, Cond.code yX5_meetApplied cX5_meetApplied 2 none, Cond.methodLink RX5 183 yX5_meetAtoms, Cond.instanceMethod yX5_meetAtoms, Cond.selects RX5 yX5_meetAtoms yX5_meetAtoms, Cond.code yX5_meetAtoms cX5_meetAtoms 1 none, Cond.methodLink RX5 186 yX5_meetRow, Cond.instanceMethod yX5_meetRow, Cond.selects RX5 yX5_meetRow yX5_meetRow, Cond.code yX5_meetRow cX5_meetRow 2 none, Cond.methodLink RX5 101 yX5_refuseTooFarIn, Cond.instanceMethod yX5_refuseTooFarIn, Cond.selects RX5 yX5_refuseTooFarIn yX5_refuseTooFarIn, Cond.code yX5_refuseTooFarIn cX5_refuseTooFarIn 2 none, Cond.methodLink RX5 112 yX4_firstTooFarIn, Cond.instanceMethod yX4_firstTooFarIn, Cond.selects RX4 yX4_firstTooFarIn yX4_firstTooFarIn, Cond.code yX4_firstTooFarIn cX4_firstTooFarIn 2 (some .int), Cond.methodLink RX5 115 yX4_positionOf]
def wsL_law_r34 : List Cond := [Cond.instanceMethod yX4_positionOf, Cond.selects RX4 yX4_positionOf yX4_positionOf, Cond.code yX4_positionOf cX4_positionOf 2 (some .int), Cond.methodLink RX5 118 yX4_tokenOf, Cond.instanceMethod yX4_tokenOf, Cond.selects RX4 yX4_tokenOf yX4_tokenOf, Cond.code yX4_tokenOf cX4_tokenOf 2 (some .int), Cond.methodLink RX5 121 yX1_cut, Cond.instanceMethod yX1_cut, Cond.selects RX1 yX1_cut yX1_cut, Cond.code yX1_cut cX1_cut 2 none, Cond.methodLink RX1 31 Lib.Math.min.name, Cond.methodLink RX11 105 yX5_faultNumber, Cond.instanceMethod yX5_faultNumber, Cond.selects RX5 yX5_faultNumber yX5_faultNumber, Cond.code yX5_faultNumber cX5_faultNumber 1 (some .int), Cond.methodLink RX11 106 yX5_faultPlace, Cond.instanceMethod yX5_faultPlace, Cond.selects RX5 yX5_faultPlace yX5_faultPlace, Cond.code yX5_faultPlace cX5_faultPlace 1 (some .int), Cond.methodLink RX11 107 yX9_keep, Cond.instanceMethod yX9_keep, Cond.selects RX9 yX9_keep yX9_keep, Cond.code yX9_keep cX9_keep 5 none]
def wsL_law_r35 : List Cond := [Cond.methodLink RX9 69 yX8_copyTo, Cond.instanceMethod yX8_copyTo, Cond.selects RX8 yX8_copyTo yX8_copyTo, Cond.code yX8_copyTo cX8_copyTo 2 none, Cond.methodLink RX8 19 Lib.Math.min.name, Cond.methodLink RX8 25 arraycopyName, Cond.methodLink RX9 73 yX9_endOf, Cond.instanceMethod yX9_endOf, Cond.selects RX9 yX9_endOf yX9_endOf, Cond.code yX9_endOf cX9_endOf 2 (some .int), Cond.methodLink RX9 79 Lib.Math.min.name, Cond.methodLink RX9 76 yX9_sizeOf, Cond.instanceMethod yX9_sizeOf, Cond.selects RX9 yX9_sizeOf yX9_sizeOf, Cond.code yX9_sizeOf cX9_sizeOf 2 (some .int), Cond.methodLink RX11 110 yX9_size, Cond.methodLink RL 43 yX12_read, Cond.instanceMethod yX12_read, Cond.selects RX12 yX12_read yX12_read, Cond.code yX12_read cX12_read 1 (some .int), Cond.fieldLink RX12 292 "LayoutDeskModel" "reads" "I", Cond.fieldLink RX12 106 "LayoutDeskModel" "fault" "I", Cond.fieldLink RX12 256 "LayoutDeskModel" "tokens" "I", Cond.fieldLink RX12 109 "LayoutDeskModel" "faultAt" "I"]
def wsL_law_r36 : List Cond := [Cond.fieldLink RX12 289 "LayoutDeskModel" "many" "I", Cond.methodLink RX12 295 yX12_isCut, Cond.instanceMethod yX12_isCut, Cond.selects RX12 yX12_isCut yX12_isCut, Cond.code yX12_isCut cX12_isCut 14 (some .boolean), Cond.fieldLink RX12 142 "LayoutDeskModel" "lexemes" "I", Cond.methodLink RX12 145 yX12_skips, Cond.instanceMethod yX12_skips, Cond.selects RX12 yX12_skips yX12_skips, Cond.code yX12_skips cX12_skips 6 (some .int), Cond.methodLink RX12 130 yX12_byteAt, Cond.instanceMethod yX12_byteAt, Cond.selects RX12 yX12_byteAt yX12_byteAt, Cond.code yX12_byteAt cX12_byteAt 2 (some .int), Cond.methodLink RX12 134 yX12_fails, Cond.instanceMethod yX12_fails, Cond.selects RX12 yX12_fails yX12_fails, Cond.code yX12_fails cX12_fails 3 (some .boolean), Cond.methodLink RX12 138 yX12_isOperator, Cond.static yX12_isOperator, Cond.code yX12_isOperator cX12_isOperator 1 (some .boolean), Cond.methodLink RX12 148 yX12_isLow, Cond.static yX12_isLow, Cond.code yX12_isLow cX12_isLow 1 (some .boolean)]
def wsL_law_r37 : List Cond := [Cond.methodLink RX12 151 yX12_isHigh, Cond.static yX12_isHigh, Cond.code yX12_isHigh cX12_isHigh 1 (some .boolean), Cond.methodLink RX12 154 yX12_isFigure, Cond.static yX12_isFigure, Cond.code yX12_isFigure cX12_isFigure 1 (some .boolean), Cond.methodLink RX12 157 yX12_wordOf, Cond.static yX12_wordOf, Cond.code yX12_wordOf cX12_wordOf 2 (some .int), Cond.constantLong RX12 112 (7103860), Cond.constantLong RX12 114 (26990), Cond.constantLong RX12 116 (512852587109), Cond.constantLong RX12 118 (25711), Cond.constantLong RX12 120 (28518), Cond.constantLong RX12 122 (1667330917), Cond.constantLong RX12 124 (26982), Cond.constantLong RX12 126 (1952998766), Cond.constantLong RX12 128 (1701606245), Cond.methodLink RX12 161 yX12_isSign, Cond.static yX12_isSign, Cond.code yX12_isSign cX12_isSign 1 (some .boolean), Cond.methodLink RX12 299 yX12_isProgram, Cond.instanceMethod yX12_isProgram, Cond.selects RX12 yX12_isProgram yX12_isProgram]
def wsL_law_r38 : List Cond := [Cond.code yX12_isProgram cX12_isProgram 6 (some .boolean), Cond.fieldLink RX12 269 "LayoutDeskModel" "contexts" "I", Cond.fieldLink RX12 167 "LayoutDeskModel" "top" "I", Cond.fieldLink RX12 195 "LayoutDeskModel" "opened" "I", Cond.fieldLink RX12 164 "LayoutDeskModel" "nodes" "I", Cond.fieldLink RX12 179 "LayoutDeskModel" "codeBehind" "I", Cond.methodLink RX12 204 yX12_node, Cond.instanceMethod yX12_node, Cond.selects RX12 yX12_node yX12_node, Cond.code yX12_node cX12_node 4 (some .int), Cond.methodLink RX12 208 yX12_push, Cond.instanceMethod yX12_push, Cond.selects RX12 yX12_push yX12_push, Cond.code yX12_push cX12_push 4 none, Cond.methodLink RX12 276 yX12_put, Cond.instanceMethod yX12_put, Cond.selects RX12 yX12_put yX12_put, Cond.code yX12_put cX12_put 5 (some .boolean), Cond.methodLink RX12 262 yX12_finds, Cond.instanceMethod yX12_finds, Cond.selects RX12 yX12_finds yX12_finds, Cond.code yX12_finds cX12_finds 4 (some .int), Cond.methodLink RX12 185 yX12_accepts, Cond.instanceMethod yX12_accepts]
def wsL_law_r39 : List Cond := [Cond.selects RX12 yX12_accepts yX12_accepts, Cond.code yX12_accepts cX12_accepts 5 (some .boolean), Cond.methodLink RX12 173 yX12_beginsPattern, Cond.static yX12_beginsPattern, Cond.code yX12_beginsPattern cX12_beginsPattern 1 (some .boolean), Cond.methodLink RX12 176 yX12_beginsOperand, Cond.static yX12_beginsOperand, Cond.code yX12_beginsOperand cX12_beginsOperand 1 (some .boolean), Cond.methodLink RX12 170 yX12_beginsAtom, Cond.static yX12_beginsAtom, Cond.code yX12_beginsAtom cX12_beginsAtom 1 (some .boolean), Cond.methodLink RX12 182 yX12_isPattern, Cond.instanceMethod yX12_isPattern, Cond.selects RX12 yX12_isPattern yX12_isPattern, Cond.code yX12_isPattern cX12_isPattern 5 (some .boolean), Cond.methodLink RX12 189 yX12_mayEnd, Cond.instanceMethod yX12_mayEnd, Cond.selects RX12 yX12_mayEnd yX12_mayEnd, Cond.code yX12_mayEnd cX12_mayEnd 3 (some .boolean), Cond.methodLink RX12 192 yX12_after, Cond.instanceMethod yX12_after, Cond.selects RX12 yX12_after yX12_after, Cond.code yX12_after cX12_after 3 (some .int), Cond.methodLink RX12 265 yX12_comes]
def wsL_law_r40 : List Cond := [Cond.instanceMethod yX12_comes, Cond.selects RX12 yX12_comes yX12_comes, Cond.code yX12_comes cX12_comes 5 (some .boolean), Cond.methodLink RX12 238 yX12_ends, Cond.instanceMethod yX12_ends, Cond.selects RX12 yX12_ends yX12_ends, Cond.code yX12_ends cX12_ends 3 none, Cond.methodLink RX12 198 yX12_isOpen, Cond.static yX12_isOpen, Cond.code yX12_isOpen cX12_isOpen 1 (some .boolean), Cond.methodLink RX12 201 yX12_within, Cond.instanceMethod yX12_within, Cond.selects RX12 yX12_within yX12_within, Cond.code yX12_within cX12_within 2 (some .int), Cond.methodLink RX12 253 yX12_opensBy, Cond.static yX12_opensBy, Cond.code yX12_opensBy cX12_opensBy 1 (some .boolean), Cond.methodLink RX12 259 yX12_does, Cond.instanceMethod yX12_does, Cond.selects RX12 yX12_does yX12_does, Cond.code yX12_does cX12_does 4 none, Cond.methodLink RX12 244 yX12_inBlock, Cond.instanceMethod yX12_inBlock, Cond.selects RX12 yX12_inBlock yX12_inBlock]
def wsL_law_r41 : List Cond := [Cond.code yX12_inBlock cX12_inBlock 4 none, Cond.methodLink RX12 241 yX12_begins, Cond.instanceMethod yX12_begins, Cond.selects RX12 yX12_begins yX12_begins, Cond.code yX12_begins cX12_begins 4 none, Cond.methodLink RX12 231 yX12_whole, Cond.instanceMethod yX12_whole, Cond.selects RX12 yX12_whole yX12_whole, Cond.code yX12_whole cX12_whole 4 none, Cond.methodLink RX12 219 yX12_wrap, Cond.instanceMethod yX12_wrap, Cond.selects RX12 yX12_wrap yX12_wrap, Cond.code yX12_wrap cX12_wrap 4 none, Cond.methodLink RX12 222 yX12_pattern, Cond.instanceMethod yX12_pattern, Cond.selects RX12 yX12_pattern yX12_pattern, Cond.code yX12_pattern cX12_pattern 3 none, Cond.methodLink RX12 212 yX12_opens, Cond.instanceMethod yX12_opens, Cond.selects RX12 yX12_opens yX12_opens, Cond.code yX12_opens cX12_opens 4 none, Cond.methodLink RX12 215 yX12_leafs, Cond.instanceMethod yX12_leafs, Cond.selects RX12 yX12_leafs yX12_leafs]
def wsL_law_r42 : List Cond := [Cond.code yX12_leafs cX12_leafs 4 none, Cond.methodLink RX12 225 yX12_expects, Cond.instanceMethod yX12_expects, Cond.selects RX12 yX12_expects yX12_expects, Cond.code yX12_expects cX12_expects 1 none, Cond.methodLink RX12 234 yX12_operand, Cond.instanceMethod yX12_operand, Cond.selects RX12 yX12_operand yX12_operand, Cond.code yX12_operand cX12_operand 4 none, Cond.methodLink RX12 228 yX12_atom, Cond.instanceMethod yX12_atom, Cond.selects RX12 yX12_atom yX12_atom, Cond.code yX12_atom cX12_atom 3 none, Cond.methodLink RX12 247 yX12_goesTo, Cond.instanceMethod yX12_goesTo, Cond.selects RX12 yX12_goesTo yX12_goesTo, Cond.code yX12_goesTo cX12_goesTo 3 none, Cond.methodLink RX12 250 yX12_inBrackets, Cond.instanceMethod yX12_inBrackets, Cond.selects RX12 yX12_inBrackets yX12_inBrackets, Cond.code yX12_inBrackets cX12_inBrackets 4 none, Cond.methodLink RX12 272 yX12_now, Cond.instanceMethod yX12_now, Cond.selects RX12 yX12_now yX12_now]
def wsL_law_r43 : List Cond := [Cond.code yX12_now cX12_now 1 (some .int), Cond.methodLink RX12 282 yX12_readLexeme, Cond.instanceMethod yX12_readLexeme, Cond.selects RX12 yX12_readLexeme yX12_readLexeme, Cond.code yX12_readLexeme cX12_readLexeme 4 (some .boolean), Cond.methodLink RX12 279 yX12_behindOf, Cond.instanceMethod yX12_behindOf, Cond.selects RX12 yX12_behindOf yX12_behindOf, Cond.code yX12_behindOf cX12_behindOf 4 (some .int), Cond.methodLink RX12 302 yX12_takeTree, Cond.instanceMethod yX12_takeTree, Cond.selects RX12 yX12_takeTree yX12_takeTree, Cond.code yX12_takeTree cX12_takeTree 5 none, Cond.fieldLink RX12 285 "LayoutDeskModel" "hasTree" "Z", Cond.methodLink RL 44 yX11_fault, Cond.instanceMethod yX11_fault, Cond.selects RX11 yX11_fault yX11_fault, Cond.code yX11_fault cX11_fault 1 (some .int), Cond.methodLink RL 47 yX12_fault, Cond.instanceMethod yX12_fault, Cond.selects RX12 yX12_fault yX12_fault, Cond.code yX12_fault cX12_fault 1 (some .int), Cond.methodLink RL 48 yX11_lexeme, Cond.instanceMethod yX11_lexeme]
def wsL_law_r44 : List Cond := [Cond.selects RX11 yX11_lexeme yX11_lexeme, Cond.code yX11_lexeme cX11_lexeme 3 (some .int), Cond.methodLink RX11 113 yX3_size, Cond.methodLink RX11 114 yX3_placeOf, Cond.methodLink RX11 117 yX3_columnOf, Cond.instanceMethod yX3_columnOf, Cond.selects RX3 yX3_columnOf yX3_columnOf, Cond.code yX3_columnOf cX3_columnOf 2 (some .int), Cond.methodLink RX11 120 yX3_kindOf, Cond.instanceMethod yX3_kindOf, Cond.selects RX3 yX3_kindOf yX3_kindOf, Cond.code yX3_kindOf cX3_kindOf 2 (some .int), Cond.methodLink RX3 56 yX7_kindOf, Cond.static yX7_kindOf, Cond.code yX7_kindOf cX7_kindOf 1 (some .int), Cond.methodLink RX11 123 yX3_lengthOf, Cond.methodLink RX11 126 yX3_openingOf, Cond.methodLink RX11 129 yX3_indentOf, Cond.methodLink RL 51 yX12_lexeme, Cond.instanceMethod yX12_lexeme, Cond.selects RX12 yX12_lexeme yX12_lexeme, Cond.code yX12_lexeme cX12_lexeme 3 (some .int), Cond.constantLong RX12 305 (5), Cond.methodLink RL 52 yX11_token]
def wsL_law_r45 : List Cond := [Cond.instanceMethod yX11_token, Cond.selects RX11 yX11_token yX11_token, Cond.code yX11_token cX11_token 2 (some .int), Cond.methodLink RX11 132 yX1_tokenAt, Cond.instanceMethod yX1_tokenAt, Cond.selects RX1 yX1_tokenAt yX1_tokenAt, Cond.code yX1_tokenAt cX1_tokenAt 2 (some .int), Cond.methodLink RL 55 yX12_token, Cond.instanceMethod yX12_token, Cond.selects RX12 yX12_token yX12_token, Cond.code yX12_token cX12_token 2 (some .int), Cond.methodLink RL 56 yX11_count, Cond.instanceMethod yX11_count, Cond.selects RX11 yX11_count yX11_count, Cond.code yX11_count cX11_count 2 (some .int), Cond.methodLink RX11 135 yX1_size, Cond.methodLink RL 59 yX12_count, Cond.instanceMethod yX12_count, Cond.selects RX12 yX12_count yX12_count, Cond.code yX12_count cX12_count 2 (some .int), Cond.methodLink RL 60 yX11_node, Cond.instanceMethod yX11_node, Cond.selects RX11 yX11_node yX11_node, Cond.code yX11_node cX11_node 3 (some .int)]
def wsL_law_r46 : List Cond := [Cond.constant RX11 139 (-2147483648), Cond.methodLink RX11 136 yX9_has, Cond.methodLink RX11 140 yX9_kindOf, Cond.methodLink RX11 141 yX9_parentOf, Cond.instanceMethod yX9_parentOf, Cond.selects RX9 yX9_parentOf yX9_parentOf, Cond.code yX9_parentOf cX9_parentOf 2 (some .int), Cond.methodLink RX11 144 yX9_sizeOf, Cond.methodLink RX11 147 yX9_numberOf, Cond.instanceMethod yX9_numberOf, Cond.selects RX9 yX9_numberOf yX9_numberOf, Cond.code yX9_numberOf cX9_numberOf 4 (some .int), Cond.methodLink RX9 88 yX9_writtenByte, Cond.instanceMethod yX9_writtenByte, Cond.selects RX9 yX9_writtenByte yX9_writtenByte, Cond.code yX9_writtenByte cX9_writtenByte 4 (some .int), Cond.methodLink RX11 150 yX9_nameLengthOf, Cond.instanceMethod yX9_nameLengthOf, Cond.selects RX9 yX9_nameLengthOf yX9_nameLengthOf, Cond.code yX9_nameLengthOf cX9_nameLengthOf 2 (some .int), Cond.methodLink RX9 82 yX2_isNamed, Cond.static yX2_isNamed, Cond.code yX2_isNamed cX2_isNamed 1 (some .boolean), Cond.methodLink RL 63 yX12_node_]
def wsL_law_r47 : List Cond := [Cond.instanceMethod yX12_node_, Cond.selects RX12 yX12_node_ yX12_node_, Cond.code yX12_node_ cX12_node_ 3 (some .int), Cond.constant RX12 310 (-2147483648), Cond.methodLink RX12 307 yX12_isNode, Cond.instanceMethod yX12_isNode, Cond.selects RX12 yX12_isNode yX12_isNode, Cond.code yX12_isNode cX12_isNode 2 (some .boolean), Cond.methodLink RL 64 yX11_letter, Cond.instanceMethod yX11_letter, Cond.selects RX11 yX11_letter yX11_letter, Cond.code yX11_letter cX11_letter 3 (some .int), Cond.methodLink RX11 153 yX9_nameByte, Cond.instanceMethod yX9_nameByte, Cond.selects RX9 yX9_nameByte yX9_nameByte, Cond.code yX9_nameByte cX9_nameByte 3 (some .int), Cond.methodLink RX9 85 yX9_nameLengthOf, Cond.methodLink RL 67 yX12_letter, Cond.instanceMethod yX12_letter, Cond.selects RX12 yX12_letter yX12_letter, Cond.code yX12_letter cX12_letter 3 (some .int), Cond.methodLink RL 68 yX11_child, Cond.instanceMethod yX11_child, Cond.selects RX11 yX11_child yX11_child]
def wsL_law_r48 : List Cond := [Cond.code yX11_child cX11_child 3 (some .int), Cond.methodLink RX11 157 yX9_part, Cond.instanceMethod yX9_part, Cond.selects RX9 yX9_part yX9_part, Cond.code yX9_part cX9_part 6 (some .int), Cond.methodLink RL 71 yX12_child, Cond.instanceMethod yX12_child, Cond.selects RX12 yX12_child yX12_child, Cond.code yX12_child cX12_child 3 (some .int), Cond.methodLink RX12 311 yX12_childOf, Cond.instanceMethod yX12_childOf, Cond.selects RX12 yX12_childOf yX12_childOf, Cond.code yX12_childOf cX12_childOf 5 (some .int), Cond.methodLink RL 72 yX11_write, Cond.instanceMethod yX11_write, Cond.selects RX11 yX11_write yX11_write, Cond.code yX11_write cX11_write 2 (some .int), Cond.methodLink RX11 160 yX10_compose, Cond.instanceMethod yX10_compose, Cond.selects RX10 yX10_compose yX10_compose, Cond.code yX10_compose cX10_compose 3 none, Cond.fieldLink RX10 19 "LayoutDesk$Writer" "byColumns" "Z", Cond.fieldLink RX10 23 "LayoutDesk$Writer" "length" "I", Cond.fieldLink RX10 27 "LayoutDesk$Writer" "lineBegins" "Z"]
def wsL_law_r49 : List Cond := [Cond.fieldLink RX10 30 "LayoutDesk$Writer" "blockEnded" "Z", Cond.methodLink RX10 33 yX10_putLines, Cond.instanceMethod yX10_putLines, Cond.selects RX10 yX10_putLines yX10_putLines, Cond.code yX10_putLines cX10_putLines 6 none, Cond.methodLink RX10 86 Lib.Math.max.name, Cond.methodLink RX10 77 yX9_endOf, Cond.methodLink RX10 48 yX10_beginLine, Cond.instanceMethod yX10_beginLine, Cond.selects RX10 yX10_beginLine yX10_beginLine, Cond.code yX10_beginLine cX10_beginLine 3 none, Cond.methodLink RX10 44 yX10_put, Cond.instanceMethod yX10_put, Cond.selects RX10 yX10_put yX10_put, Cond.code yX10_put cX10_put 2 none, Cond.methodLink RX10 80 yX10_putNode, Cond.instanceMethod yX10_putNode, Cond.selects RX10 yX10_putNode yX10_putNode, Cond.methodLink RX10 83 yX9_sizeOf, Cond.code yX10_putBlock cX10_putBlock 4 none, Cond.methodLink RX10 37 yX10_putBraces, Cond.instanceMethod yX10_putBraces, Cond.selects RX10 yX10_putBraces yX10_putBraces, Cond.code yX10_putBody cX10_putBody 8 none]
def wsL_law_r50 : List Cond := [Cond.methodLink RX10 109 yX9_kindOf, Cond.methodLink RX10 93 yX10_putWord, Cond.instanceMethod yX10_putWord, Cond.selects RX10 yX10_putWord yX10_putWord, Cond.code yX10_putWord cX10_putWord 4 none, Cond.methodLink RX10 51 yX10_beginToken, Cond.instanceMethod yX10_beginToken, Cond.selects RX10 yX10_beginToken yX10_beginToken, Cond.code yX10_beginToken cX10_beginToken 2 none, Cond.methodLink RX10 54 yJ0_length_8abf5, Cond.methodLink RX10 59 yJ0_charAt_5068e, Cond.code yX10_putBraces cX10_putBraces 4 none, Cond.methodLink RX10 99 yX10_putParts, Cond.instanceMethod yX10_putParts, Cond.selects RX10 yX10_putParts yX10_putParts, Cond.code yX10_putNode cX10_putNode 4 none, Cond.methodLink RX10 116 yX10_putName, Cond.instanceMethod yX10_putName, Cond.selects RX10 yX10_putName yX10_putName, Cond.code yX10_putName cX10_putName 5 none, Cond.methodLink RX10 63 yX9_nameLengthOf, Cond.methodLink RX10 69 yX9_nameByte, Cond.methodLink RX10 120 yX10_putNumber, Cond.instanceMethod yX10_putNumber]
def wsL_law_r51 : List Cond := [Cond.selects RX10 yX10_putNumber yX10_putNumber, Cond.code yX10_putNumber cX10_putNumber 5 none, Cond.constant RX10 76 (100000), Cond.methodLink RX10 73 yX9_numberOf, Cond.methodLink RX10 135 yX10_putBlock, Cond.instanceMethod yX10_putBlock, Cond.selects RX10 yX10_putBlock yX10_putBlock, Cond.methodLink RX10 138 yX10_putThing, Cond.instanceMethod yX10_putThing, Cond.selects RX10 yX10_putThing yX10_putThing, Cond.code yX10_putParts cX10_putParts 7 none, Cond.methodLink RX10 105 yJ0_isEmpty_aae02, Cond.instanceMethod yJ0_isEmpty_aae02, Cond.selects RJ0 yJ0_isEmpty_aae02 yJ0_isEmpty_aae02, Cond.code yJ0_isEmpty_aae02 cJ0_isEmpty_aae02 1 (some .boolean), Cond.code yX10_putThing cX10_putThing 4 none, Cond.methodLink RX10 143 yX10_putBody, Cond.instanceMethod yX10_putBody, Cond.selects RX10 yX10_putBody yX10_putBody, Cond.methodLink RX10 158 yX10_putWorded, Cond.instanceMethod yX10_putWorded, Cond.selects RX10 yX10_putWorded yX10_putWorded, Cond.code yX10_putWorded cX10_putWorded 10 none, Cond.methodLink RX11 164 yX10_handOver]
def wsL_law_r52 : List Cond := [Cond.instanceMethod yX10_handOver, Cond.selects RX10 yX10_handOver yX10_handOver, Cond.code yX10_handOver cX10_handOver 2 (some .boolean), Cond.methodLink RX10 40 yX8_become, Cond.instanceMethod yX8_become, Cond.selects RX8 yX8_become yX8_become, Cond.code yX8_become cX8_become 3 none, Cond.methodLink RX8 31 Lib.Math.max.name, Cond.methodLink RL 75 yX12_write, Cond.instanceMethod yX12_write, Cond.selects RX12 yX12_write yX12_write, Cond.code yX12_write cX12_write 3 (some .int), Cond.fieldLink RX12 360 "LayoutDeskModel" "byColumns" "Z", Cond.fieldLink RX12 321 "LayoutDeskModel" "outs" "I", Cond.fieldLink RX12 328 "LayoutDeskModel" "isFresh" "Z", Cond.fieldLink RX12 331 "LayoutDeskModel" "isBehind" "Z", Cond.fieldLink RX12 334 "LayoutDeskModel" "column" "I", Cond.fieldLink RX12 343 "LayoutDeskModel" "waits" "I", Cond.methodLink RX12 354 yX12_later, Cond.instanceMethod yX12_later, Cond.selects RX12 yX12_later yX12_later, Cond.code yX12_later cX12_later 2 none, Cond.methodLink RX12 390 yX12_tells, Cond.instanceMethod yX12_tells]
def wsL_law_r53 : List Cond := [Cond.selects RX12 yX12_tells yX12_tells, Cond.code yX12_tells cX12_tells 3 none, Cond.constantLong RX12 381 (40), Cond.constantLong RX12 383 (91), Cond.constantLong RX12 385 (92), Cond.methodLink RX12 369 yX12_block, Cond.instanceMethod yX12_block, Cond.selects RX12 yX12_block yX12_block, Cond.code yX12_block cX12_block 5 none, Cond.constantLong RX12 363 (123), Cond.methodLink RX12 357 yX12_manyIn, Cond.instanceMethod yX12_manyIn, Cond.selects RX12 yX12_manyIn yX12_manyIn, Cond.code yX12_manyIn cX12_manyIn 3 (some .int), Cond.methodLink RX12 348 yX12_says, Cond.instanceMethod yX12_says, Cond.selects RX12 yX12_says yX12_says, Cond.code yX12_says cX12_says 4 none, Cond.methodLink RX12 340 yX12_gap, Cond.instanceMethod yX12_gap, Cond.selects RX12 yX12_gap yX12_gap, Cond.code yX12_gap cX12_gap 1 none, Cond.methodLink RX12 337 yX12_line, Cond.instanceMethod yX12_line]
def wsL_law_r54 : List Cond := [Cond.selects RX12 yX12_line yX12_line, Cond.code yX12_line cX12_line 3 none, Cond.methodLink RX12 324 yX12_say, Cond.instanceMethod yX12_say, Cond.selects RX12 yX12_say yX12_say, Cond.code yX12_say cX12_say 2 none, Cond.methodLink RX12 365 yX12_laterChildren, Cond.instanceMethod yX12_laterChildren, Cond.selects RX12 yX12_laterChildren yX12_laterChildren, Cond.code yX12_laterChildren cX12_laterChildren 6 none, Cond.methodLink RX12 372 yX12_sayName, Cond.instanceMethod yX12_sayName, Cond.selects RX12 yX12_sayName yX12_sayName, Cond.code yX12_sayName cX12_sayName 3 none, Cond.methodLink RX12 375 yX12_declares, Cond.instanceMethod yX12_declares, Cond.selects RX12 yX12_declares yX12_declares, Cond.code yX12_declares cX12_declares 5 none, Cond.methodLink RX12 378 yX12_sayNumber, Cond.instanceMethod yX12_sayNumber, Cond.selects RX12 yX12_sayNumber yX12_sayNumber, Cond.code yX12_sayNumber cX12_sayNumber 3 none, Cond.methodLink RX12 387 yX12_sayCode, Cond.instanceMethod yX12_sayCode]
def wsL_law_r55 : List Cond := [Cond.selects RX12 yX12_sayCode yX12_sayCode, Cond.code yX12_sayCode cX12_sayCode 2 none, Cond.constantLong RX12 346 (11582), Cond.constantLong RX12 352 (15405), Cond.methodLink RL 76 yX11_digest, Cond.instanceMethod yX11_digest, Cond.selects RX11 yX11_digest yX11_digest, Cond.code yX11_digest cX11_digest 6 (some .long), Cond.constantLong RX11 168 (17), Cond.constantLong RX11 170 (31), Cond.methodLink RL 80 yX12_digest, Cond.instanceMethod yX12_digest, Cond.selects RX12 yX12_digest yX12_digest, Cond.code yX12_digest cX12_digest 5 (some .long), Cond.constantLong RX12 315 (17), Cond.constantLong RX12 317 (31), Cond.methodLink RX12 319 yX12_node_]
def wsL_law : List Cond := (wsL_law_r1 ++ (wsL_law_r2 ++ (wsL_law_r3 ++ (wsL_law_r4 ++ (wsL_law_r5 ++ (wsL_law_r6 ++ (wsL_law_r7 ++ (wsL_law_r8 ++ (wsL_law_r9 ++ (wsL_law_r10 ++ (wsL_law_r11 ++ (wsL_law_r12 ++ (wsL_law_r13 ++ (wsL_law_r14 ++ (wsL_law_r15 ++ (wsL_law_r16 ++ (wsL_law_r17 ++ (wsL_law_r18 ++ (wsL_law_r19 ++ (wsL_law_r20 ++ (wsL_law_r21 ++ (wsL_law_r22 ++ (wsL_law_r23 ++ (wsL_law_r24 ++ (wsL_law_r25 ++ (wsL_law_r26 ++ (wsL_law_r27 ++ (wsL_law_r28 ++ (wsL_law_r29 ++ (wsL_law_r30 ++ (wsL_law_r31 ++ (wsL_law_r32 ++ (wsL_law_r33 ++ (wsL_law_r34 ++ (wsL_law_r35 ++ (wsL_law_r36 ++ (wsL_law_r37 ++ (wsL_law_r38 ++ (wsL_law_r39 ++ (wsL_law_r40 ++ (wsL_law_r41 ++ (wsL_law_r42 ++ (wsL_law_r43 ++ (wsL_law_r44 ++ (wsL_law_r45 ++ (wsL_law_r46 ++ (wsL_law_r47 ++ (wsL_law_r48 ++ (wsL_law_r49 ++ (wsL_law_r50 ++ (wsL_law_r51 ++ (wsL_law_r52 ++ (wsL_law_r53 ++ (wsL_law_r54 ++ wsL_law_r55)))))))))))))))))))))))))))))))))))))))))))))))))))))) ++ wsX110 ++ wsX120 ++ wsX80 ++ wsX30 ++ wsX10 ++ wsX90 ++ wsX50 ++ wsX100 ++ wsX40 ++ wsX60 ++ ([] : List Cond)
set_option maxRecDepth 20000 in
theorem wsL_law_in : ∀ w ∈ wsL_law, w ∈ lw_tbl := fun w h => (goodIn_p wsL_law [140, 143, 148, 162, 212, 246, 274, 280, 308, 346, 1252, 398, 402, 406, 410, 1397, 1401, 414, 1406, 418, 422, 1411, 426, 430, 1415, 434, 438, 1419, 442, 446, 450, 456, 460, 464, 468, 472, 475, 480, 484, 488, 494, 498, 501, 507, 510, 504, 513, 516, 522, 525, 528, 531, 536, 539, 542, 551, 554, 557, 561, 566, 570, 573, 577, 580, 583, 586, 590, 595, 600, 603, 606, 609, 612, 615, 628, 632, 636, 639, 643, 647, 651, 657, 661, 665, 669, 673, 677, 681, 685, 689, 693, 697, 701, 705, 709, 713, 717, 721, 726, 730, 734, 738, 742, 746, 750, 754, 758, 762, 767, 771, 775, 779, 783, 787, 792, 796, 800, 804, 808, 812, 817, 821, 824, 827, 830, 833, 838, 842, 846, 850, 854, 858, 862, 866, 870, 874, 881, 888, 892, 896, 900, 904, 909, 913, 921, 925, 930, 934, 938, 943, 947, 951, 955, 959, 962, 976, 980, 985, 989, 993, 997, 1001, 1005, 1009, 1013, 1017, 1021, 1026, 1030, 1034, 1038, 1044, 1048, 1423, 1427, 1431, 1435, 1439, 1442, 1445, 1448, 1451, 1454, 1466, 1470, 1474, 1478, 1482, 1486, 1490, 1493, 1496, 1499, 1503, 1507, 1511, 1515, 1519, 1522, 1526, 1529, 1533, 1537, 1541, 1545, 1549, 1553, 1557, 1561, 1565, 1569, 1573, 1577, 1581, 1585, 1589, 1593, 1597, 1055, 1601, 1059, 1065, 1069, 1072, 1605, 1079, 1083, 1610, 1087, 1614, 1092, 1099, 1104, 1108, 1112, 1115, 1618, 1622, 1119, 1123, 1627, 1128, 1132, 1631, 1635, 1136, 1140, 1144, 1149, 1153, 1200, 1216, 1187, 1166, 1204, 1157, 1162, 1172, 1179, 1183, 1211, 1227, 1236, 1240, 1646, 1650, 1654, 1658, 1662, 1667, 1671, 1675, 1679, 1683, 1687, 1691, 1695, 1702, 1245, 1639] (by decide +kernel) (by decide +kernel) w h).1
theorem inlX1 : ∀ w ∈ wsX10, w ∈ wsL_law := fun _ h => List.mem_append_left _ (List.mem_append_left _ (List.mem_append_left _ (List.mem_append_left _ (List.mem_append_left _ (List.mem_append_left _ (List.mem_append_right _ h))))))
theorem inlX3 : ∀ w ∈ wsX30, w ∈ wsL_law := fun _ h => List.mem_append_left _ (List.mem_append_left _ (List.mem_append_left _ (List.mem_append_left _ (List.mem_append_left _ (List.mem_append_left _ (List.mem_append_left _ (List.mem_append_right _ h)))))))
theorem inlX4 : ∀ w ∈ wsX40, w ∈ wsL_law := fun _ h => List.mem_append_left _ (List.mem_append_left _ (List.mem_append_right _ h))
theorem inlX5 : ∀ w ∈ wsX50, w ∈ wsL_law := fun _ h => List.mem_append_left _ (List.mem_append_left _ (List.mem_append_left _ (List.mem_append_left _ (List.mem_append_right _ h))))
theorem inlX6 : ∀ w ∈ wsX60, w ∈ wsL_law := fun _ h => List.mem_append_left _ (List.mem_append_right _ h)
theorem inlX8 : ∀ w ∈ wsX80, w ∈ wsL_law := fun _ h => List.mem_append_left _ (List.mem_append_left _ (List.mem_append_left _ (List.mem_append_left _ (List.mem_append_left _ (List.mem_append_left _ (List.mem_append_left _ (List.mem_append_left _ (List.mem_append_right _ h))))))))
theorem inlX9 : ∀ w ∈ wsX90, w ∈ wsL_law := fun _ h => List.mem_append_left _ (List.mem_append_left _ (List.mem_append_left _ (List.mem_append_left _ (List.mem_append_left _ (List.mem_append_right _ h)))))
theorem inlX10 : ∀ w ∈ wsX100, w ∈ wsL_law := fun _ h => List.mem_append_left _ (List.mem_append_left _ (List.mem_append_left _ (List.mem_append_right _ h)))
theorem inlX11 : ∀ w ∈ wsX110, w ∈ wsL_law := fun _ h => List.mem_append_left _ (List.mem_append_left _ (List.mem_append_left _ (List.mem_append_left _ (List.mem_append_left _ (List.mem_append_left _ (List.mem_append_left _ (List.mem_append_left _ (List.mem_append_left _ (List.mem_append_left _ (List.mem_append_right _ h))))))))))
theorem inlX12 : ∀ w ∈ wsX120, w ∈ wsL_law := fun _ h => List.mem_append_left _ (List.mem_append_left _ (List.mem_append_left _ (List.mem_append_left _ (List.mem_append_left _ (List.mem_append_left _ (List.mem_append_left _ (List.mem_append_left _ (List.mem_append_left _ (List.mem_append_right _ h)))))))))
theorem dX1_init_0 : decode cX1_init 0 = .ok (.aload_n 0, 1) := by decide +kernel
theorem dX1_init_1 : decode cX1_init 1 = .ok (.invokespecial 5, 3) := by decide +kernel
theorem dX1_init_4 : decode cX1_init 4 = .ok (.aload_n 0, 1) := by decide +kernel
theorem dX1_init_5 : decode cX1_init 5 = .ok (.aload_n 1, 1) := by decide +kernel
theorem dX1_init_6 : decode cX1_init 6 = .ok (.putfield 11, 3) := by decide +kernel
theorem dX1_init_9 : decode cX1_init 9 = .ok (.aload_n 0, 1) := by decide +kernel
theorem dX1_init_10 : decode cX1_init 10 = .ok (.sipush 3204, 3) := by decide +kernel
theorem dX1_init_13 : decode cX1_init 13 = .ok (.newarray .int, 2) := by decide +kernel
theorem dX1_init_15 : decode cX1_init 15 = .ok (.putfield 17, 3) := by decide +kernel
theorem dX1_init_18 : decode cX1_init 18 = .ok (.aload_n 0, 1) := by decide +kernel
theorem dX1_init_19 : decode cX1_init 19 = .ok (.sipush 801, 3) := by decide +kernel
theorem dX1_init_22 : decode cX1_init 22 = .ok (.newarray .int, 2) := by decide +kernel
theorem dX1_init_24 : decode cX1_init 24 = .ok (.putfield 21, 3) := by decide +kernel
theorem dX1_init_27 : decode cX1_init 27 = .ok (.return_, 1) := by decide +kernel
theorem dX3_init_0 : decode cX3_init 0 = .ok (.aload_n 0, 1) := by decide +kernel
theorem dX3_init_1 : decode cX3_init 1 = .ok (.invokespecial 3, 3) := by decide +kernel
theorem dX3_init_4 : decode cX3_init 4 = .ok (.aload_n 0, 1) := by decide +kernel
theorem dX3_init_5 : decode cX3_init 5 = .ok (.aload_n 1, 1) := by decide +kernel
theorem dX3_init_6 : decode cX3_init 6 = .ok (.putfield 9, 3) := by decide +kernel
theorem dX3_init_9 : decode cX3_init 9 = .ok (.aload_n 0, 1) := by decide +kernel
theorem dX3_init_10 : decode cX3_init 10 = .ok (.sipush 800, 3) := by decide +kernel
theorem dX3_init_13 : decode cX3_init 13 = .ok (.newarray .int, 2) := by decide +kernel
theorem dX3_init_15 : decode cX3_init 15 = .ok (.putfield 15, 3) := by decide +kernel
theorem dX3_init_18 : decode cX3_init 18 = .ok (.aload_n 0, 1) := by decide +kernel
theorem dX3_init_19 : decode cX3_init 19 = .ok (.sipush 800, 3) := by decide +kernel
theorem dX3_init_22 : decode cX3_init 22 = .ok (.newarray .int, 2) := by decide +kernel
theorem dX3_init_24 : decode cX3_init 24 = .ok (.putfield 19, 3) := by decide +kernel
theorem dX3_init_27 : decode cX3_init 27 = .ok (.aload_n 0, 1) := by decide +kernel
theorem dX3_init_28 : decode cX3_init 28 = .ok (.sipush 800, 3) := by decide +kernel
theorem dX3_init_31 : decode cX3_init 31 = .ok (.newarray .int, 2) := by decide +kernel
theorem dX3_init_33 : decode cX3_init 33 = .ok (.putfield 22, 3) := by decide +kernel
theorem dX3_init_36 : decode cX3_init 36 = .ok (.aload_n 0, 1) := by decide +kernel
theorem dX3_init_37 : decode cX3_init 37 = .ok (.sipush 800, 3) := by decide +kernel
theorem dX3_init_40 : decode cX3_init 40 = .ok (.newarray .int, 2) := by decide +kernel
theorem dX3_init_42 : decode cX3_init 42 = .ok (.putfield 25, 3) := by decide +kernel
theorem dX3_init_45 : decode cX3_init 45 = .ok (.aload_n 0, 1) := by decide +kernel
theorem dX3_init_46 : decode cX3_init 46 = .ok (.sipush 800, 3) := by decide +kernel
theorem dX3_init_49 : decode cX3_init 49 = .ok (.newarray .int, 2) := by decide +kernel
theorem dX3_init_51 : decode cX3_init 51 = .ok (.putfield 28, 3) := by decide +kernel
theorem dX3_init_54 : decode cX3_init 54 = .ok (.aload_n 0, 1) := by decide +kernel
theorem dX3_init_55 : decode cX3_init 55 = .ok (.sipush 800, 3) := by decide +kernel
theorem dX3_init_58 : decode cX3_init 58 = .ok (.newarray .int, 2) := by decide +kernel
theorem dX3_init_60 : decode cX3_init 60 = .ok (.putfield 31, 3) := by decide +kernel
theorem dX3_init_63 : decode cX3_init 63 = .ok (.return_, 1) := by decide +kernel
theorem dX4_init_0 : decode cX4_init 0 = .ok (.aload_n 0, 1) := by decide +kernel
theorem dX4_init_1 : decode cX4_init 1 = .ok (.invokespecial 5, 3) := by decide +kernel
theorem dX4_init_4 : decode cX4_init 4 = .ok (.aload_n 0, 1) := by decide +kernel
theorem dX4_init_5 : decode cX4_init 5 = .ok (.sipush 1602, 3) := by decide +kernel
theorem dX4_init_8 : decode cX4_init 8 = .ok (.newarray .int, 2) := by decide +kernel
theorem dX4_init_10 : decode cX4_init 10 = .ok (.putfield 13, 3) := by decide +kernel
theorem dX4_init_13 : decode cX4_init 13 = .ok (.aload_n 0, 1) := by decide +kernel
theorem dX4_init_14 : decode cX4_init 14 = .ok (.sipush 1602, 3) := by decide +kernel
theorem dX4_init_17 : decode cX4_init 17 = .ok (.newarray .int, 2) := by decide +kernel
theorem dX4_init_19 : decode cX4_init 19 = .ok (.putfield 17, 3) := by decide +kernel
theorem dX4_init_22 : decode cX4_init 22 = .ok (.aload_n 0, 1) := by decide +kernel
theorem dX4_init_23 : decode cX4_init 23 = .ok (.sipush 1602, 3) := by decide +kernel
theorem dX4_init_26 : decode cX4_init 26 = .ok (.newarray .int, 2) := by decide +kernel
theorem dX4_init_28 : decode cX4_init 28 = .ok (.putfield 20, 3) := by decide +kernel
theorem dX4_init_31 : decode cX4_init 31 = .ok (.aload_n 0, 1) := by decide +kernel
theorem dX4_init_32 : decode cX4_init 32 = .ok (.sipush 800, 3) := by decide +kernel
theorem dX4_init_35 : decode cX4_init 35 = .ok (.newarray .int, 2) := by decide +kernel
theorem dX4_init_37 : decode cX4_init 37 = .ok (.putfield 23, 3) := by decide +kernel
theorem dX4_init_40 : decode cX4_init 40 = .ok (.return_, 1) := by decide +kernel
theorem dX5_init_0 : decode cX5_init 0 = .ok (.aload_n 0, 1) := by decide +kernel
theorem dX5_init_1 : decode cX5_init 1 = .ok (.invokespecial 3, 3) := by decide +kernel
theorem dX5_init_4 : decode cX5_init 4 = .ok (.aload_n 0, 1) := by decide +kernel
theorem dX5_init_5 : decode cX5_init 5 = .ok (.aload_n 1, 1) := by decide +kernel
theorem dX5_init_6 : decode cX5_init 6 = .ok (.putfield 9, 3) := by decide +kernel
theorem dX5_init_9 : decode cX5_init 9 = .ok (.aload_n 0, 1) := by decide +kernel
theorem dX5_init_10 : decode cX5_init 10 = .ok (.aload_n 2, 1) := by decide +kernel
theorem dX5_init_11 : decode cX5_init 11 = .ok (.putfield 15, 3) := by decide +kernel
theorem dX5_init_14 : decode cX5_init 14 = .ok (.aload_n 0, 1) := by decide +kernel
theorem dX5_init_15 : decode cX5_init 15 = .ok (.new 19, 3) := by decide +kernel
theorem dX5_init_18 : decode cX5_init 18 = .ok (.dup, 1) := by decide +kernel
theorem dX5_init_19 : decode cX5_init 19 = .ok (.invokespecial 21, 3) := by decide +kernel
theorem dX5_init_22 : decode cX5_init 22 = .ok (.putfield 22, 3) := by decide +kernel
theorem dX5_init_25 : decode cX5_init 25 = .ok (.aload_n 0, 1) := by decide +kernel
theorem dX5_init_26 : decode cX5_init 26 = .ok (.new 26, 3) := by decide +kernel
theorem dX5_init_29 : decode cX5_init 29 = .ok (.dup, 1) := by decide +kernel
theorem dX5_init_30 : decode cX5_init 30 = .ok (.invokespecial 28, 3) := by decide +kernel
theorem dX5_init_33 : decode cX5_init 33 = .ok (.putfield 29, 3) := by decide +kernel
theorem dX5_init_36 : decode cX5_init 36 = .ok (.aload_n 0, 1) := by decide +kernel
theorem dX5_init_37 : decode cX5_init 37 = .ok (.aload_n 3, 1) := by decide +kernel
theorem dX5_init_38 : decode cX5_init 38 = .ok (.putfield 33, 3) := by decide +kernel
theorem dX5_init_41 : decode cX5_init 41 = .ok (.return_, 1) := by decide +kernel
theorem dX6_init_0 : decode cX6_init 0 = .ok (.aload_n 0, 1) := by decide +kernel
theorem dX6_init_1 : decode cX6_init 1 = .ok (.invokespecial 5, 3) := by decide +kernel
theorem dX6_init_4 : decode cX6_init 4 = .ok (.aload_n 0, 1) := by decide +kernel
theorem dX6_init_5 : decode cX6_init 5 = .ok (.sipush 4812, 3) := by decide +kernel
theorem dX6_init_8 : decode cX6_init 8 = .ok (.newarray .int, 2) := by decide +kernel
theorem dX6_init_10 : decode cX6_init 10 = .ok (.putfield 13, 3) := by decide +kernel
theorem dX6_init_13 : decode cX6_init 13 = .ok (.aload_n 0, 1) := by decide +kernel
theorem dX6_init_14 : decode cX6_init 14 = .ok (.sipush 4812, 3) := by decide +kernel
theorem dX6_init_17 : decode cX6_init 17 = .ok (.newarray .int, 2) := by decide +kernel
theorem dX6_init_19 : decode cX6_init 19 = .ok (.putfield 17, 3) := by decide +kernel
theorem dX6_init_22 : decode cX6_init 22 = .ok (.return_, 1) := by decide +kernel
theorem dX8_init_0 : decode cX8_init 0 = .ok (.aload_n 0, 1) := by decide +kernel
theorem dX8_init_1 : decode cX8_init 1 = .ok (.invokespecial 3, 3) := by decide +kernel
theorem dX8_init_4 : decode cX8_init 4 = .ok (.aload_n 0, 1) := by decide +kernel
theorem dX8_init_5 : decode cX8_init 5 = .ok (.sipush 3000, 3) := by decide +kernel
theorem dX8_init_8 : decode cX8_init 8 = .ok (.newarray .char, 2) := by decide +kernel
theorem dX8_init_10 : decode cX8_init 10 = .ok (.putfield 11, 3) := by decide +kernel
theorem dX8_init_13 : decode cX8_init 13 = .ok (.return_, 1) := by decide +kernel
theorem dX9_init_0 : decode cX9_init 0 = .ok (.aload_n 0, 1) := by decide +kernel
theorem dX9_init_1 : decode cX9_init 1 = .ok (.invokespecial 5, 3) := by decide +kernel
theorem dX9_init_4 : decode cX9_init 4 = .ok (.aload_n 0, 1) := by decide +kernel
theorem dX9_init_5 : decode cX9_init 5 = .ok (.sipush 1601, 3) := by decide +kernel
theorem dX9_init_8 : decode cX9_init 8 = .ok (.newarray .int, 2) := by decide +kernel
theorem dX9_init_10 : decode cX9_init 10 = .ok (.putfield 13, 3) := by decide +kernel
theorem dX9_init_13 : decode cX9_init 13 = .ok (.aload_n 0, 1) := by decide +kernel
theorem dX9_init_14 : decode cX9_init 14 = .ok (.sipush 1601, 3) := by decide +kernel
theorem dX9_init_17 : decode cX9_init 17 = .ok (.newarray .int, 2) := by decide +kernel
theorem dX9_init_19 : decode cX9_init 19 = .ok (.putfield 17, 3) := by decide +kernel
theorem dX9_init_22 : decode cX9_init 22 = .ok (.aload_n 0, 1) := by decide +kernel
theorem dX9_init_23 : decode cX9_init 23 = .ok (.sipush 1601, 3) := by decide +kernel
theorem dX9_init_26 : decode cX9_init 26 = .ok (.newarray .int, 2) := by decide +kernel
theorem dX9_init_28 : decode cX9_init 28 = .ok (.putfield 20, 3) := by decide +kernel
theorem dX9_init_31 : decode cX9_init 31 = .ok (.aload_n 0, 1) := by decide +kernel
theorem dX9_init_32 : decode cX9_init 32 = .ok (.sipush 1601, 3) := by decide +kernel
theorem dX9_init_35 : decode cX9_init 35 = .ok (.newarray .int, 2) := by decide +kernel
theorem dX9_init_37 : decode cX9_init 37 = .ok (.putfield 23, 3) := by decide +kernel
theorem dX9_init_40 : decode cX9_init 40 = .ok (.aload_n 0, 1) := by decide +kernel
theorem dX9_init_41 : decode cX9_init 41 = .ok (.sipush 1601, 3) := by decide +kernel
theorem dX9_init_44 : decode cX9_init 44 = .ok (.newarray .int, 2) := by decide +kernel
theorem dX9_init_46 : decode cX9_init 46 = .ok (.putfield 26, 3) := by decide +kernel
theorem dX9_init_49 : decode cX9_init 49 = .ok (.aload_n 0, 1) := by decide +kernel
theorem dX9_init_50 : decode cX9_init 50 = .ok (.sipush 3000, 3) := by decide +kernel
theorem dX9_init_53 : decode cX9_init 53 = .ok (.newarray .char, 2) := by decide +kernel
theorem dX9_init_55 : decode cX9_init 55 = .ok (.putfield 31, 3) := by decide +kernel
theorem dX9_init_58 : decode cX9_init 58 = .ok (.return_, 1) := by decide +kernel
theorem dX10_init_0 : decode cX10_init 0 = .ok (.aload_n 0, 1) := by decide +kernel
theorem dX10_init_1 : decode cX10_init 1 = .ok (.invokespecial 1, 3) := by decide +kernel
theorem dX10_init_4 : decode cX10_init 4 = .ok (.aload_n 0, 1) := by decide +kernel
theorem dX10_init_5 : decode cX10_init 5 = .ok (.sipush 3000, 3) := by decide +kernel
theorem dX10_init_8 : decode cX10_init 8 = .ok (.newarray .char, 2) := by decide +kernel
theorem dX10_init_10 : decode cX10_init 10 = .ok (.putfield 9, 3) := by decide +kernel
theorem dX10_init_13 : decode cX10_init 13 = .ok (.aload_n 0, 1) := by decide +kernel
theorem dX10_init_14 : decode cX10_init 14 = .ok (.aload_n 1, 1) := by decide +kernel
theorem dX10_init_15 : decode cX10_init 15 = .ok (.putfield 15, 3) := by decide +kernel
theorem dX10_init_18 : decode cX10_init 18 = .ok (.return_, 1) := by decide +kernel
theorem dX11_init_0 : decode cX11_init 0 = .ok (.aload_n 0, 1) := by decide +kernel
theorem dX11_init_1 : decode cX11_init 1 = .ok (.invokespecial 1, 3) := by decide +kernel
theorem dX11_init_4 : decode cX11_init 4 = .ok (.aload_n 0, 1) := by decide +kernel
theorem dX11_init_5 : decode cX11_init 5 = .ok (.new 7, 3) := by decide +kernel
theorem dX11_init_8 : decode cX11_init 8 = .ok (.dup, 1) := by decide +kernel
theorem dX11_init_9 : decode cX11_init 9 = .ok (.invokespecial 9, 3) := by decide +kernel
theorem dX11_init_12 : decode cX11_init 12 = .ok (.putfield 10, 3) := by decide +kernel
theorem dX11_init_15 : decode cX11_init 15 = .ok (.aload_n 0, 1) := by decide +kernel
theorem dX11_init_16 : decode cX11_init 16 = .ok (.new 16, 3) := by decide +kernel
theorem dX11_init_19 : decode cX11_init 19 = .ok (.dup, 1) := by decide +kernel
theorem dX11_init_20 : decode cX11_init 20 = .ok (.aload_n 0, 1) := by decide +kernel
theorem dX11_init_21 : decode cX11_init 21 = .ok (.getfield 10, 3) := by decide +kernel
theorem dX11_init_24 : decode cX11_init 24 = .ok (.invokespecial 18, 3) := by decide +kernel
theorem dX11_init_27 : decode cX11_init 27 = .ok (.putfield 21, 3) := by decide +kernel
theorem dX11_init_30 : decode cX11_init 30 = .ok (.aload_n 0, 1) := by decide +kernel
theorem dX11_init_31 : decode cX11_init 31 = .ok (.new 25, 3) := by decide +kernel
theorem dX11_init_34 : decode cX11_init 34 = .ok (.dup, 1) := by decide +kernel
theorem dX11_init_35 : decode cX11_init 35 = .ok (.aload_n 0, 1) := by decide +kernel
theorem dX11_init_36 : decode cX11_init 36 = .ok (.getfield 21, 3) := by decide +kernel
theorem dX11_init_39 : decode cX11_init 39 = .ok (.invokespecial 27, 3) := by decide +kernel
theorem dX11_init_42 : decode cX11_init 42 = .ok (.putfield 30, 3) := by decide +kernel
theorem dX11_init_45 : decode cX11_init 45 = .ok (.aload_n 0, 1) := by decide +kernel
theorem dX11_init_46 : decode cX11_init 46 = .ok (.new 34, 3) := by decide +kernel
theorem dX11_init_49 : decode cX11_init 49 = .ok (.dup, 1) := by decide +kernel
theorem dX11_init_50 : decode cX11_init 50 = .ok (.invokespecial 36, 3) := by decide +kernel
theorem dX11_init_53 : decode cX11_init 53 = .ok (.putfield 37, 3) := by decide +kernel
theorem dX11_init_56 : decode cX11_init 56 = .ok (.aload_n 0, 1) := by decide +kernel
theorem dX11_init_57 : decode cX11_init 57 = .ok (.new 34, 3) := by decide +kernel
theorem dX11_init_60 : decode cX11_init 60 = .ok (.dup, 1) := by decide +kernel
theorem dX11_init_61 : decode cX11_init 61 = .ok (.invokespecial 36, 3) := by decide +kernel
theorem dX11_init_64 : decode cX11_init 64 = .ok (.putfield 41, 3) := by decide +kernel
theorem dX11_init_67 : decode cX11_init 67 = .ok (.aload_n 0, 1) := by decide +kernel
theorem dX11_init_68 : decode cX11_init 68 = .ok (.new 44, 3) := by decide +kernel
theorem dX11_init_71 : decode cX11_init 71 = .ok (.dup, 1) := by decide +kernel
theorem dX11_init_72 : decode cX11_init 72 = .ok (.aload_n 0, 1) := by decide +kernel
theorem dX11_init_73 : decode cX11_init 73 = .ok (.getfield 21, 3) := by decide +kernel
theorem dX11_init_76 : decode cX11_init 76 = .ok (.aload_n 0, 1) := by decide +kernel
theorem dX11_init_77 : decode cX11_init 77 = .ok (.getfield 30, 3) := by decide +kernel
theorem dX11_init_80 : decode cX11_init 80 = .ok (.aload_n 0, 1) := by decide +kernel
theorem dX11_init_81 : decode cX11_init 81 = .ok (.getfield 41, 3) := by decide +kernel
theorem dX11_init_84 : decode cX11_init 84 = .ok (.invokespecial 46, 3) := by decide +kernel
theorem dX11_init_87 : decode cX11_init 87 = .ok (.putfield 49, 3) := by decide +kernel
theorem dX11_init_90 : decode cX11_init 90 = .ok (.aload_n 0, 1) := by decide +kernel
theorem dX11_init_91 : decode cX11_init 91 = .ok (.new 53, 3) := by decide +kernel
theorem dX11_init_94 : decode cX11_init 94 = .ok (.dup, 1) := by decide +kernel
theorem dX11_init_95 : decode cX11_init 95 = .ok (.aload_n 0, 1) := by decide +kernel
theorem dX11_init_96 : decode cX11_init 96 = .ok (.getfield 37, 3) := by decide +kernel
theorem dX11_init_99 : decode cX11_init 99 = .ok (.invokespecial 55, 3) := by decide +kernel
theorem dX11_init_102 : decode cX11_init 102 = .ok (.putfield 58, 3) := by decide +kernel
theorem dX11_init_105 : decode cX11_init 105 = .ok (.return_, 1) := by decide +kernel
theorem dX12_init_0 : decode cX12_init 0 = .ok (.aload_n 0, 1) := by decide +kernel
theorem dX12_init_1 : decode cX12_init 1 = .ok (.invokespecial 1, 3) := by decide +kernel
theorem dX12_init_4 : decode cX12_init 4 = .ok (.aload_n 0, 1) := by decide +kernel
theorem dX12_init_5 : decode cX12_init 5 = .ok (.sipush 3000, 3) := by decide +kernel
theorem dX12_init_8 : decode cX12_init 8 = .ok (.newarray .int, 2) := by decide +kernel
theorem dX12_init_10 : decode cX12_init 10 = .ok (.putfield 7, 3) := by decide +kernel
theorem dX12_init_13 : decode cX12_init 13 = .ok (.aload_n 0, 1) := by decide +kernel
theorem dX12_init_14 : decode cX12_init 14 = .ok (.sipush 801, 3) := by decide +kernel
theorem dX12_init_17 : decode cX12_init 17 = .ok (.newarray .int, 2) := by decide +kernel
theorem dX12_init_19 : decode cX12_init 19 = .ok (.putfield 13, 3) := by decide +kernel
theorem dX12_init_22 : decode cX12_init 22 = .ok (.aload_n 0, 1) := by decide +kernel
theorem dX12_init_23 : decode cX12_init 23 = .ok (.sipush 801, 3) := by decide +kernel
theorem dX12_init_26 : decode cX12_init 26 = .ok (.newarray .int, 2) := by decide +kernel
theorem dX12_init_28 : decode cX12_init 28 = .ok (.putfield 16, 3) := by decide +kernel
theorem dX12_init_31 : decode cX12_init 31 = .ok (.aload_n 0, 1) := by decide +kernel
theorem dX12_init_32 : decode cX12_init 32 = .ok (.sipush 801, 3) := by decide +kernel
theorem dX12_init_35 : decode cX12_init 35 = .ok (.newarray .int, 2) := by decide +kernel
theorem dX12_init_37 : decode cX12_init 37 = .ok (.putfield 19, 3) := by decide +kernel
theorem dX12_init_40 : decode cX12_init 40 = .ok (.aload_n 0, 1) := by decide +kernel
theorem dX12_init_41 : decode cX12_init 41 = .ok (.sipush 801, 3) := by decide +kernel
theorem dX12_init_44 : decode cX12_init 44 = .ok (.newarray .int, 2) := by decide +kernel
theorem dX12_init_46 : decode cX12_init 46 = .ok (.putfield 22, 3) := by decide +kernel
theorem dX12_init_49 : decode cX12_init 49 = .ok (.aload_n 0, 1) := by decide +kernel
theorem dX12_init_50 : decode cX12_init 50 = .ok (.sipush 801, 3) := by decide +kernel
theorem dX12_init_53 : decode cX12_init 53 = .ok (.newarray .int, 2) := by decide +kernel
theorem dX12_init_55 : decode cX12_init 55 = .ok (.putfield 25, 3) := by decide +kernel
theorem dX12_init_58 : decode cX12_init 58 = .ok (.aload_n 0, 1) := by decide +kernel
theorem dX12_init_59 : decode cX12_init 59 = .ok (.sipush 801, 3) := by decide +kernel
theorem dX12_init_62 : decode cX12_init 62 = .ok (.newarray .int, 2) := by decide +kernel
theorem dX12_init_64 : decode cX12_init 64 = .ok (.putfield 28, 3) := by decide +kernel
theorem dX12_init_67 : decode cX12_init 67 = .ok (.aload_n 0, 1) := by decide +kernel
theorem dX12_init_68 : decode cX12_init 68 = .ok (.sipush 801, 3) := by decide +kernel
theorem dX12_init_71 : decode cX12_init 71 = .ok (.newarray .int, 2) := by decide +kernel
theorem dX12_init_73 : decode cX12_init 73 = .ok (.putfield 31, 3) := by decide +kernel
theorem dX12_init_76 : decode cX12_init 76 = .ok (.aload_n 0, 1) := by decide +kernel
theorem dX12_init_77 : decode cX12_init 77 = .ok (.sipush 801, 3) := by decide +kernel
theorem dX12_init_80 : decode cX12_init 80 = .ok (.newarray .int, 2) := by decide +kernel
theorem dX12_init_82 : decode cX12_init 82 = .ok (.putfield 34, 3) := by decide +kernel
theorem dX12_init_85 : decode cX12_init 85 = .ok (.aload_n 0, 1) := by decide +kernel
theorem dX12_init_86 : decode cX12_init 86 = .ok (.sipush 9612, 3) := by decide +kernel
theorem dX12_init_89 : decode cX12_init 89 = .ok (.newarray .int, 2) := by decide +kernel
theorem dX12_init_91 : decode cX12_init 91 = .ok (.putfield 37, 3) := by decide +kernel
theorem dX12_init_94 : decode cX12_init 94 = .ok (.aload_n 0, 1) := by decide +kernel
theorem dX12_init_95 : decode cX12_init 95 = .ok (.sipush 3000, 3) := by decide +kernel
theorem dX12_init_98 : decode cX12_init 98 = .ok (.newarray .int, 2) := by decide +kernel
theorem dX12_init_100 : decode cX12_init 100 = .ok (.putfield 40, 3) := by decide +kernel
theorem dX12_init_103 : decode cX12_init 103 = .ok (.aload_n 0, 1) := by decide +kernel
theorem dX12_init_104 : decode cX12_init 104 = .ok (.sipush 3000, 3) := by decide +kernel
theorem dX12_init_107 : decode cX12_init 107 = .ok (.newarray .int, 2) := by decide +kernel
theorem dX12_init_109 : decode cX12_init 109 = .ok (.putfield 43, 3) := by decide +kernel
theorem dX12_init_112 : decode cX12_init 112 = .ok (.aload_n 0, 1) := by decide +kernel
theorem dX12_init_113 : decode cX12_init 113 = .ok (.sipush 3000, 3) := by decide +kernel
theorem dX12_init_116 : decode cX12_init 116 = .ok (.newarray .int, 2) := by decide +kernel
theorem dX12_init_118 : decode cX12_init 118 = .ok (.putfield 46, 3) := by decide +kernel
theorem dX12_init_121 : decode cX12_init 121 = .ok (.aload_n 0, 1) := by decide +kernel
theorem dX12_init_122 : decode cX12_init 122 = .ok (.sipush 400, 3) := by decide +kernel
theorem dX12_init_125 : decode cX12_init 125 = .ok (.newarray .int, 2) := by decide +kernel
theorem dX12_init_127 : decode cX12_init 127 = .ok (.putfield 49, 3) := by decide +kernel
theorem dX12_init_130 : decode cX12_init 130 = .ok (.aload_n 0, 1) := by decide +kernel
theorem dX12_init_131 : decode cX12_init 131 = .ok (.sipush 400, 3) := by decide +kernel
theorem dX12_init_134 : decode cX12_init 134 = .ok (.newarray .int, 2) := by decide +kernel
theorem dX12_init_136 : decode cX12_init 136 = .ok (.putfield 52, 3) := by decide +kernel
theorem dX12_init_139 : decode cX12_init 139 = .ok (.aload_n 0, 1) := by decide +kernel
theorem dX12_init_140 : decode cX12_init 140 = .ok (.sipush 400, 3) := by decide +kernel
theorem dX12_init_143 : decode cX12_init 143 = .ok (.newarray .int, 2) := by decide +kernel
theorem dX12_init_145 : decode cX12_init 145 = .ok (.putfield 55, 3) := by decide +kernel
theorem dX12_init_148 : decode cX12_init 148 = .ok (.aload_n 0, 1) := by decide +kernel
theorem dX12_init_149 : decode cX12_init 149 = .ok (.sipush 400, 3) := by decide +kernel
theorem dX12_init_152 : decode cX12_init 152 = .ok (.newarray .int, 2) := by decide +kernel
theorem dX12_init_154 : decode cX12_init 154 = .ok (.putfield 58, 3) := by decide +kernel
theorem dX12_init_157 : decode cX12_init 157 = .ok (.aload_n 0, 1) := by decide +kernel
theorem dX12_init_158 : decode cX12_init 158 = .ok (.sipush 5000, 3) := by decide +kernel
theorem dX12_init_161 : decode cX12_init 161 = .ok (.newarray .int, 2) := by decide +kernel
theorem dX12_init_163 : decode cX12_init 163 = .ok (.putfield 61, 3) := by decide +kernel
theorem dX12_init_166 : decode cX12_init 166 = .ok (.aload_n 0, 1) := by decide +kernel
theorem dX12_init_167 : decode cX12_init 167 = .ok (.bipush 64, 2) := by decide +kernel
theorem dX12_init_169 : decode cX12_init 169 = .ok (.newarray .int, 2) := by decide +kernel
theorem dX12_init_171 : decode cX12_init 171 = .ok (.putfield 64, 3) := by decide +kernel
theorem dX12_init_174 : decode cX12_init 174 = .ok (.aload_n 0, 1) := by decide +kernel
theorem dX12_init_175 : decode cX12_init 175 = .ok (.sipush 3000, 3) := by decide +kernel
theorem dX12_init_178 : decode cX12_init 178 = .ok (.newarray .int, 2) := by decide +kernel
theorem dX12_init_180 : decode cX12_init 180 = .ok (.putfield 67, 3) := by decide +kernel
theorem dX12_init_183 : decode cX12_init 183 = .ok (.aload_n 0, 1) := by decide +kernel
theorem dX12_init_184 : decode cX12_init 184 = .ok (.sipush 3000, 3) := by decide +kernel
theorem dX12_init_187 : decode cX12_init 187 = .ok (.newarray .int, 2) := by decide +kernel
theorem dX12_init_189 : decode cX12_init 189 = .ok (.putfield 70, 3) := by decide +kernel
theorem dX12_init_192 : decode cX12_init 192 = .ok (.aload_n 0, 1) := by decide +kernel
theorem dX12_init_193 : decode cX12_init 193 = .ok (.sipush 3000, 3) := by decide +kernel
theorem dX12_init_196 : decode cX12_init 196 = .ok (.newarray .int, 2) := by decide +kernel
theorem dX12_init_198 : decode cX12_init 198 = .ok (.putfield 73, 3) := by decide +kernel
theorem dX12_init_201 : decode cX12_init 201 = .ok (.aload_n 0, 1) := by decide +kernel
theorem dX12_init_202 : decode cX12_init 202 = .ok (.sipush 3000, 3) := by decide +kernel
theorem dX12_init_205 : decode cX12_init 205 = .ok (.newarray .int, 2) := by decide +kernel
theorem dX12_init_207 : decode cX12_init 207 = .ok (.putfield 76, 3) := by decide +kernel
theorem dX12_init_210 : decode cX12_init 210 = .ok (.aload_n 0, 1) := by decide +kernel
theorem dX12_init_211 : decode cX12_init 211 = .ok (.sipush 3000, 3) := by decide +kernel
theorem dX12_init_214 : decode cX12_init 214 = .ok (.newarray .int, 2) := by decide +kernel
theorem dX12_init_216 : decode cX12_init 216 = .ok (.putfield 79, 3) := by decide +kernel
theorem dX12_init_219 : decode cX12_init 219 = .ok (.aload_n 0, 1) := by decide +kernel
theorem dX12_init_220 : decode cX12_init 220 = .ok (.ldc 82, 2) := by decide +kernel
theorem dX12_init_222 : decode cX12_init 222 = .ok (.newarray .int, 2) := by decide +kernel
theorem dX12_init_224 : decode cX12_init 224 = .ok (.putfield 83, 3) := by decide +kernel
theorem dX12_init_227 : decode cX12_init 227 = .ok (.aload_n 0, 1) := by decide +kernel
theorem dX12_init_228 : decode cX12_init 228 = .ok (.sipush 3000, 3) := by decide +kernel
theorem dX12_init_231 : decode cX12_init 231 = .ok (.newarray .int, 2) := by decide +kernel
theorem dX12_init_233 : decode cX12_init 233 = .ok (.putfield 86, 3) := by decide +kernel
theorem dX12_init_236 : decode cX12_init 236 = .ok (.aload_n 0, 1) := by decide +kernel
theorem dX12_init_237 : decode cX12_init 237 = .ok (.sipush 8000, 3) := by decide +kernel
theorem dX12_init_240 : decode cX12_init 240 = .ok (.newarray .int, 2) := by decide +kernel
theorem dX12_init_242 : decode cX12_init 242 = .ok (.putfield 89, 3) := by decide +kernel
theorem dX12_init_245 : decode cX12_init 245 = .ok (.return_, 1) := by decide +kernel
abbrev vwCl : List vw_C := [(RX1, TX1, 9), (RX3, TX3, 14), (RX4, TX4, 7), (RX5, TX5, 7), (RX6, TX6, 3), (RX8, TX8, 2), (RX9, TX9, 7), (RX10, TX10, 6), (RX11, TX11, 9), (RX12, TX12, 46)]