/-! ===== BEGIN words of one list among another's, by their places ===== -/
theorem goodIn_r {big : List Cond} (ws : List Cond) (ps : List Nat) (hp : ws = ps.filterMap (fun i => big[i]?)) (h : ws.all goodWord = true) : GoodIn big ws := by
  intro w hw
  have h1 := List.all_eq_true.mp h w hw
  rw [hp] at hw
  obtain ⟨i, -, hi⟩ := List.mem_filterMap.mp hw
  have hm : w ∈ big := by first | exact List.mem_of_getElem? hi | exact List.getElem?_mem hi
  exact ⟨hm, good_of_word h1⟩
theorem goodIn_app {big a b : List Cond} (ha : GoodIn big a) (hb : GoodIn big b) : GoodIn big (a ++ b) := fun w h => (List.mem_append.mp h).elim (ha w) (hb w)
theorem goodIn_ca {big a b : List Cond} {c : Cond} (ha : GoodIn big (c :: a)) (hb : GoodIn big b) : GoodIn big (c :: (a ++ b)) := fun w h => (List.mem_cons.mp h).elim (fun e => ha w (List.mem_cons.mpr (Or.inl e))) (fun h => (List.mem_append.mp h).elim (fun h => ha w (List.mem_cons.mpr (Or.inr h))) (hb w))
theorem goodIn_sub {big ws : List Cond} (hm : ∀ w ∈ ws, w ∈ big) (h : ws.all goodWord = true) : GoodIn big ws := fun w hw => ⟨hm w hw, good_of_word (List.all_eq_true.mp h w hw)⟩
/-! ===== END ===== -/

/-! ===== BEGIN printed: names, fields, word lists, decode rows ===== -/
def RX0 : String := "SheetMarks$Facts"
def TX0 : u_T := fun k => match k with
  | 0 => ("SheetMarks$Facts", "players", "I", false)
  | 1 => ("SheetMarks$Facts", "told", "I", false)
  | 2 => ("SheetMarks$Facts", "kinds", "[I", true)
  | 3 => ("SheetMarks$Facts", "owners", "[I", true)
  | _ => ("SheetMarks$Facts", "cards", "[I", true)
def tyX0 : Nat → FieldType := fun k => match k with
  | 0 => .int
  | 1 => .int
  | 2 => .array .int
  | 3 => .array .int
  | _ => .array .int
abbrev wsX00 : List Cond := u_ws RX0 TX0 5
theorem nmX0 : ∀ a, a < 5 → ∀ b, b < 5 → a ≠ b → (TX0 a).2.1 ≠ (TX0 b).2.1 := by decide +kernel
theorem tyX0_ok : ∀ k, k < 5 → parseFieldDescriptor (TX0 k).2.2.1 = some (tyX0 k) := by decide +kernel
abbrev cX0_init : ByteArray := prog_2_method_1_code
def yX0_init : MethodName := ⟨RX0, "<init>", "()V"⟩
abbrev cX0_beginFor : ByteArray := prog_2_method_2_code
def yX0_beginFor : MethodName := ⟨RX0, "beginFor", "(I)V"⟩
abbrev cX0_copy : ByteArray := prog_2_method_3_code
def yX0_copy : MethodName := ⟨RX0, "copy", "(LSheetMarks$Facts;)V"⟩
abbrev cX0_add : ByteArray := prog_2_method_4_code
def yX0_add : MethodName := ⟨RX0, "add", "(III)V"⟩
abbrev cX0_remove : ByteArray := prog_2_method_5_code
def yX0_remove : MethodName := ⟨RX0, "remove", "(I)V"⟩
abbrev cX0_has : ByteArray := prog_2_method_6_code
def yX0_has : MethodName := ⟨RX0, "has", "(I)Z"⟩
abbrev cX0_hasPlayer : ByteArray := prog_2_method_7_code
def yX0_hasPlayer : MethodName := ⟨RX0, "hasPlayer", "(I)Z"⟩
abbrev cX0_hasOwner : ByteArray := prog_2_method_8_code
def yX0_hasOwner : MethodName := ⟨RX0, "hasOwner", "(I)Z"⟩
abbrev cX0_hasHand : ByteArray := prog_2_method_9_code
def yX0_hasHand : MethodName := ⟨RX0, "hasHand", "(I)Z"⟩
abbrev cX0_sizeOfHand : ByteArray := prog_2_method_10_code
def yX0_sizeOfHand : MethodName := ⟨RX0, "sizeOfHand", "(I)I"⟩
abbrev cX0_ownerOfHand : ByteArray := prog_2_method_11_code
def yX0_ownerOfHand : MethodName := ⟨RX0, "ownerOfHand", "(I)I"⟩
abbrev cX0_cardsForHand : ByteArray := prog_2_method_12_code
def yX0_cardsForHand : MethodName := ⟨RX0, "cardsForHand", "(I)I"⟩
def RX1 : String := "SheetMarks$History"
def TX1 : u_T := fun k => match k with
  | 0 => ("SheetMarks$History", "states", "[LSheetMarks$Facts;", true)
  | _ => ("SheetMarks$History", "length", "I", false)
def tyX1 : Nat → FieldType := fun k => match k with
  | 0 => .array (.object "SheetMarks$Facts")
  | _ => .int
abbrev wsX10 : List Cond := u_ws RX1 TX1 2
theorem nmX1 : ∀ a, a < 2 → ∀ b, b < 2 → a ≠ b → (TX1 a).2.1 ≠ (TX1 b).2.1 := by decide +kernel
theorem tyX1_ok : ∀ k, k < 2 → parseFieldDescriptor (TX1 k).2.2.1 = some (tyX1 k) := by decide +kernel
abbrev cX1_init : ByteArray := prog_3_method_1_code
def yX1_init : MethodName := ⟨RX1, "<init>", "()V"⟩
abbrev cX1_record : ByteArray := prog_3_method_2_code
def yX1_record : MethodName := ⟨RX1, "record", "(LSheetMarks$Facts;)V"⟩
abbrev cX1_dropOldest : ByteArray := prog_3_method_4_code
def yX1_dropOldest : MethodName := ⟨RX1, "dropOldest", "()V"⟩
def RX2 : String := "SheetMarks$Marks"
def TX2 : u_T := fun k => match k with
  | 0 => ("SheetMarks$Marks", "yes", "LSheetMarks$Ticks;", true)
  | 1 => ("SheetMarks$Marks", "no", "LSheetMarks$Ticks;", true)
  | _ => ("SheetMarks$Marks", "rounds", "I", false)
def tyX2 : Nat → FieldType := fun k => match k with
  | 0 => .object "SheetMarks$Ticks"
  | 1 => .object "SheetMarks$Ticks"
  | _ => .int
abbrev wsX20 : List Cond := u_ws RX2 TX2 3
theorem nmX2 : ∀ a, a < 3 → ∀ b, b < 3 → a ≠ b → (TX2 a).2.1 ≠ (TX2 b).2.1 := by decide +kernel
theorem tyX2_ok : ∀ k, k < 3 → parseFieldDescriptor (TX2 k).2.2.1 = some (tyX2 k) := by decide +kernel
abbrev cX2_init : ByteArray := prog_4_method_1_code
def yX2_init : MethodName := ⟨RX2, "<init>", "()V"⟩
abbrev cX2_makeFrom : ByteArray := prog_4_method_2_code
def yX2_makeFrom : MethodName := ⟨RX2, "makeFrom", "(LSheetMarks$Facts;)V"⟩
abbrev cX2_copy : ByteArray := prog_4_method_3_code
def yX2_copy : MethodName := ⟨RX2, "copy", "(LSheetMarks$Marks;)V"⟩
abbrev cX2_follow : ByteArray := prog_4_method_4_code
def yX2_follow : MethodName := ⟨RX2, "follow", "(LSheetMarks$Facts;)V"⟩
abbrev cX2_total : ByteArray := prog_4_method_5_code
def yX2_total : MethodName := ⟨RX2, "total", "()I"⟩
abbrev cX2_without : ByteArray := prog_4_method_6_code
def yX2_without : MethodName := ⟨RX2, "without", "(I)I"⟩
abbrev cX2_makeRound : ByteArray := prog_4_method_7_code
def yX2_makeRound : MethodName := ⟨RX2, "makeRound", "(LSheetMarks$Facts;)Z"⟩
abbrev cX2_followWhatWasSeen : ByteArray := prog_4_method_8_code
def yX2_followWhatWasSeen : MethodName := ⟨RX2, "followWhatWasSeen", "(LSheetMarks$Facts;)V"⟩
abbrev cX2_followOtherOwners : ByteArray := prog_4_method_9_code
def yX2_followOtherOwners : MethodName := ⟨RX2, "followOtherOwners", "(LSheetMarks$Facts;)V"⟩
abbrev cX2_followLastOwner : ByteArray := prog_4_method_10_code
def yX2_followLastOwner : MethodName := ⟨RX2, "followLastOwner", "(LSheetMarks$Facts;)V"⟩
abbrev cX2_followHands : ByteArray := prog_4_method_11_code
def yX2_followHands : MethodName := ⟨RX2, "followHands", "(LSheetMarks$Facts;)V"⟩
abbrev cX2_followThrees : ByteArray := prog_4_method_12_code
def yX2_followThrees : MethodName := ⟨RX2, "followThrees", "(LSheetMarks$Facts;)V"⟩
abbrev cX2_leftOfThree : ByteArray := prog_4_method_13_code
def yX2_leftOfThree : MethodName := ⟨RX2, "leftOfThree", "(LSheetMarks$Facts;I)I"⟩
abbrev cX2_areBroken : ByteArray := prog_4_method_14_code
def yX2_areBroken : MethodName := ⟨RX2, "areBroken", "(LSheetMarks$Facts;)Z"⟩
abbrev cX2_aCardIsBroken : ByteArray := prog_4_method_15_code
def yX2_aCardIsBroken : MethodName := ⟨RX2, "aCardIsBroken", "(LSheetMarks$Facts;)Z"⟩
abbrev cX2_aHandIsBroken : ByteArray := prog_4_method_16_code
def yX2_aHandIsBroken : MethodName := ⟨RX2, "aHandIsBroken", "(LSheetMarks$Facts;)Z"⟩
abbrev cX2_aThreeIsBroken : ByteArray := prog_4_method_17_code
def yX2_aThreeIsBroken : MethodName := ⟨RX2, "aThreeIsBroken", "(LSheetMarks$Facts;)Z"⟩
def RX3 : String := "SheetMarks$Pad"
def TX3 : u_T := fun k => match k with
  | 0 => ("SheetMarks$Pad", "text", "[B", true)
  | _ => ("SheetMarks$Pad", "length", "I", false)
def tyX3 : Nat → FieldType := fun k => match k with
  | 0 => .array .byte
  | _ => .int
abbrev wsX30 : List Cond := u_ws RX3 TX3 2
theorem nmX3 : ∀ a, a < 2 → ∀ b, b < 2 → a ≠ b → (TX3 a).2.1 ≠ (TX3 b).2.1 := by decide +kernel
theorem tyX3_ok : ∀ k, k < 2 → parseFieldDescriptor (TX3 k).2.2.1 = some (tyX3 k) := by decide +kernel
abbrev cX3_init : ByteArray := prog_5_method_1_code
def yX3_init : MethodName := ⟨RX3, "<init>", "()V"⟩
def RX4 : String := "SheetMarks$Ticks"
def TX4 : u_T := fun k => match k with
  | 0 => ("SheetMarks$Ticks", "sets", "[I", true)
  | 1 => ("SheetMarks$Ticks", "coming", "[I", true)
  | 2 => ("SheetMarks$Ticks", "origins", "[I", true)
  | _ => ("SheetMarks$Ticks", "round", "I", false)
def tyX4 : Nat → FieldType := fun k => match k with
  | 0 => .array .int
  | 1 => .array .int
  | 2 => .array .int
  | _ => .int
abbrev wsX40 : List Cond := u_ws RX4 TX4 4
theorem nmX4 : ∀ a, a < 4 → ∀ b, b < 4 → a ≠ b → (TX4 a).2.1 ≠ (TX4 b).2.1 := by decide +kernel
theorem tyX4_ok : ∀ k, k < 4 → parseFieldDescriptor (TX4 k).2.2.1 = some (tyX4 k) := by decide +kernel
abbrev cX4_init : ByteArray := prog_6_method_1_code
def yX4_init : MethodName := ⟨RX4, "<init>", "()V"⟩
abbrev cX4_clear : ByteArray := prog_6_method_2_code
def yX4_clear : MethodName := ⟨RX4, "clear", "()V"⟩
abbrev cX4_copy : ByteArray := prog_6_method_3_code
def yX4_copy : MethodName := ⟨RX4, "copy", "(LSheetMarks$Ticks;)V"⟩
abbrev cX4_add : ByteArray := prog_6_method_4_code
def yX4_add : MethodName := ⟨RX4, "add", "(III)V"⟩
abbrev cX4_addAtOnce : ByteArray := prog_6_method_5_code
def yX4_addAtOnce : MethodName := ⟨RX4, "addAtOnce", "(II)V"⟩
abbrev cX4_make : ByteArray := prog_6_method_6_code
def yX4_make : MethodName := ⟨RX4, "make", "()Z"⟩
abbrev cX4_of : ByteArray := prog_6_method_7_code
def yX4_of : MethodName := ⟨RX4, "of", "(I)I"⟩
abbrev cX4_has : ByteArray := prog_6_method_8_code
def yX4_has : MethodName := ⟨RX4, "has", "(II)Z"⟩
abbrev cX4_roundOf : ByteArray := prog_6_method_9_code
def yX4_roundOf : MethodName := ⟨RX4, "roundOf", "(II)I"⟩
abbrev cX4_ruleOf : ByteArray := prog_6_method_10_code
def yX4_ruleOf : MethodName := ⟨RX4, "ruleOf", "(II)I"⟩
abbrev cX4_total : ByteArray := prog_6_method_11_code
def yX4_total : MethodName := ⟨RX4, "total", "()I"⟩
def RX5 : String := "SheetMarks"
def TX5 : u_T := fun k => match k with
  | 0 => ("SheetMarks", "facts", "LSheetMarks$Facts;", true)
  | 1 => ("SheetMarks", "marks", "LSheetMarks$Marks;", true)
  | 2 => ("SheetMarks", "supposed", "LSheetMarks$Marks;", true)
  | 3 => ("SheetMarks", "history", "LSheetMarks$History;", true)
  | 4 => ("SheetMarks", "slots", "[LSheetMarks$Facts;", true)
  | _ => ("SheetMarks", "pad", "LSheetMarks$Pad;", true)
def tyX5 : Nat → FieldType := fun k => match k with
  | 0 => .object "SheetMarks$Facts"
  | 1 => .object "SheetMarks$Marks"
  | 2 => .object "SheetMarks$Marks"
  | 3 => .object "SheetMarks$History"
  | 4 => .array (.object "SheetMarks$Facts")
  | _ => .object "SheetMarks$Pad"
abbrev wsX50 : List Cond := u_ws RX5 TX5 6
theorem nmX5 : ∀ a, a < 6 → ∀ b, b < 6 → a ≠ b → (TX5 a).2.1 ≠ (TX5 b).2.1 := by decide +kernel
theorem tyX5_ok : ∀ k, k < 6 → parseFieldDescriptor (TX5 k).2.2.1 = some (tyX5 k) := by decide +kernel
abbrev cX5_init : ByteArray := prog_1_method_1_code
def yX5_init : MethodName := ⟨RX5, "<init>", "()V"⟩
abbrev cX5_begin : ByteArray := prog_1_method_2_code
def yX5_begin : MethodName := ⟨RX5, "begin", "(I)I"⟩
abbrev cX5_holds : ByteArray := prog_1_method_3_code
def yX5_holds : MethodName := ⟨RX5, "holds", "(II)I"⟩
abbrev cX5_answers : ByteArray := prog_1_method_4_code
def yX5_answers : MethodName := ⟨RX5, "answers", "(IIIII)I"⟩
abbrev cX5_wrong : ByteArray := prog_1_method_5_code
def yX5_wrong : MethodName := ⟨RX5, "wrong", "(III)I"⟩
abbrev cX5_takeBack : ByteArray := prog_1_method_6_code
def yX5_takeBack : MethodName := ⟨RX5, "takeBack", "(I)I"⟩
abbrev cX5_tell : ByteArray := prog_1_method_7_code
def yX5_tell : MethodName := ⟨RX5, "tell", "(III)I"⟩
abbrev cX5_mark : ByteArray := prog_1_method_8_code
def yX5_mark : MethodName := ⟨RX5, "mark", "(III)I"⟩
abbrev cX5_ofOwner : ByteArray := prog_1_method_9_code
def yX5_ofOwner : MethodName := ⟨RX5, "ofOwner", "(II)I"⟩
abbrev cX5_ofFact : ByteArray := prog_1_method_10_code
def yX5_ofFact : MethodName := ⟨RX5, "ofFact", "(II)I"⟩
abbrev cX5_count : ByteArray := prog_1_method_11_code
def yX5_count : MethodName := ⟨RX5, "count", "(I)I"⟩
abbrev cX5_envelope : ByteArray := prog_1_method_12_code
def yX5_envelope : MethodName := ⟨RX5, "envelope", "(II)I"⟩
abbrev cX5_withoutMark : ByteArray := prog_1_method_13_code
def yX5_withoutMark : MethodName := ⟨RX5, "withoutMark", "()I"⟩
abbrev cX5_kindsFound : ByteArray := prog_1_method_14_code
def yX5_kindsFound : MethodName := ⟨RX5, "kindsFound", "()I"⟩
abbrev cX5_gain : ByteArray := prog_1_method_15_code
def yX5_gain : MethodName := ⟨RX5, "gain", "(IIIII)I"⟩
abbrev cX5_must : ByteArray := prog_1_method_16_code
def yX5_must : MethodName := ⟨RX5, "must", "(II)I"⟩
abbrev cX5_deeper : ByteArray := prog_1_method_17_code
def yX5_deeper : MethodName := ⟨RX5, "deeper", "()I"⟩
abbrev cX5_bestQuestion : ByteArray := prog_1_method_18_code
def yX5_bestQuestion : MethodName := ⟨RX5, "bestQuestion", "(II)I"⟩
abbrev cX5_lesser : ByteArray := prog_1_method_19_code
def yX5_lesser : MethodName := ⟨RX5, "lesser", "(II)I"⟩
abbrev cX5_gainOf : ByteArray := prog_1_method_20_code
def yX5_gainOf : MethodName := ⟨RX5, "gainOf", "(III)I"⟩
abbrev cX5_breaksWithYes : ByteArray := prog_1_method_21_code
def yX5_breaksWithYes : MethodName := ⟨RX5, "breaksWithYes", "(II)Z"⟩
abbrev cX5_breaksWithNo : ByteArray := prog_1_method_22_code
def yX5_breaksWithNo : MethodName := ⟨RX5, "breaksWithNo", "(II)Z"⟩
abbrev cX5_errorOfAnswer : ByteArray := prog_1_method_34_code
def yX5_errorOfAnswer : MethodName := ⟨RX5, "errorOfAnswer", "(IIIII)I"⟩
abbrev cX5_kindOfAnswer : ByteArray := prog_1_method_35_code
def yX5_kindOfAnswer : MethodName := ⟨RX5, "kindOfAnswer", "(I)I"⟩
abbrev cX5_isCard : ByteArray := prog_1_method_36_code
def yX5_isCard : MethodName := ⟨RX5, "isCard", "(I)Z"⟩
abbrev cX5_isOfKind : ByteArray := prog_1_method_37_code
def yX5_isOfKind : MethodName := ⟨RX5, "isOfKind", "(I)Z"⟩
abbrev cX5_areThree : ByteArray := prog_1_method_38_code
def yX5_areThree : MethodName := ⟨RX5, "areThree", "(III)Z"⟩
abbrev cX5_three : ByteArray := prog_1_method_39_code
def yX5_three : MethodName := ⟨RX5, "three", "(III)I"⟩
abbrev cX5_cardsOfKind : ByteArray := prog_1_method_40_code
def yX5_cardsOfKind : MethodName := ⟨RX5, "cardsOfKind", "(I)I"⟩
abbrev cX5_isIn : ByteArray := prog_1_method_41_code
def yX5_isIn : MethodName := ⟨RX5, "isIn", "(II)Z"⟩
abbrev cX5_lowestOf : ByteArray := prog_1_method_42_code
def yX5_lowestOf : MethodName := ⟨RX5, "lowestOf", "(I)I"⟩
def RX6 : String := "SheetMarksModel"
def TX6 : u_T := fun k => match k with
  | _ => ("", "", "", false)
def tyX6 : Nat → FieldType := fun k => match k with
  | _ => .int
abbrev wsX60 : List Cond := u_ws RX6 TX6 0
theorem nmX6 : ∀ a, a < 0 → ∀ b, b < 0 → a ≠ b → (TX6 a).2.1 ≠ (TX6 b).2.1 := by decide +kernel
theorem tyX6_ok : ∀ k, k < 0 → parseFieldDescriptor (TX6 k).2.2.1 = some (tyX6 k) := by decide +kernel
def RJ6 : String := "java/lang/Integer"
def TJ6 : u_T := fun k => match k with
  | _ => ("", "", "", false)
def tyJ6 : Nat → FieldType := fun k => match k with
  | _ => .int
abbrev wsJ60 : List Cond := u_ws RJ6 TJ6 0
theorem nmJ6 : ∀ a, a < 0 → ∀ b, b < 0 → a ≠ b → (TJ6 a).2.1 ≠ (TJ6 b).2.1 := by decide +kernel
theorem tyJ6_ok : ∀ k, k < 0 → parseFieldDescriptor (TJ6 k).2.2.1 = some (tyJ6 k) := by decide +kernel
abbrev cJ6_bitCount_0f7a4 : ByteArray := prog_9_method_49_code
def yJ6_bitCount_0f7a4 : MethodName := ⟨RJ6, "bitCount", "(I)I"⟩
def RJ9 : String := "java/lang/Math"
def TJ9 : u_T := fun k => match k with
  | _ => ("", "", "", false)
def tyJ9 : Nat → FieldType := fun k => match k with
  | _ => .int
abbrev wsJ90 : List Cond := u_ws RJ9 TJ9 0
theorem nmJ9 : ∀ a, a < 0 → ∀ b, b < 0 → a ≠ b → (TJ9 a).2.1 ≠ (TJ9 b).2.1 := by decide +kernel
theorem tyJ9_ok : ∀ k, k < 0 → parseFieldDescriptor (TJ9 k).2.2.1 = some (tyJ9 k) := by decide +kernel
abbrev cJ9_max_7cf53 : ByteArray := prog_10_method_65_code
def yJ9_max_7cf53 : MethodName := ⟨RJ9, "max", "(II)I"⟩
abbrev cJ9_min_7cf53 : ByteArray := prog_10_method_69_code
def yJ9_min_7cf53 : MethodName := ⟨RJ9, "min", "(II)I"⟩
def RJ10 : String := "java/lang/System"
def TJ10 : u_T := fun k => match k with
  | _ => ("", "", "", false)
def tyJ10 : Nat → FieldType := fun k => match k with
  | _ => .int
abbrev wsJ100 : List Cond := u_ws RJ10 TJ10 0
theorem nmJ10 : ∀ a, a < 0 → ∀ b, b < 0 → a ≠ b → (TJ10 a).2.1 ≠ (TJ10 b).2.1 := by decide +kernel
theorem tyJ10_ok : ∀ k, k < 0 → parseFieldDescriptor (TJ10 k).2.2.1 = some (tyJ10 k) := by decide +kernel
def RJ7 : String := "java/util/Arrays"
def TJ7 : u_T := fun k => match k with
  | _ => ("", "", "", false)
def tyJ7 : Nat → FieldType := fun k => match k with
  | _ => .int
abbrev wsJ70 : List Cond := u_ws RJ7 TJ7 0
theorem nmJ7 : ∀ a, a < 0 → ∀ b, b < 0 → a ≠ b → (TJ7 a).2.1 ≠ (TJ7 b).2.1 := by decide +kernel
theorem tyJ7_ok : ∀ k, k < 0 → parseFieldDescriptor (TJ7 k).2.2.1 = some (tyJ7 k) := by decide +kernel
abbrev cJ7_fill_53178 : ByteArray := prog_12_method_103_code
def yJ7_fill_53178 : MethodName := ⟨RJ7, "fill", "([II)V"⟩
def RL : String := "SheetMarksLaw"
abbrev cL_cell : ByteArray := method_2_code
def yL_cell : MethodName := ⟨RL, "cell", "([II)I"⟩
abbrev cL_low : ByteArray := method_3_code
def yL_low : MethodName := ⟨RL, "low", "(II)I"⟩
abbrev cL_deal : ByteArray := method_4_code
def yL_deal : MethodName := ⟨RL, "deal", "([I[II)V"⟩
abbrev cL_isOwner : ByteArray := method_5_code
def yL_isOwner : MethodName := ⟨RL, "isOwner", "([II)Z"⟩
abbrev cL_held : ByteArray := method_6_code
def yL_held : MethodName := ⟨RL, "held", "([II)I"⟩
abbrev cL_size : ByteArray := method_7_code
def yL_size : MethodName := ⟨RL, "size", "(I)I"⟩
abbrev cL_isTrue : ByteArray := method_8_code
def yL_isTrue : MethodName := ⟨RL, "isTrue", "(LSheetMarks;[I)Z"⟩
abbrev cL_answer : ByteArray := method_9_code
def yL_answer : MethodName := ⟨RL, "answer", "([IIIII)I"⟩
abbrev cL_asks : ByteArray := method_10_code
def yL_asks : MethodName := ⟨RL, "asks", "(LSheetMarks;[IIIII)Z"⟩
abbrev cL_musts : ByteArray := method_11_code
def yL_musts : MethodName := ⟨RL, "musts", "(LSheetMarks;[III)Z"⟩
abbrev cL_question : ByteArray := method_12_code
def yL_question : MethodName := ⟨RL, "question", "(LSheetMarks;[III)Z"⟩
abbrev cL_lesser : ByteArray := method_13_code
def yL_lesser : MethodName := ⟨RL, "lesser", "(LSheetMarks;IIII)I"⟩
abbrev cL_law : ByteArray := code
def yL_law : MethodName := ⟨RL, "law", "([I)Z"⟩
