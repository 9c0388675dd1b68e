/-! ===== BEGIN words of one list among another's, by their places ===== -/
theorem goodIn_r {big : List Cond} (ws : List Cond) (ps : List Nat) (hp : ws = ps.filterMap (fun i => big[i]?)) (h : ws.all goodWord = true) : GoodIn big ws := by
  intro w hw
  have h1 := List.all_eq_true.mp h w hw
  rw [hp] at hw
  obtain ⟨i, -, hi⟩ := List.mem_filterMap.mp hw
  have hm : w ∈ big := by first | exact List.mem_of_getElem? hi | exact List.getElem?_mem hi
  exact ⟨hm, good_of_word h1⟩
theorem goodIn_app {big a b : List Cond} (ha : GoodIn big a) (hb : GoodIn big b) : GoodIn big (a ++ b) := fun w h => (List.mem_append.mp h).elim (ha w) (hb w)
theorem goodIn_ca {big a b : List Cond} {c : Cond} (ha : GoodIn big (c :: a)) (hb : GoodIn big b) : GoodIn big (c :: (a ++ b)) := fun w h => (List.mem_cons.mp h).elim (fun e => ha w (List.mem_cons.mpr (Or.inl e))) (fun h => (List.mem_append.mp h).elim (fun h => ha w (List.mem_cons.mpr (Or.inr h))) (hb w))
theorem goodIn_sub {big ws : List Cond} (hm : ∀ w ∈ ws, w ∈ big) (h : ws.all goodWord = true) : GoodIn big ws := fun w hw => ⟨hm w hw, good_of_word (List.all_eq_true.mp h w hw)⟩
/-! ===== END ===== -/

/-! ===== BEGIN printed: names, fields, word lists, decode rows ===== -/
def RX0 : String := "FamilyProbes$Thing"
def TX0 : u_T := fun k => match k with
  | 0 => ("FamilyProbes$Thing", "kind", "I", true)
  | 1 => ("FamilyProbes$Thing", "n", "I", true)
  | 2 => ("FamilyProbes$Thing", "source", "LFamilyProbes$Thing;", true)
  | 3 => ("FamilyProbes$Thing", "repeaters", "I", true)
  | 4 => ("FamilyProbes$Thing", "bonus", "I", false)
  | _ => ("FamilyProbes$Thing", "extra", "I", false)
def tyX0 : Nat → FieldType := fun k => match k with
  | 0 => .int
  | 1 => .int
  | 2 => .object "FamilyProbes$Thing"
  | 3 => .int
  | 4 => .int
  | _ => .int
abbrev wsX00 : List Cond := u_ws RX0 TX0 6
theorem nmX0 : ∀ a, a < 6 → ∀ b, b < 6 → a ≠ b → (TX0 a).2.1 ≠ (TX0 b).2.1 := by decide +kernel
theorem tyX0_ok : ∀ k, k < 6 → parseFieldDescriptor (TX0 k).2.2.1 = some (tyX0 k) := by decide +kernel
abbrev cX0_init : ByteArray := prog_2_method_1_code
def yX0_init : MethodName := ⟨RX0, "<init>", "(IILFamilyProbes$Thing;)V"⟩
def RX1 : String := "FamilyProbes"
def TX1 : u_T := fun k => match k with
  | 0 => ("FamilyProbes", "wren", "LFamilyProbes$Thing;", true)
  | 1 => ("FamilyProbes", "owl", "LFamilyProbes$Thing;", true)
  | 2 => ("FamilyProbes", "slots", "[LFamilyProbes$Thing;", true)
  | 3 => ("FamilyProbes", "places", "[LFamilyProbes$Thing;", true)
  | 4 => ("FamilyProbes", "passing", "[LFamilyProbes$Thing;", true)
  | 5 => ("FamilyProbes", "lastEvents", "[I", true)
  | 6 => ("FamilyProbes", "eventCount", "I", false)
  | 7 => ("FamilyProbes", "shadowCalls", "I", false)
  | _ => ("FamilyProbes", "lastValue", "I", false)
def tyX1 : Nat → FieldType := fun k => match k with
  | 0 => .object "FamilyProbes$Thing"
  | 1 => .object "FamilyProbes$Thing"
  | 2 => .array (.object "FamilyProbes$Thing")
  | 3 => .array (.object "FamilyProbes$Thing")
  | 4 => .array (.object "FamilyProbes$Thing")
  | 5 => .array .int
  | 6 => .int
  | 7 => .int
  | _ => .int
abbrev wsX10 : List Cond := u_ws RX1 TX1 9
theorem nmX1 : ∀ a, a < 9 → ∀ b, b < 9 → a ≠ b → (TX1 a).2.1 ≠ (TX1 b).2.1 := by decide +kernel
theorem tyX1_ok : ∀ k, k < 9 → parseFieldDescriptor (TX1 k).2.2.1 = some (tyX1 k) := by decide +kernel
abbrev cX1_init : ByteArray := prog_1_method_1_code
def yX1_init : MethodName := ⟨RX1, "<init>", "()V"⟩
abbrev cX1_make : ByteArray := prog_1_method_2_code
def yX1_make : MethodName := ⟨RX1, "make", "(III)I"⟩
abbrev cX1_drop : ByteArray := prog_1_method_3_code
def yX1_drop : MethodName := ⟨RX1, "drop", "(I)I"⟩
abbrev cX1_probe : ByteArray := prog_1_method_4_code
def yX1_probe : MethodName := ⟨RX1, "probe", "(IIIII)I"⟩
abbrev cX1_value : ByteArray := prog_1_method_5_code
def yX1_value : MethodName := ⟨RX1, "value", "()I"⟩
abbrev cX1_is : ByteArray := prog_1_method_6_code
def yX1_is : MethodName := ⟨RX1, "is", "(II)Z"⟩
abbrev cX1_same : ByteArray := prog_1_method_7_code
def yX1_same : MethodName := ⟨RX1, "same", "(II)Z"⟩
abbrev cX1_store : ByteArray := prog_1_method_8_code
def yX1_store : MethodName := ⟨RX1, "store", "(III)I"⟩
abbrev cX1_load : ByteArray := prog_1_method_9_code
def yX1_load : MethodName := ⟨RX1, "load", "(III)I"⟩
abbrev cX1_copy : ByteArray := prog_1_method_10_code
def yX1_copy : MethodName := ⟨RX1, "copy", "(IIIII)I"⟩
abbrev cX1_compare : ByteArray := prog_1_method_11_code
def yX1_compare : MethodName := ⟨RX1, "compare", "(II)I"⟩
abbrev cX1_flow : ByteArray := prog_1_method_12_code
def yX1_flow : MethodName := ⟨RX1, "flow", "(III)I"⟩
abbrev cX1_number : ByteArray := prog_1_method_13_code
def yX1_number : MethodName := ⟨RX1, "number", "(III)I"⟩
abbrev cX1_isBelow : ByteArray := prog_1_method_16_code
def yX1_isBelow : MethodName := ⟨RX1, "isBelow", "(II)Z"⟩
abbrev cX1_isStretch : ByteArray := prog_1_method_17_code
def yX1_isStretch : MethodName := ⟨RX1, "isStretch", "(II)Z"⟩
abbrev cX1_holds : ByteArray := prog_1_method_18_code
def yX1_holds : MethodName := ⟨RX1, "holds", "(II)Z"⟩
abbrev cX1_isOfType : ByteArray := prog_1_method_19_code
def yX1_isOfType : MethodName := ⟨RX1, "isOfType", "(LFamilyProbes$Thing;I)Z"⟩
abbrev cX1_wentWith : ByteArray := prog_1_method_20_code
def yX1_wentWith : MethodName := ⟨RX1, "wentWith", "(I)I"⟩
abbrev cX1_note : ByteArray := prog_1_method_21_code
def yX1_note : MethodName := ⟨RX1, "note", "(I)V"⟩
abbrev cX1_putRepeater : ByteArray := prog_1_method_22_code
def yX1_putRepeater : MethodName := ⟨RX1, "putRepeater", "(ILFamilyProbes$Thing;)I"⟩
abbrev cX1_newThing : ByteArray := prog_1_method_23_code
def yX1_newThing : MethodName := ⟨RX1, "newThing", "(II)LFamilyProbes$Thing;"⟩
abbrev cX1_newBase : ByteArray := prog_1_method_24_code
def yX1_newBase : MethodName := ⟨RX1, "newBase", "(II)LFamilyProbes$Thing;"⟩
abbrev cX1_putInRow : ByteArray := prog_1_method_25_code
def yX1_putInRow : MethodName := ⟨RX1, "putInRow", "(IILFamilyProbes$Thing;)I"⟩
abbrev cX1_answerOf : ByteArray := prog_1_method_26_code
def yX1_answerOf : MethodName := ⟨RX1, "answerOf", "(LFamilyProbes$Thing;III)I"⟩
abbrev cX1_callOf : ByteArray := prog_1_method_27_code
def yX1_callOf : MethodName := ⟨RX1, "callOf", "(LFamilyProbes$Thing;I)I"⟩
abbrev cX1_twiceOf : ByteArray := prog_1_method_28_code
def yX1_twiceOf : MethodName := ⟨RX1, "twiceOf", "(LFamilyProbes$Thing;I)I"⟩
abbrev cX1_twiceAsLoud : ByteArray := prog_1_method_29_code
def yX1_twiceAsLoud : MethodName := ⟨RX1, "twiceAsLoud", "(LFamilyProbes$Thing;I)I"⟩
abbrev cX1_twiceAsSoft : ByteArray := prog_1_method_30_code
def yX1_twiceAsSoft : MethodName := ⟨RX1, "twiceAsSoft", "(LFamilyProbes$Thing;I)I"⟩
abbrev cX1_volumeOf : ByteArray := prog_1_method_31_code
def yX1_volumeOf : MethodName := ⟨RX1, "volumeOf", "(LFamilyProbes$Thing;I)I"⟩
abbrev cX1_weightOf : ByteArray := prog_1_method_32_code
def yX1_weightOf : MethodName := ⟨RX1, "weightOf", "(LFamilyProbes$Thing;)I"⟩
abbrev cX1_weightAsBase : ByteArray := prog_1_method_33_code
def yX1_weightAsBase : MethodName := ⟨RX1, "weightAsBase", "(LFamilyProbes$Thing;)I"⟩
abbrev cX1_weightAsCat : ByteArray := prog_1_method_34_code
def yX1_weightAsCat : MethodName := ⟨RX1, "weightAsCat", "(LFamilyProbes$Thing;)I"⟩
abbrev cX1_seedOf : ByteArray := prog_1_method_35_code
def yX1_seedOf : MethodName := ⟨RX1, "seedOf", "(LFamilyProbes$Thing;)I"⟩
abbrev cX1_markOf : ByteArray := prog_1_method_36_code
def yX1_markOf : MethodName := ⟨RX1, "markOf", "(I)I"⟩
abbrev cX1_toneOf : ByteArray := prog_1_method_37_code
def yX1_toneOf : MethodName := ⟨RX1, "toneOf", "(I)I"⟩
abbrev cX1_rankOf : ByteArray := prog_1_method_38_code
def yX1_rankOf : MethodName := ⟨RX1, "rankOf", "(II)I"⟩
abbrev cX1_divideNoting : ByteArray := prog_1_method_39_code
def yX1_divideNoting : MethodName := ⟨RX1, "divideNoting", "(II)I"⟩
abbrev cX1_countTurns : ByteArray := prog_1_method_40_code
def yX1_countTurns : MethodName := ⟨RX1, "countTurns", "(II)I"⟩
abbrev cX1_openWorkClose : ByteArray := prog_1_method_41_code
def yX1_openWorkClose : MethodName := ⟨RX1, "openWorkClose", "(II)I"⟩
abbrev cX1_withFailure : ByteArray := prog_1_method_42_code
def yX1_withFailure : MethodName := ⟨RX1, "withFailure", "(II)I"⟩
abbrev cX1_workByWord : ByteArray := prog_1_method_43_code
def yX1_workByWord : MethodName := ⟨RX1, "workByWord", "(II)I"⟩
abbrev cX1_squareInRow : ByteArray := prog_1_method_44_code
def yX1_squareInRow : MethodName := ⟨RX1, "squareInRow", "(II)I"⟩
abbrev cX1_putAtToldPlace : ByteArray := prog_1_method_45_code
def yX1_putAtToldPlace : MethodName := ⟨RX1, "putAtToldPlace", "(I)I"⟩
abbrev cX1_quotientOfDoubles : ByteArray := prog_1_method_46_code
def yX1_quotientOfDoubles : MethodName := ⟨RX1, "quotientOfDoubles", "(II)I"⟩
abbrev cX1_decimalLength : ByteArray := prog_1_method_47_code
def yX1_decimalLength : MethodName := ⟨RX1, "decimalLength", "(I)I"⟩
def RL : String := "FamilyProbesLaw"
abbrev cL_law : ByteArray := code
def yL_law : MethodName := ⟨RL, "law", "([I)Z"⟩
def wsX0_init : List Cond := .code yX0_init cX0_init 4 none :: ([.methodLink RX0 1 objectInit, .instanceMethod objectInit, .code objectInit ⟨#[0xb1]⟩ 1 none, .fieldLink RX0 7 "FamilyProbes$Thing" "kind" "I", .fieldLink RX0 13 "FamilyProbes$Thing" "n" "I", .fieldLink RX0 16 "FamilyProbes$Thing" "source" "LFamilyProbes$Thing;", .fieldLink RX0 20 "FamilyProbes$Thing" "repeaters" "I"] ++ wsX00)
def wsX1_init : List Cond := .code yX1_init cX1_init 1 none :: ([.methodLink RX1 3 objectInit, .instanceMethod objectInit, .code objectInit ⟨#[0xb1]⟩ 1 none, .classLink RX1 9 RX0, .instantiable RX0 6, .initialized RX0, .fieldLink RX1 14 "FamilyProbes" "wren" "LFamilyProbes$Thing;", .fieldLink RX1 18 "FamilyProbes" "owl" "LFamilyProbes$Thing;", .fieldLink RX1 21 "FamilyProbes" "slots" "[LFamilyProbes$Thing;", .fieldLink RX1 25 "FamilyProbes" "places" "[LFamilyProbes$Thing;", .fieldLink RX1 28 "FamilyProbes" "passing" "[LFamilyProbes$Thing;", .arrayClass .int, .fieldLink RX1 31 "FamilyProbes" "lastEvents" "[I", .instanceMethod yX0_init, .code yX0_init cX0_init 4 none, .methodLink RX0 1 objectInit, .fieldLink RX0 7 "FamilyProbes$Thing" "kind" "I", .fieldLink RX0 13 "FamilyProbes$Thing" "n" "I", .fieldLink RX0 16 "FamilyProbes$Thing" "source" "LFamilyProbes$Thing;", .fieldLink RX0 20 "FamilyProbes$Thing" "repeaters" "I"] ++ wsX00 ++ wsX10)
def wsX1_isBelow : List Cond := .code yX1_isBelow cX1_isBelow 2 (some .boolean) :: ([])
def wsX1_putRepeater : List Cond := .code yX1_putRepeater cX1_putRepeater 3 (some .int) :: ([.fieldLink RX1 21 "FamilyProbes" "slots" "[LFamilyProbes$Thing;", .classLink RX1 9 RX0, .instantiable RX0 6, .initialized RX0, .instanceMethod yX0_init, .code yX0_init cX0_init 4 none, .methodLink RX0 1 objectInit, .instanceMethod objectInit, .code objectInit ⟨#[0xb1]⟩ 1 none, .fieldLink RX0 7 "FamilyProbes$Thing" "kind" "I", .fieldLink RX0 13 "FamilyProbes$Thing" "n" "I", .fieldLink RX0 16 "FamilyProbes$Thing" "source" "LFamilyProbes$Thing;", .fieldLink RX0 20 "FamilyProbes$Thing" "repeaters" "I"] ++ wsX00 ++ wsX10)
def wsX1_seedOf : List Cond := .code yX1_seedOf cX1_seedOf 1 (some .int) :: ([] ++ wsX00)
def wsX1_note : List Cond := .code yX1_note cX1_note 2 none :: ([.fieldLink RX1 31 "FamilyProbes" "lastEvents" "[I", .fieldLink RX1 112 "FamilyProbes" "eventCount" "I"] ++ wsX10)
def wsX1_newBase : List Cond := .code yX1_newBase cX1_newBase 4 (some (.object "FamilyProbes$Thing")) :: ([.classLink RX1 9 RX0, .instantiable RX0 6, .initialized RX0, .instanceMethod yX0_init, .code yX0_init cX0_init 4 none, .methodLink RX0 1 objectInit, .instanceMethod objectInit, .code objectInit ⟨#[0xb1]⟩ 1 none, .fieldLink RX0 7 "FamilyProbes$Thing" "kind" "I", .fieldLink RX0 13 "FamilyProbes$Thing" "n" "I", .fieldLink RX0 16 "FamilyProbes$Thing" "source" "LFamilyProbes$Thing;", .fieldLink RX0 20 "FamilyProbes$Thing" "repeaters" "I", .methodLink RX1 127 yX1_seedOf, .static yX1_seedOf, .initialized RX1, .code yX1_seedOf cX1_seedOf 1 (some .int), .methodLink RX1 131 yX1_note, .instanceMethod yX1_note, .selects RX1 yX1_note yX1_note, .code yX1_note cX1_note 2 none, .fieldLink RX1 31 "FamilyProbes" "lastEvents" "[I", .fieldLink RX1 112 "FamilyProbes" "eventCount" "I"] ++ wsX00 ++ wsX10)
def wsX1_newThing_r1 : List Cond := [Cond.fieldLink RX1 14 "FamilyProbes" "wren" "LFamilyProbes$Thing;", Cond.fieldLink RX1 18 "FamilyProbes" "owl" "LFamilyProbes$Thing;", Cond.classLink RX1 9 RX0, Cond.instantiable RX0 6, Cond.initialized RX0, Cond.methodLink RX1 124 yX1_newBase, Cond.instanceMethod yX1_newBase, Cond.selects RX1 yX1_newBase yX1_newBase, Cond.initialized RX1, Cond.code yX1_newBase cX1_newBase 4 (some (.object "FamilyProbes$Thing")), Cond.instanceMethod yX0_init, Cond.code yX0_init cX0_init 4 none, Cond.methodLink RX0 1 objectInit, Cond.instanceMethod objectInit, Cond.code objectInit ⟨#[0xb1]⟩ 1 none, Cond.fieldLink RX0 7 "FamilyProbes$Thing" "kind" "I", Cond.fieldLink RX0 13 "FamilyProbes$Thing" "n" "I", Cond.fieldLink RX0 16 "FamilyProbes$Thing" "source" "LFamilyProbes$Thing;", Cond.fieldLink RX0 20 "FamilyProbes$Thing" "repeaters" "I", Cond.methodLink RX1 127 yX1_seedOf, Cond.static yX1_seedOf, Cond.code yX1_seedOf cX1_seedOf 1 (some .int), Cond.methodLink RX1 131 yX1_note, Cond.instanceMethod yX1_note]
def wsX1_newThing_r2 : List Cond := [Cond.selects RX1 yX1_note yX1_note, Cond.code yX1_note cX1_note 2 none, Cond.fieldLink RX1 31 "FamilyProbes" "lastEvents" "[I", Cond.fieldLink RX1 112 "FamilyProbes" "eventCount" "I"]
def wsX1_newThing : List Cond := .code yX1_newThing cX1_newThing 3 (some (.object "FamilyProbes$Thing")) :: ((wsX1_newThing_r1 ++ wsX1_newThing_r2) ++ wsX10 ++ wsX00)
def wsX1_make_r1 : List Cond := [Cond.fieldLink RX1 21 "FamilyProbes" "slots" "[LFamilyProbes$Thing;", Cond.methodLink RX1 35 yX1_isBelow, Cond.static yX1_isBelow, Cond.initialized RX1, Cond.code yX1_isBelow cX1_isBelow 2 (some .boolean), Cond.methodLink RX1 39 yX1_putRepeater, Cond.instanceMethod yX1_putRepeater, Cond.selects RX1 yX1_putRepeater yX1_putRepeater, Cond.code yX1_putRepeater cX1_putRepeater 3 (some .int), Cond.classLink RX1 9 RX0, Cond.instantiable RX0 6, Cond.initialized RX0, Cond.instanceMethod yX0_init, Cond.code yX0_init cX0_init 4 none, Cond.methodLink RX0 1 objectInit, Cond.instanceMethod objectInit, Cond.code objectInit ⟨#[0xb1]⟩ 1 none, Cond.fieldLink RX0 7 "FamilyProbes$Thing" "kind" "I", Cond.fieldLink RX0 13 "FamilyProbes$Thing" "n" "I", Cond.fieldLink RX0 16 "FamilyProbes$Thing" "source" "LFamilyProbes$Thing;", Cond.fieldLink RX0 20 "FamilyProbes$Thing" "repeaters" "I", Cond.methodLink RX1 43 yX1_newThing, Cond.instanceMethod yX1_newThing, Cond.selects RX1 yX1_newThing yX1_newThing]
def wsX1_make_r2 : List Cond := [Cond.code yX1_newThing cX1_newThing 3 (some (.object "FamilyProbes$Thing")), Cond.fieldLink RX1 14 "FamilyProbes" "wren" "LFamilyProbes$Thing;", Cond.fieldLink RX1 18 "FamilyProbes" "owl" "LFamilyProbes$Thing;", Cond.methodLink RX1 124 yX1_newBase, Cond.instanceMethod yX1_newBase, Cond.selects RX1 yX1_newBase yX1_newBase, Cond.code yX1_newBase cX1_newBase 4 (some (.object "FamilyProbes$Thing")), Cond.methodLink RX1 127 yX1_seedOf, Cond.static yX1_seedOf, Cond.code yX1_seedOf cX1_seedOf 1 (some .int), Cond.methodLink RX1 131 yX1_note, Cond.instanceMethod yX1_note, Cond.selects RX1 yX1_note yX1_note, Cond.code yX1_note cX1_note 2 none, Cond.fieldLink RX1 31 "FamilyProbes" "lastEvents" "[I", Cond.fieldLink RX1 112 "FamilyProbes" "eventCount" "I"]
def wsX1_make : List Cond := .code yX1_make cX1_make 4 (some .int) :: ((wsX1_make_r1 ++ wsX1_make_r2) ++ wsX10 ++ wsX00)
def wsX1_drop : List Cond := .code yX1_drop cX1_drop 3 (some .int) :: ([.fieldLink RX1 21 "FamilyProbes" "slots" "[LFamilyProbes$Thing;", .methodLink RX1 35 yX1_isBelow, .static yX1_isBelow, .initialized RX1, .code yX1_isBelow cX1_isBelow 2 (some .boolean)] ++ wsX10)
def wsX1_holds : List Cond := .code yX1_holds cX1_holds 2 (some .boolean) :: ([])
def wsX1_toneOf : List Cond := .code yX1_toneOf cX1_toneOf 1 (some .int) :: ([])
def wsX1_wentWith : List Cond := .code yX1_wentWith cX1_wentWith 2 (some .int) :: ([.fieldLink RX1 72 "FamilyProbes" "lastValue" "I"] ++ wsX10)
def wsX1_rankOf : List Cond := .code yX1_rankOf cX1_rankOf 2 (some .int) :: ([])
def wsX1_isOfType : List Cond := .code yX1_isOfType cX1_isOfType 2 (some .boolean) :: ([.fieldLink RX1 115 "FamilyProbes" "TYPES_OF_KIND" "[I", .methodLink RX1 50 yX1_holds, .static yX1_holds, .initialized RX1, .code yX1_holds cX1_holds 2 (some .boolean)] ++ wsX00)
def wsX1_callOf : List Cond := .code yX1_callOf cX1_callOf 5 (some .int) :: ([.fieldLink RX1 169 "FamilyProbes" "shadowCalls" "I"] ++ wsX00 ++ wsX10)
def wsX1_twiceAsLoud : List Cond := .code yX1_twiceAsLoud cX1_twiceAsLoud 3 (some .int) :: ([.methodLink RX1 144 yX1_callOf, .instanceMethod yX1_callOf, .selects RX1 yX1_callOf yX1_callOf, .initialized RX1, .code yX1_callOf cX1_callOf 5 (some .int), .fieldLink RX1 169 "FamilyProbes" "shadowCalls" "I"] ++ wsX00 ++ wsX10)
def wsX1_twiceAsSoft : List Cond := .code yX1_twiceAsSoft cX1_twiceAsSoft 3 (some .int) :: ([.methodLink RX1 144 yX1_callOf, .instanceMethod yX1_callOf, .selects RX1 yX1_callOf yX1_callOf, .initialized RX1, .code yX1_callOf cX1_callOf 5 (some .int), .fieldLink RX1 169 "FamilyProbes" "shadowCalls" "I"] ++ wsX00 ++ wsX10)
def wsX1_twiceOf : List Cond := .code yX1_twiceOf cX1_twiceOf 3 (some .int) :: ([.methodLink RX1 172 yX1_twiceAsLoud, .instanceMethod yX1_twiceAsLoud, .selects RX1 yX1_twiceAsLoud yX1_twiceAsLoud, .initialized RX1, .code yX1_twiceAsLoud cX1_twiceAsLoud 3 (some .int), .methodLink RX1 144 yX1_callOf, .instanceMethod yX1_callOf, .selects RX1 yX1_callOf yX1_callOf, .code yX1_callOf cX1_callOf 5 (some .int), .fieldLink RX1 169 "FamilyProbes" "shadowCalls" "I", .methodLink RX1 175 yX1_twiceAsSoft, .instanceMethod yX1_twiceAsSoft, .selects RX1 yX1_twiceAsSoft yX1_twiceAsSoft, .code yX1_twiceAsSoft cX1_twiceAsSoft 3 (some .int)] ++ wsX00 ++ wsX10)
def wsX1_volumeOf : List Cond := .code yX1_volumeOf cX1_volumeOf 2 (some .int) :: ([] ++ wsX00)
def wsX1_weightAsBase : List Cond := .code yX1_weightAsBase cX1_weightAsBase 1 (some .int) :: ([] ++ wsX00)
def wsX1_weightAsCat : List Cond := .code yX1_weightAsCat cX1_weightAsCat 1 (some .int) :: ([] ++ wsX00)
def wsX1_weightOf : List Cond := .code yX1_weightOf cX1_weightOf 1 (some .int) :: ([.methodLink RX1 160 yX1_weightAsBase, .static yX1_weightAsBase, .initialized RX1, .code yX1_weightAsBase cX1_weightAsBase 1 (some .int), .methodLink RX1 163 yX1_weightAsCat, .static yX1_weightAsCat, .code yX1_weightAsCat cX1_weightAsCat 1 (some .int)] ++ wsX00)
def wsX1_markOf : List Cond := .code yX1_markOf cX1_markOf 1 (some .int) :: ([])
def wsX1_answerOf_r1 : List Cond := [Cond.methodLink RX1 144 yX1_callOf, Cond.instanceMethod yX1_callOf, Cond.selects RX1 yX1_callOf yX1_callOf, Cond.initialized RX1, Cond.code yX1_callOf cX1_callOf 5 (some .int), Cond.fieldLink RX1 169 "FamilyProbes" "shadowCalls" "I", Cond.methodLink RX1 148 yX1_twiceOf, Cond.instanceMethod yX1_twiceOf, Cond.selects RX1 yX1_twiceOf yX1_twiceOf, Cond.code yX1_twiceOf cX1_twiceOf 3 (some .int), Cond.methodLink RX1 172 yX1_twiceAsLoud, Cond.instanceMethod yX1_twiceAsLoud, Cond.selects RX1 yX1_twiceAsLoud yX1_twiceAsLoud, Cond.code yX1_twiceAsLoud cX1_twiceAsLoud 3 (some .int), Cond.methodLink RX1 175 yX1_twiceAsSoft, Cond.instanceMethod yX1_twiceAsSoft, Cond.selects RX1 yX1_twiceAsSoft yX1_twiceAsSoft, Cond.code yX1_twiceAsSoft cX1_twiceAsSoft 3 (some .int), Cond.methodLink RX1 151 yX1_volumeOf, Cond.static yX1_volumeOf, Cond.code yX1_volumeOf cX1_volumeOf 2 (some .int), Cond.methodLink RX1 154 yX1_weightOf, Cond.static yX1_weightOf, Cond.code yX1_weightOf cX1_weightOf 1 (some .int)]
def wsX1_answerOf_r2 : List Cond := [Cond.methodLink RX1 160 yX1_weightAsBase, Cond.static yX1_weightAsBase, Cond.code yX1_weightAsBase cX1_weightAsBase 1 (some .int), Cond.methodLink RX1 163 yX1_weightAsCat, Cond.static yX1_weightAsCat, Cond.code yX1_weightAsCat cX1_weightAsCat 1 (some .int), Cond.methodLink RX1 157 yX1_markOf, Cond.static yX1_markOf, Cond.code yX1_markOf cX1_markOf 1 (some .int), Cond.methodLink RX1 127 yX1_seedOf, Cond.static yX1_seedOf, Cond.code yX1_seedOf cX1_seedOf 1 (some .int)]
def wsX1_answerOf : List Cond := .code yX1_answerOf cX1_answerOf 5 (some .int) :: ((wsX1_answerOf_r1 ++ wsX1_answerOf_r2) ++ wsX00 ++ wsX10)
def wsX1_probe_r1 : List Cond := [Cond.fieldLink RX1 47 "FamilyProbes" "TYPES_WITH_MEMBER" "[I", Cond.fieldLink RX1 21 "FamilyProbes" "slots" "[LFamilyProbes$Thing;", Cond.methodLink RX1 35 yX1_isBelow, Cond.static yX1_isBelow, Cond.initialized RX1, Cond.code yX1_isBelow cX1_isBelow 2 (some .boolean), Cond.methodLink RX1 50 yX1_holds, Cond.static yX1_holds, Cond.code yX1_holds cX1_holds 2 (some .boolean), Cond.methodLink RX1 53 yX1_toneOf, Cond.static yX1_toneOf, Cond.code yX1_toneOf cX1_toneOf 1 (some .int), Cond.methodLink RX1 57 yX1_wentWith, Cond.instanceMethod yX1_wentWith, Cond.selects RX1 yX1_wentWith yX1_wentWith, Cond.code yX1_wentWith cX1_wentWith 2 (some .int), Cond.fieldLink RX1 72 "FamilyProbes" "lastValue" "I", Cond.methodLink RX1 60 yX1_rankOf, Cond.static yX1_rankOf, Cond.code yX1_rankOf cX1_rankOf 2 (some .int), Cond.methodLink RX1 64 yX1_isOfType, Cond.static yX1_isOfType, Cond.code yX1_isOfType cX1_isOfType 2 (some .boolean), Cond.fieldLink RX1 115 "FamilyProbes" "TYPES_OF_KIND" "[I"]
def wsX1_probe_r2 : List Cond := [Cond.methodLink RX1 68 yX1_answerOf, Cond.instanceMethod yX1_answerOf, Cond.selects RX1 yX1_answerOf yX1_answerOf, Cond.code yX1_answerOf cX1_answerOf 5 (some .int), Cond.methodLink RX1 144 yX1_callOf, Cond.instanceMethod yX1_callOf, Cond.selects RX1 yX1_callOf yX1_callOf, Cond.code yX1_callOf cX1_callOf 5 (some .int), Cond.fieldLink RX1 169 "FamilyProbes" "shadowCalls" "I", Cond.methodLink RX1 148 yX1_twiceOf, Cond.instanceMethod yX1_twiceOf, Cond.selects RX1 yX1_twiceOf yX1_twiceOf, Cond.code yX1_twiceOf cX1_twiceOf 3 (some .int), Cond.methodLink RX1 172 yX1_twiceAsLoud, Cond.instanceMethod yX1_twiceAsLoud, Cond.selects RX1 yX1_twiceAsLoud yX1_twiceAsLoud, Cond.code yX1_twiceAsLoud cX1_twiceAsLoud 3 (some .int), Cond.methodLink RX1 175 yX1_twiceAsSoft, Cond.instanceMethod yX1_twiceAsSoft, Cond.selects RX1 yX1_twiceAsSoft yX1_twiceAsSoft, Cond.code yX1_twiceAsSoft cX1_twiceAsSoft 3 (some .int), Cond.methodLink RX1 151 yX1_volumeOf, Cond.static yX1_volumeOf, Cond.code yX1_volumeOf cX1_volumeOf 2 (some .int)]
def wsX1_probe_r3 : List Cond := [Cond.methodLink RX1 154 yX1_weightOf, Cond.static yX1_weightOf, Cond.code yX1_weightOf cX1_weightOf 1 (some .int), Cond.methodLink RX1 160 yX1_weightAsBase, Cond.static yX1_weightAsBase, Cond.code yX1_weightAsBase cX1_weightAsBase 1 (some .int), Cond.methodLink RX1 163 yX1_weightAsCat, Cond.static yX1_weightAsCat, Cond.code yX1_weightAsCat cX1_weightAsCat 1 (some .int), Cond.methodLink RX1 157 yX1_markOf, Cond.static yX1_markOf, Cond.code yX1_markOf cX1_markOf 1 (some .int), Cond.methodLink RX1 127 yX1_seedOf, Cond.static yX1_seedOf, Cond.code yX1_seedOf cX1_seedOf 1 (some .int)]
def wsX1_probe : List Cond := .code yX1_probe cX1_probe 7 (some .int) :: ((wsX1_probe_r1 ++ (wsX1_probe_r2 ++ wsX1_probe_r3)) ++ wsX10 ++ wsX00)
def wsX1_value : List Cond := .code yX1_value cX1_value 1 (some .int) :: ([.fieldLink RX1 72 "FamilyProbes" "lastValue" "I"] ++ wsX10)
def wsX1_is : List Cond := .code yX1_is cX1_is 4 (some .boolean) :: ([.fieldLink RX1 21 "FamilyProbes" "slots" "[LFamilyProbes$Thing;", .methodLink RX1 35 yX1_isBelow, .static yX1_isBelow, .initialized RX1, .code yX1_isBelow cX1_isBelow 2 (some .boolean), .methodLink RX1 64 yX1_isOfType, .static yX1_isOfType, .code yX1_isOfType cX1_isOfType 2 (some .boolean), .fieldLink RX1 115 "FamilyProbes" "TYPES_OF_KIND" "[I", .methodLink RX1 50 yX1_holds, .static yX1_holds, .code yX1_holds cX1_holds 2 (some .boolean)] ++ wsX10 ++ wsX00)
def wsX1_same : List Cond := .code yX1_same cX1_same 3 (some .boolean) :: ([.fieldLink RX1 21 "FamilyProbes" "slots" "[LFamilyProbes$Thing;", .methodLink RX1 35 yX1_isBelow, .static yX1_isBelow, .initialized RX1, .code yX1_isBelow cX1_isBelow 2 (some .boolean)] ++ wsX10)
def wsX1_putInRow : List Cond := .code yX1_putInRow cX1_putInRow 4 (some .int) :: ([.fieldLink RX1 141 "FamilyProbes" "TYPE_OF_ROW" "[I", .fieldLink RX1 25 "FamilyProbes" "places" "[LFamilyProbes$Thing;", .methodLink RX1 64 yX1_isOfType, .static yX1_isOfType, .initialized RX1, .code yX1_isOfType cX1_isOfType 2 (some .boolean), .fieldLink RX1 115 "FamilyProbes" "TYPES_OF_KIND" "[I", .methodLink RX1 50 yX1_holds, .static yX1_holds, .code yX1_holds cX1_holds 2 (some .boolean)] ++ wsX10 ++ wsX00)
def wsX1_store : List Cond := .code yX1_store cX1_store 4 (some .int) :: ([.fieldLink RX1 21 "FamilyProbes" "slots" "[LFamilyProbes$Thing;", .methodLink RX1 35 yX1_isBelow, .static yX1_isBelow, .initialized RX1, .code yX1_isBelow cX1_isBelow 2 (some .boolean), .methodLink RX1 76 yX1_putInRow, .instanceMethod yX1_putInRow, .selects RX1 yX1_putInRow yX1_putInRow, .code yX1_putInRow cX1_putInRow 4 (some .int), .fieldLink RX1 141 "FamilyProbes" "TYPE_OF_ROW" "[I", .fieldLink RX1 25 "FamilyProbes" "places" "[LFamilyProbes$Thing;", .methodLink RX1 64 yX1_isOfType, .static yX1_isOfType, .code yX1_isOfType cX1_isOfType 2 (some .boolean), .fieldLink RX1 115 "FamilyProbes" "TYPES_OF_KIND" "[I", .methodLink RX1 50 yX1_holds, .static yX1_holds, .code yX1_holds cX1_holds 2 (some .boolean)] ++ wsX10 ++ wsX00)
def wsX1_load : List Cond := .code yX1_load cX1_load 4 (some .int) :: ([.fieldLink RX1 21 "FamilyProbes" "slots" "[LFamilyProbes$Thing;", .fieldLink RX1 25 "FamilyProbes" "places" "[LFamilyProbes$Thing;", .methodLink RX1 35 yX1_isBelow, .static yX1_isBelow, .initialized RX1, .code yX1_isBelow cX1_isBelow 2 (some .boolean)] ++ wsX10)
def wsX1_isStretch : List Cond := .code yX1_isStretch cX1_isStretch 2 (some .boolean) :: ([])
def wsX1_copy : List Cond := .code yX1_copy cX1_copy 7 (some .int) :: ([.fieldLink RX1 28 "FamilyProbes" "passing" "[LFamilyProbes$Thing;", .fieldLink RX1 25 "FamilyProbes" "places" "[LFamilyProbes$Thing;", .methodLink RX1 35 yX1_isBelow, .static yX1_isBelow, .initialized RX1, .code yX1_isBelow cX1_isBelow 2 (some .boolean), .methodLink RX1 80 yX1_isStretch, .static yX1_isStretch, .code yX1_isStretch cX1_isStretch 2 (some .boolean), .methodLink RX1 76 yX1_putInRow, .instanceMethod yX1_putInRow, .selects RX1 yX1_putInRow yX1_putInRow, .code yX1_putInRow cX1_putInRow 4 (some .int), .fieldLink RX1 141 "FamilyProbes" "TYPE_OF_ROW" "[I", .methodLink RX1 64 yX1_isOfType, .static yX1_isOfType, .code yX1_isOfType cX1_isOfType 2 (some .boolean), .fieldLink RX1 115 "FamilyProbes" "TYPES_OF_KIND" "[I", .methodLink RX1 50 yX1_holds, .static yX1_holds, .code yX1_holds cX1_holds 2 (some .boolean)] ++ wsX10 ++ wsX00)
def wsX1_compare : List Cond := .code yX1_compare cX1_compare 5 (some .int) :: ([.fieldLink RX1 21 "FamilyProbes" "slots" "[LFamilyProbes$Thing;", .methodLink RX1 35 yX1_isBelow, .static yX1_isBelow, .initialized RX1, .code yX1_isBelow cX1_isBelow 2 (some .boolean), .methodLink RX1 64 yX1_isOfType, .static yX1_isOfType, .code yX1_isOfType cX1_isOfType 2 (some .boolean), .fieldLink RX1 115 "FamilyProbes" "TYPES_OF_KIND" "[I", .methodLink RX1 50 yX1_holds, .static yX1_holds, .code yX1_holds cX1_holds 2 (some .boolean), .methodLink RX1 57 yX1_wentWith, .instanceMethod yX1_wentWith, .selects RX1 yX1_wentWith yX1_wentWith, .code yX1_wentWith cX1_wentWith 2 (some .int), .fieldLink RX1 72 "FamilyProbes" "lastValue" "I"] ++ wsX10 ++ wsX00)
def wsX1_divideNoting : List Cond := .code yX1_divideNoting cX1_divideNoting 4 (some .int) :: ([.methodLink RX1 131 yX1_note, .instanceMethod yX1_note, .selects RX1 yX1_note yX1_note, .initialized RX1, .code yX1_note cX1_note 2 none, .fieldLink RX1 31 "FamilyProbes" "lastEvents" "[I", .fieldLink RX1 112 "FamilyProbes" "eventCount" "I"] ++ wsX10)
def wsX1_countTurns : List Cond := .code yX1_countTurns cX1_countTurns 6 (some .int) :: ([.methodLink RX1 131 yX1_note, .instanceMethod yX1_note, .selects RX1 yX1_note yX1_note, .initialized RX1, .code yX1_note cX1_note 2 none, .fieldLink RX1 31 "FamilyProbes" "lastEvents" "[I", .fieldLink RX1 112 "FamilyProbes" "eventCount" "I"] ++ wsX10)
def wsX1_withFailure : List Cond := .code yX1_withFailure cX1_withFailure 2 (some .int) :: ([])
def wsX1_openWorkClose : List Cond := .code yX1_openWorkClose cX1_openWorkClose 4 (some .int) :: ([.methodLink RX1 131 yX1_note, .instanceMethod yX1_note, .selects RX1 yX1_note yX1_note, .initialized RX1, .code yX1_note cX1_note 2 none, .fieldLink RX1 31 "FamilyProbes" "lastEvents" "[I", .fieldLink RX1 112 "FamilyProbes" "eventCount" "I", .methodLink RX1 178 yX1_withFailure, .static yX1_withFailure, .code yX1_withFailure cX1_withFailure 2 (some .int)] ++ wsX10)
def wsX1_workByWord : List Cond := .code yX1_workByWord cX1_workByWord 2 (some .int) :: ([])
def wsX1_squareInRow : List Cond := .code yX1_squareInRow cX1_squareInRow 3 (some .int) :: ([.methodLink RX1 35 yX1_isBelow, .static yX1_isBelow, .initialized RX1, .code yX1_isBelow cX1_isBelow 2 (some .boolean), .methodLink RX1 57 yX1_wentWith, .instanceMethod yX1_wentWith, .selects RX1 yX1_wentWith yX1_wentWith, .code yX1_wentWith cX1_wentWith 2 (some .int), .fieldLink RX1 72 "FamilyProbes" "lastValue" "I"] ++ wsX10)
def wsX1_putAtToldPlace : List Cond := .code yX1_putAtToldPlace cX1_putAtToldPlace 3 (some .int) :: ([])
def wsX1_flow_r1 : List Cond := [Cond.methodLink RX1 86 yX1_divideNoting, Cond.instanceMethod yX1_divideNoting, Cond.selects RX1 yX1_divideNoting yX1_divideNoting, Cond.initialized RX1, Cond.code yX1_divideNoting cX1_divideNoting 4 (some .int), Cond.methodLink RX1 131 yX1_note, Cond.instanceMethod yX1_note, Cond.selects RX1 yX1_note yX1_note, Cond.code yX1_note cX1_note 2 none, Cond.fieldLink RX1 31 "FamilyProbes" "lastEvents" "[I", Cond.fieldLink RX1 112 "FamilyProbes" "eventCount" "I", Cond.methodLink RX1 57 yX1_wentWith, Cond.instanceMethod yX1_wentWith, Cond.selects RX1 yX1_wentWith yX1_wentWith, Cond.code yX1_wentWith cX1_wentWith 2 (some .int), Cond.fieldLink RX1 72 "FamilyProbes" "lastValue" "I", Cond.methodLink RX1 89 yX1_countTurns, Cond.instanceMethod yX1_countTurns, Cond.selects RX1 yX1_countTurns yX1_countTurns, Cond.code yX1_countTurns cX1_countTurns 6 (some .int), Cond.methodLink RX1 92 yX1_openWorkClose, Cond.instanceMethod yX1_openWorkClose, Cond.selects RX1 yX1_openWorkClose yX1_openWorkClose, Cond.code yX1_openWorkClose cX1_openWorkClose 4 (some .int)]
def wsX1_flow_r2 : List Cond := [Cond.methodLink RX1 178 yX1_withFailure, Cond.static yX1_withFailure, Cond.code yX1_withFailure cX1_withFailure 2 (some .int), Cond.methodLink RX1 95 yX1_workByWord, Cond.static yX1_workByWord, Cond.code yX1_workByWord cX1_workByWord 2 (some .int), Cond.methodLink RX1 98 yX1_squareInRow, Cond.instanceMethod yX1_squareInRow, Cond.selects RX1 yX1_squareInRow yX1_squareInRow, Cond.code yX1_squareInRow cX1_squareInRow 3 (some .int), Cond.methodLink RX1 35 yX1_isBelow, Cond.static yX1_isBelow, Cond.code yX1_isBelow cX1_isBelow 2 (some .boolean), Cond.methodLink RX1 101 yX1_putAtToldPlace, Cond.static yX1_putAtToldPlace, Cond.code yX1_putAtToldPlace cX1_putAtToldPlace 3 (some .int)]
def wsX1_flow : List Cond := .code yX1_flow cX1_flow 4 (some .int) :: ((wsX1_flow_r1 ++ wsX1_flow_r2) ++ wsX10)
def wsX1_quotientOfDoubles : List Cond := .code yX1_quotientOfDoubles cX1_quotientOfDoubles 2 (some .int) :: ([.constant RX1 181 (2147483647), .constant RX1 182 (-2147483648)])
def wsX1_decimalLength : List Cond := .code yX1_decimalLength cX1_decimalLength 4 (some .int) :: ([])
def wsX1_number : List Cond := .code yX1_number cX1_number 4 (some .int) :: ([.constantDouble RX1 107 (4604930618986332160), .methodLink RX1 57 yX1_wentWith, .instanceMethod yX1_wentWith, .selects RX1 yX1_wentWith yX1_wentWith, .initialized RX1, .code yX1_wentWith cX1_wentWith 2 (some .int), .fieldLink RX1 72 "FamilyProbes" "lastValue" "I", .methodLink RX1 104 yX1_quotientOfDoubles, .static yX1_quotientOfDoubles, .code yX1_quotientOfDoubles cX1_quotientOfDoubles 2 (some .int), .constant RX1 181 (2147483647), .constant RX1 182 (-2147483648), .methodLink RX1 109 yX1_decimalLength, .static yX1_decimalLength, .code yX1_decimalLength cX1_decimalLength 4 (some .int)] ++ wsX10)
def wsL_law_r1 : List Cond := [Cond.classLink RL 7 RX1, Cond.instantiable RX1 9, Cond.initialized RX1, Cond.methodLink RL 9 yX1_init, Cond.instanceMethod yX1_init, Cond.code yX1_init cX1_init 1 none, Cond.methodLink RX1 3 objectInit, Cond.instanceMethod objectInit, Cond.code objectInit ⟨#[0xb1]⟩ 1 none, Cond.classLink RX1 9 RX0, Cond.instantiable RX0 6, Cond.initialized RX0, Cond.fieldLink RX1 14 "FamilyProbes" "wren" "LFamilyProbes$Thing;", Cond.fieldLink RX1 18 "FamilyProbes" "owl" "LFamilyProbes$Thing;", Cond.fieldLink RX1 21 "FamilyProbes" "slots" "[LFamilyProbes$Thing;", Cond.fieldLink RX1 25 "FamilyProbes" "places" "[LFamilyProbes$Thing;", Cond.fieldLink RX1 28 "FamilyProbes" "passing" "[LFamilyProbes$Thing;", Cond.arrayClass .int, Cond.fieldLink RX1 31 "FamilyProbes" "lastEvents" "[I", Cond.instanceMethod yX0_init, Cond.code yX0_init cX0_init 4 none, Cond.methodLink RX0 1 objectInit, Cond.fieldLink RX0 7 "FamilyProbes$Thing" "kind" "I", Cond.fieldLink RX0 13 "FamilyProbes$Thing" "n" "I"]
def wsL_law_r2 : List Cond := [Cond.fieldLink RX0 16 "FamilyProbes$Thing" "source" "LFamilyProbes$Thing;", Cond.fieldLink RX0 20 "FamilyProbes$Thing" "repeaters" "I", Cond.methodLink RL 13 yX1_make, Cond.instanceMethod yX1_make, Cond.selects RX1 yX1_make yX1_make, Cond.code yX1_make cX1_make 4 (some .int), Cond.methodLink RX1 35 yX1_isBelow, Cond.static yX1_isBelow, Cond.code yX1_isBelow cX1_isBelow 2 (some .boolean), Cond.methodLink RX1 39 yX1_putRepeater, Cond.instanceMethod yX1_putRepeater, Cond.selects RX1 yX1_putRepeater yX1_putRepeater, Cond.code yX1_putRepeater cX1_putRepeater 3 (some .int), Cond.methodLink RX1 43 yX1_newThing, Cond.instanceMethod yX1_newThing, Cond.selects RX1 yX1_newThing yX1_newThing, Cond.code yX1_newThing cX1_newThing 3 (some (.object "FamilyProbes$Thing")), Cond.methodLink RX1 124 yX1_newBase, Cond.instanceMethod yX1_newBase, Cond.selects RX1 yX1_newBase yX1_newBase, Cond.code yX1_newBase cX1_newBase 4 (some (.object "FamilyProbes$Thing")), Cond.methodLink RX1 127 yX1_seedOf, Cond.static yX1_seedOf, Cond.code yX1_seedOf cX1_seedOf 1 (some .int)]
def wsL_law_r3 : List Cond := [Cond.methodLink RX1 131 yX1_note, Cond.instanceMethod yX1_note, Cond.selects RX1 yX1_note yX1_note, Cond.code yX1_note cX1_note 2 none, Cond.fieldLink RX1 112 "FamilyProbes" "eventCount" "I", Cond.methodLink RL 18 yX1_drop, Cond.instanceMethod yX1_drop, Cond.selects RX1 yX1_drop yX1_drop, Cond.code yX1_drop cX1_drop 3 (some .int), Cond.methodLink RL 23 yX1_probe, Cond.instanceMethod yX1_probe, Cond.selects RX1 yX1_probe yX1_probe, Cond.code yX1_probe cX1_probe 7 (some .int), Cond.fieldLink RX1 47 "FamilyProbes" "TYPES_WITH_MEMBER" "[I", Cond.methodLink RX1 50 yX1_holds, Cond.static yX1_holds, Cond.code yX1_holds cX1_holds 2 (some .boolean), Cond.methodLink RX1 53 yX1_toneOf, Cond.static yX1_toneOf, Cond.code yX1_toneOf cX1_toneOf 1 (some .int), Cond.methodLink RX1 57 yX1_wentWith, Cond.instanceMethod yX1_wentWith, Cond.selects RX1 yX1_wentWith yX1_wentWith, Cond.code yX1_wentWith cX1_wentWith 2 (some .int)]
def wsL_law_r4 : List Cond := [Cond.fieldLink RX1 72 "FamilyProbes" "lastValue" "I", Cond.methodLink RX1 60 yX1_rankOf, Cond.static yX1_rankOf, Cond.code yX1_rankOf cX1_rankOf 2 (some .int), Cond.methodLink RX1 64 yX1_isOfType, Cond.static yX1_isOfType, Cond.code yX1_isOfType cX1_isOfType 2 (some .boolean), Cond.fieldLink RX1 115 "FamilyProbes" "TYPES_OF_KIND" "[I", Cond.methodLink RX1 68 yX1_answerOf, Cond.instanceMethod yX1_answerOf, Cond.selects RX1 yX1_answerOf yX1_answerOf, Cond.code yX1_answerOf cX1_answerOf 5 (some .int), Cond.methodLink RX1 144 yX1_callOf, Cond.instanceMethod yX1_callOf, Cond.selects RX1 yX1_callOf yX1_callOf, Cond.code yX1_callOf cX1_callOf 5 (some .int), Cond.fieldLink RX1 169 "FamilyProbes" "shadowCalls" "I", Cond.methodLink RX1 148 yX1_twiceOf, Cond.instanceMethod yX1_twiceOf, Cond.selects RX1 yX1_twiceOf yX1_twiceOf, Cond.code yX1_twiceOf cX1_twiceOf 3 (some .int), Cond.methodLink RX1 172 yX1_twiceAsLoud, Cond.instanceMethod yX1_twiceAsLoud, Cond.selects RX1 yX1_twiceAsLoud yX1_twiceAsLoud]
def wsL_law_r5 : List Cond := [Cond.code yX1_twiceAsLoud cX1_twiceAsLoud 3 (some .int), Cond.methodLink RX1 175 yX1_twiceAsSoft, Cond.instanceMethod yX1_twiceAsSoft, Cond.selects RX1 yX1_twiceAsSoft yX1_twiceAsSoft, Cond.code yX1_twiceAsSoft cX1_twiceAsSoft 3 (some .int), Cond.methodLink RX1 151 yX1_volumeOf, Cond.static yX1_volumeOf, Cond.code yX1_volumeOf cX1_volumeOf 2 (some .int), Cond.methodLink RX1 154 yX1_weightOf, Cond.static yX1_weightOf, Cond.code yX1_weightOf cX1_weightOf 1 (some .int), Cond.methodLink RX1 160 yX1_weightAsBase, Cond.static yX1_weightAsBase, Cond.code yX1_weightAsBase cX1_weightAsBase 1 (some .int), Cond.methodLink RX1 163 yX1_weightAsCat, Cond.static yX1_weightAsCat, Cond.code yX1_weightAsCat cX1_weightAsCat 1 (some .int), Cond.methodLink RX1 157 yX1_markOf, Cond.static yX1_markOf, Cond.code yX1_markOf cX1_markOf 1 (some .int), Cond.methodLink RL 28 yX1_value, Cond.instanceMethod yX1_value, Cond.selects RX1 yX1_value yX1_value, Cond.code yX1_value cX1_value 1 (some .int)]
def wsL_law_r6 : List Cond := [Cond.methodLink RL 33 yX1_is, Cond.instanceMethod yX1_is, Cond.selects RX1 yX1_is yX1_is, Cond.code yX1_is cX1_is 4 (some .boolean), Cond.methodLink RL 38 yX1_same, Cond.instanceMethod yX1_same, Cond.selects RX1 yX1_same yX1_same, Cond.code yX1_same cX1_same 3 (some .boolean), Cond.methodLink RL 42 yX1_store, Cond.instanceMethod yX1_store, Cond.selects RX1 yX1_store yX1_store, Cond.code yX1_store cX1_store 4 (some .int), Cond.methodLink RX1 76 yX1_putInRow, Cond.instanceMethod yX1_putInRow, Cond.selects RX1 yX1_putInRow yX1_putInRow, Cond.code yX1_putInRow cX1_putInRow 4 (some .int), Cond.fieldLink RX1 141 "FamilyProbes" "TYPE_OF_ROW" "[I", Cond.methodLink RL 46 yX1_load, Cond.instanceMethod yX1_load, Cond.selects RX1 yX1_load yX1_load, Cond.code yX1_load cX1_load 4 (some .int), Cond.methodLink RL 50 yX1_copy, Cond.instanceMethod yX1_copy, Cond.selects RX1 yX1_copy yX1_copy]
def wsL_law_r7 : List Cond := [Cond.code yX1_copy cX1_copy 7 (some .int), Cond.methodLink RX1 80 yX1_isStretch, Cond.static yX1_isStretch, Cond.code yX1_isStretch cX1_isStretch 2 (some .boolean), Cond.methodLink RL 54 yX1_compare, Cond.instanceMethod yX1_compare, Cond.selects RX1 yX1_compare yX1_compare, Cond.code yX1_compare cX1_compare 5 (some .int), Cond.methodLink RL 59 yX1_flow, Cond.instanceMethod yX1_flow, Cond.selects RX1 yX1_flow yX1_flow, Cond.code yX1_flow cX1_flow 4 (some .int), Cond.methodLink RX1 86 yX1_divideNoting, Cond.instanceMethod yX1_divideNoting, Cond.selects RX1 yX1_divideNoting yX1_divideNoting, Cond.code yX1_divideNoting cX1_divideNoting 4 (some .int), Cond.methodLink RX1 89 yX1_countTurns, Cond.instanceMethod yX1_countTurns, Cond.selects RX1 yX1_countTurns yX1_countTurns, Cond.code yX1_countTurns cX1_countTurns 6 (some .int), Cond.methodLink RX1 92 yX1_openWorkClose, Cond.instanceMethod yX1_openWorkClose, Cond.selects RX1 yX1_openWorkClose yX1_openWorkClose, Cond.code yX1_openWorkClose cX1_openWorkClose 4 (some .int)]
def wsL_law_r8 : List Cond := [Cond.methodLink RX1 178 yX1_withFailure, Cond.static yX1_withFailure, Cond.code yX1_withFailure cX1_withFailure 2 (some .int), Cond.methodLink RX1 95 yX1_workByWord, Cond.static yX1_workByWord, Cond.code yX1_workByWord cX1_workByWord 2 (some .int), Cond.methodLink RX1 98 yX1_squareInRow, Cond.instanceMethod yX1_squareInRow, Cond.selects RX1 yX1_squareInRow yX1_squareInRow, Cond.code yX1_squareInRow cX1_squareInRow 3 (some .int), Cond.methodLink RX1 101 yX1_putAtToldPlace, Cond.static yX1_putAtToldPlace, Cond.code yX1_putAtToldPlace cX1_putAtToldPlace 3 (some .int), Cond.methodLink RL 63 yX1_number, Cond.instanceMethod yX1_number, Cond.selects RX1 yX1_number yX1_number, Cond.code yX1_number cX1_number 4 (some .int), Cond.constantDouble RX1 107 (4604930618986332160), Cond.methodLink RX1 104 yX1_quotientOfDoubles, Cond.static yX1_quotientOfDoubles, Cond.code yX1_quotientOfDoubles cX1_quotientOfDoubles 2 (some .int), Cond.constant RX1 181 (2147483647), Cond.constant RX1 182 (-2147483648), Cond.methodLink RX1 109 yX1_decimalLength]
def wsL_law_r9 : List Cond := [Cond.static yX1_decimalLength, Cond.code yX1_decimalLength cX1_decimalLength 4 (some .int)]
def wsL_law : List Cond := (wsL_law_r1 ++ (wsL_law_r2 ++ (wsL_law_r3 ++ (wsL_law_r4 ++ (wsL_law_r5 ++ (wsL_law_r6 ++ (wsL_law_r7 ++ (wsL_law_r8 ++ wsL_law_r9)))))))) ++ wsX10 ++ wsX00 ++ ([] : List Cond)
set_option maxRecDepth 20000 in
theorem wsL_law_in : ∀ w ∈ wsL_law, w ∈ lw_tbl := fun w h => (goodIn_p wsL_law [36, 39, 44, 102, 105, 109, 113, 117, 120, 124, 128, 132, 137, 140, 144, 147, 150, 156, 160, 164, 168, 172, 175, 178, 181, 184, 187, 191, 195, 199, 203, 207, 213, 217, 220, 224, 228, 232, 236, 240, 243, 246, 250, 253, 257, 260, 266] (by decide +kernel) (by decide +kernel) w h).1
theorem inlX0 : ∀ w ∈ wsX00, w ∈ wsL_law := fun _ h => List.mem_append_left _ (List.mem_append_right _ h)
theorem inX0 : ∀ w ∈ wsX00, w ∈ lw_tbl := fun w h => wsL_law_in w (inlX0 w h)
theorem inlX1 : ∀ w ∈ wsX10, w ∈ wsL_law := fun _ h => List.mem_append_left _ (List.mem_append_left _ (List.mem_append_right _ h))
theorem inX1 : ∀ w ∈ wsX10, w ∈ lw_tbl := fun w h => wsL_law_in w (inlX1 w h)

theorem dX0_init_0 : decode cX0_init 0 = .ok (.aload_n 0, 1) := by decide +kernel
theorem dX0_init_1 : decode cX0_init 1 = .ok (.invokespecial 1, 3) := by decide +kernel
theorem dX0_init_4 : decode cX0_init 4 = .ok (.aload_n 0, 1) := by decide +kernel
theorem dX0_init_5 : decode cX0_init 5 = .ok (.iload_n 1, 1) := by decide +kernel
theorem dX0_init_6 : decode cX0_init 6 = .ok (.putfield 7, 3) := by decide +kernel
theorem dX0_init_9 : decode cX0_init 9 = .ok (.aload_n 0, 1) := by decide +kernel
theorem dX0_init_10 : decode cX0_init 10 = .ok (.iload_n 2, 1) := by decide +kernel
theorem dX0_init_11 : decode cX0_init 11 = .ok (.putfield 13, 3) := by decide +kernel
theorem dX0_init_14 : decode cX0_init 14 = .ok (.aload_n 0, 1) := by decide +kernel
theorem dX0_init_15 : decode cX0_init 15 = .ok (.aload_n 3, 1) := by decide +kernel
theorem dX0_init_16 : decode cX0_init 16 = .ok (.putfield 16, 3) := by decide +kernel
theorem dX0_init_19 : decode cX0_init 19 = .ok (.aload_n 0, 1) := by decide +kernel
theorem dX0_init_20 : decode cX0_init 20 = .ok (.aload_n 3, 1) := by decide +kernel
theorem dX0_init_21 : decode cX0_init 21 = .ok (.ifnonnull 7, 3) := by decide +kernel
theorem dX0_init_24 : decode cX0_init 24 = .ok (.iconst 0, 1) := by decide +kernel
theorem dX0_init_25 : decode cX0_init 25 = .ok (.goto 9, 3) := by decide +kernel
theorem dX0_init_28 : decode cX0_init 28 = .ok (.aload_n 3, 1) := by decide +kernel
theorem dX0_init_29 : decode cX0_init 29 = .ok (.getfield 20, 3) := by decide +kernel
theorem dX0_init_32 : decode cX0_init 32 = .ok (.iconst 1, 1) := by decide +kernel
theorem dX0_init_33 : decode cX0_init 33 = .ok (.iadd, 1) := by decide +kernel
theorem dX0_init_34 : decode cX0_init 34 = .ok (.putfield 20, 3) := by decide +kernel
theorem dX0_init_37 : decode cX0_init 37 = .ok (.return_, 1) := by decide +kernel
set_option maxRecDepth 20000 in
theorem ggX1_init_X0_init : GoodIn wsX1_init wsX0_init := goodIn_r _ [15, 16, 2, 3, 17, 18, 19, 20, 21, 22, 23, 24, 25, 26] (by decide +kernel) (by decide +kernel)
set_option maxRecDepth 20000 in
theorem gX1_init_X0_init_n11 : GoodIn wsX1_init (wsX0_init) := ggX1_init_X0_init
theorem dX1_init_0 : decode cX1_init 0 = .ok (.aload_n 0, 1) := by decide +kernel
theorem dX1_init_1 : decode cX1_init 1 = .ok (.invokespecial 3, 3) := by decide +kernel
theorem dX1_init_4 : decode cX1_init 4 = .ok (.aload_n 0, 1) := by decide +kernel
theorem dX1_init_5 : decode cX1_init 5 = .ok (.new 9, 3) := by decide +kernel
theorem dX1_init_8 : decode cX1_init 8 = .ok (.dup, 1) := by decide +kernel
theorem dX1_init_9 : decode cX1_init 9 = .ok (.iconst 4, 1) := by decide +kernel
theorem dX1_init_10 : decode cX1_init 10 = .ok (.iconst 2, 1) := by decide +kernel
theorem dX1_init_11 : decode cX1_init 11 = .ok (.aconst_null, 1) := by decide +kernel
theorem dX1_init_12 : decode cX1_init 12 = .ok (.invokespecial 11, 3) := by decide +kernel
theorem dX1_init_15 : decode cX1_init 15 = .ok (.putfield 14, 3) := by decide +kernel
theorem dX1_init_18 : decode cX1_init 18 = .ok (.aload_n 0, 1) := by decide +kernel
theorem dX1_init_19 : decode cX1_init 19 = .ok (.new 9, 3) := by decide +kernel
theorem dX1_init_22 : decode cX1_init 22 = .ok (.dup, 1) := by decide +kernel
theorem dX1_init_23 : decode cX1_init 23 = .ok (.iconst 5, 1) := by decide +kernel
theorem dX1_init_24 : decode cX1_init 24 = .ok (.bipush 9, 2) := by decide +kernel
theorem dX1_init_26 : decode cX1_init 26 = .ok (.aconst_null, 1) := by decide +kernel
theorem dX1_init_27 : decode cX1_init 27 = .ok (.invokespecial 11, 3) := by decide +kernel
theorem dX1_init_30 : decode cX1_init 30 = .ok (.putfield 18, 3) := by decide +kernel
theorem dX1_init_33 : decode cX1_init 33 = .ok (.aload_n 0, 1) := by decide +kernel
theorem dX1_init_34 : decode cX1_init 34 = .ok (.bipush 8, 2) := by decide +kernel
theorem dX1_init_36 : decode cX1_init 36 = .ok (.anewarray 9, 3) := by decide +kernel
theorem dX1_init_39 : decode cX1_init 39 = .ok (.putfield 21, 3) := by decide +kernel
theorem dX1_init_42 : decode cX1_init 42 = .ok (.aload_n 0, 1) := by decide +kernel
theorem dX1_init_43 : decode cX1_init 43 = .ok (.bipush 16, 2) := by decide +kernel
theorem dX1_init_45 : decode cX1_init 45 = .ok (.anewarray 9, 3) := by decide +kernel
theorem dX1_init_48 : decode cX1_init 48 = .ok (.putfield 25, 3) := by decide +kernel
theorem dX1_init_51 : decode cX1_init 51 = .ok (.aload_n 0, 1) := by decide +kernel
theorem dX1_init_52 : decode cX1_init 52 = .ok (.iconst 4, 1) := by decide +kernel
theorem dX1_init_53 : decode cX1_init 53 = .ok (.anewarray 9, 3) := by decide +kernel
theorem dX1_init_56 : decode cX1_init 56 = .ok (.putfield 28, 3) := by decide +kernel
theorem dX1_init_59 : decode cX1_init 59 = .ok (.aload_n 0, 1) := by decide +kernel
theorem dX1_init_60 : decode cX1_init 60 = .ok (.bipush 16, 2) := by decide +kernel
theorem dX1_init_62 : decode cX1_init 62 = .ok (.newarray .int, 2) := by decide +kernel
theorem dX1_init_64 : decode cX1_init 64 = .ok (.putfield 31, 3) := by decide +kernel
theorem dX1_init_67 : decode cX1_init 67 = .ok (.return_, 1) := by decide +kernel
set_option maxRecDepth 20000 in
theorem ggX1_make_X1_isBelow : GoodIn wsX1_make wsX1_isBelow := goodIn_r _ [5] (by decide +kernel) (by decide +kernel)
set_option maxRecDepth 20000 in
theorem gX1_make_X1_isBelow : GoodIn wsX1_make (va_wsS RX1 35 yX1_isBelow wsX1_isBelow) := goodIn_app (goodIn_of _ (by decide +kernel)) ggX1_make_X1_isBelow
set_option maxRecDepth 20000 in
theorem ggX1_make_X1_putRepeater : GoodIn wsX1_make wsX1_putRepeater := goodIn_r _ [9, 1, 10, 11, 12, 13, 14, 15, 16, 17, 18, 19, 20, 21, 50, 51, 52, 53, 54, 55, 41, 42, 43, 44, 45, 46, 47, 48, 49] (by decide +kernel) (by decide +kernel)
set_option maxRecDepth 20000 in
theorem gX1_make_X1_putRepeater : GoodIn wsX1_make (wsV RX1 39 RX1 yX1_putRepeater wsX1_putRepeater) := goodIn_app (goodIn_of _ (by decide +kernel)) ggX1_make_X1_putRepeater
set_option maxRecDepth 20000 in
theorem ggX1_make_X1_newThing : GoodIn wsX1_make wsX1_newThing := goodIn_r _ [25, 26, 27, 10, 11, 12, 28, 29, 30, 4, 31, 13, 14, 15, 16, 17, 18, 19, 20, 21, 32, 33, 34, 35, 36, 37, 38, 39, 40, 41, 42, 43, 44, 45, 46, 47, 48, 49, 50, 51, 52, 53, 54, 55] (by decide +kernel) (by decide +kernel)
set_option maxRecDepth 20000 in
theorem gX1_make_X1_newThing : GoodIn wsX1_make (wsV RX1 43 RX1 yX1_newThing wsX1_newThing) := goodIn_app (goodIn_of _ (by decide +kernel)) ggX1_make_X1_newThing
theorem dX1_make_0 : decode cX1_make 0 = .ok (.iload_n 1, 1) := by decide +kernel
theorem dX1_make_1 : decode cX1_make 1 = .ok (.bipush 8, 2) := by decide +kernel
theorem dX1_make_3 : decode cX1_make 3 = .ok (.invokestatic 35, 3) := by decide +kernel
theorem dX1_make_6 : decode cX1_make 6 = .ok (.ifCond .eq 12, 3) := by decide +kernel
theorem dX1_make_9 : decode cX1_make 9 = .ok (.iload_n 2, 1) := by decide +kernel
theorem dX1_make_10 : decode cX1_make 10 = .ok (.bipush 10, 2) := by decide +kernel
theorem dX1_make_12 : decode cX1_make 12 = .ok (.invokestatic 35, 3) := by decide +kernel
theorem dX1_make_15 : decode cX1_make 15 = .ok (.ifCond .ne 5, 3) := by decide +kernel
theorem dX1_make_18 : decode cX1_make 18 = .ok (.iconst (-1), 1) := by decide +kernel
theorem dX1_make_19 : decode cX1_make 19 = .ok (.ireturn, 1) := by decide +kernel
theorem dX1_make_20 : decode cX1_make 20 = .ok (.iload_n 2, 1) := by decide +kernel
theorem dX1_make_21 : decode cX1_make 21 = .ok (.bipush 8, 2) := by decide +kernel
theorem dX1_make_23 : decode cX1_make 23 = .ok (.if_icmp .ne 18, 3) := by decide +kernel
theorem dX1_make_26 : decode cX1_make 26 = .ok (.aload_n 0, 1) := by decide +kernel
theorem dX1_make_27 : decode cX1_make 27 = .ok (.iload_n 1, 1) := by decide +kernel
theorem dX1_make_28 : decode cX1_make 28 = .ok (.aload_n 0, 1) := by decide +kernel
theorem dX1_make_29 : decode cX1_make 29 = .ok (.getfield 21, 3) := by decide +kernel
theorem dX1_make_32 : decode cX1_make 32 = .ok (.iload_n 3, 1) := by decide +kernel
theorem dX1_make_33 : decode cX1_make 33 = .ok (.bipush 7, 2) := by decide +kernel
theorem dX1_make_35 : decode cX1_make 35 = .ok (.iand, 1) := by decide +kernel
theorem dX1_make_36 : decode cX1_make 36 = .ok (.aaload, 1) := by decide +kernel
theorem dX1_make_37 : decode cX1_make 37 = .ok (.invokevirtual 39, 3) := by decide +kernel
theorem dX1_make_40 : decode cX1_make 40 = .ok (.ireturn, 1) := by decide +kernel
theorem dX1_make_41 : decode cX1_make 41 = .ok (.aload_n 0, 1) := by decide +kernel
theorem dX1_make_42 : decode cX1_make 42 = .ok (.getfield 21, 3) := by decide +kernel
theorem dX1_make_45 : decode cX1_make 45 = .ok (.iload_n 1, 1) := by decide +kernel
theorem dX1_make_46 : decode cX1_make 46 = .ok (.aload_n 0, 1) := by decide +kernel
theorem dX1_make_47 : decode cX1_make 47 = .ok (.iload_n 2, 1) := by decide +kernel
theorem dX1_make_48 : decode cX1_make 48 = .ok (.iload_n 3, 1) := by decide +kernel
theorem dX1_make_49 : decode cX1_make 49 = .ok (.invokevirtual 43, 3) := by decide +kernel
theorem dX1_make_52 : decode cX1_make 52 = .ok (.aastore, 1) := by decide +kernel
theorem dX1_make_53 : decode cX1_make 53 = .ok (.iconst 0, 1) := by decide +kernel
theorem dX1_make_54 : decode cX1_make 54 = .ok (.ireturn, 1) := by decide +kernel
set_option maxRecDepth 20000 in
theorem ggX1_drop_X1_isBelow : GoodIn wsX1_drop wsX1_isBelow := goodIn_r _ [5] (by decide +kernel) (by decide +kernel)
set_option maxRecDepth 20000 in
theorem gX1_drop_X1_isBelow : GoodIn wsX1_drop (va_wsS RX1 35 yX1_isBelow wsX1_isBelow) := goodIn_app (goodIn_of _ (by decide +kernel)) ggX1_drop_X1_isBelow
theorem dX1_drop_0 : decode cX1_drop 0 = .ok (.iload_n 1, 1) := by decide +kernel
theorem dX1_drop_1 : decode cX1_drop 1 = .ok (.bipush 8, 2) := by decide +kernel
theorem dX1_drop_3 : decode cX1_drop 3 = .ok (.invokestatic 35, 3) := by decide +kernel
theorem dX1_drop_6 : decode cX1_drop 6 = .ok (.ifCond .ne 5, 3) := by decide +kernel
theorem dX1_drop_9 : decode cX1_drop 9 = .ok (.iconst (-1), 1) := by decide +kernel
theorem dX1_drop_10 : decode cX1_drop 10 = .ok (.ireturn, 1) := by decide +kernel
theorem dX1_drop_11 : decode cX1_drop 11 = .ok (.aload_n 0, 1) := by decide +kernel
theorem dX1_drop_12 : decode cX1_drop 12 = .ok (.getfield 21, 3) := by decide +kernel
theorem dX1_drop_15 : decode cX1_drop 15 = .ok (.iload_n 1, 1) := by decide +kernel
theorem dX1_drop_16 : decode cX1_drop 16 = .ok (.aaload, 1) := by decide +kernel
theorem dX1_drop_17 : decode cX1_drop 17 = .ok (.ifnonnull 7, 3) := by decide +kernel
theorem dX1_drop_20 : decode cX1_drop 20 = .ok (.iconst 2, 1) := by decide +kernel
theorem dX1_drop_21 : decode cX1_drop 21 = .ok (.goto 4, 3) := by decide +kernel
theorem dX1_drop_24 : decode cX1_drop 24 = .ok (.iconst 0, 1) := by decide +kernel
theorem dX1_drop_25 : decode cX1_drop 25 = .ok (.istore_n 2, 1) := by decide +kernel
theorem dX1_drop_26 : decode cX1_drop 26 = .ok (.aload_n 0, 1) := by decide +kernel
theorem dX1_drop_27 : decode cX1_drop 27 = .ok (.getfield 21, 3) := by decide +kernel
theorem dX1_drop_30 : decode cX1_drop 30 = .ok (.iload_n 1, 1) := by decide +kernel
theorem dX1_drop_31 : decode cX1_drop 31 = .ok (.aconst_null, 1) := by decide +kernel
theorem dX1_drop_32 : decode cX1_drop 32 = .ok (.aastore, 1) := by decide +kernel
theorem dX1_drop_33 : decode cX1_drop 33 = .ok (.iload_n 2, 1) := by decide +kernel
theorem dX1_drop_34 : decode cX1_drop 34 = .ok (.ireturn, 1) := by decide +kernel
set_option maxRecDepth 20000 in
theorem ggX1_probe_X1_isBelow : GoodIn wsX1_probe wsX1_isBelow := goodIn_r _ [6] (by decide +kernel) (by decide +kernel)
set_option maxRecDepth 20000 in
theorem gX1_probe_X1_isBelow : GoodIn wsX1_probe (va_wsS RX1 35 yX1_isBelow wsX1_isBelow) := goodIn_app (goodIn_of _ (by decide +kernel)) ggX1_probe_X1_isBelow
set_option maxRecDepth 20000 in
theorem ggX1_probe_X1_holds : GoodIn wsX1_probe wsX1_holds := goodIn_r _ [9] (by decide +kernel) (by decide +kernel)
set_option maxRecDepth 20000 in
theorem gX1_probe_X1_holds : GoodIn wsX1_probe (va_wsS RX1 50 yX1_holds wsX1_holds) := goodIn_app (goodIn_of _ (by decide +kernel)) ggX1_probe_X1_holds
set_option maxRecDepth 20000 in
theorem ggX1_probe_X1_toneOf : GoodIn wsX1_probe wsX1_toneOf := goodIn_r _ [12] (by decide +kernel) (by decide +kernel)
set_option maxRecDepth 20000 in
theorem gX1_probe_X1_toneOf : GoodIn wsX1_probe (va_wsS RX1 53 yX1_toneOf wsX1_toneOf) := goodIn_app (goodIn_of _ (by decide +kernel)) ggX1_probe_X1_toneOf
set_option maxRecDepth 20000 in
theorem ggX1_probe_X1_wentWith : GoodIn wsX1_probe wsX1_wentWith := goodIn_r _ [16, 17, 64, 65, 66, 67, 68, 69, 70, 71, 72] (by decide +kernel) (by decide +kernel)
set_option maxRecDepth 20000 in
theorem gX1_probe_X1_wentWith : GoodIn wsX1_probe (wsV RX1 57 RX1 yX1_wentWith wsX1_wentWith) := goodIn_app (goodIn_of _ (by decide +kernel)) ggX1_probe_X1_wentWith
set_option maxRecDepth 20000 in
theorem ggX1_probe_X1_rankOf : GoodIn wsX1_probe wsX1_rankOf := goodIn_r _ [20] (by decide +kernel) (by decide +kernel)
set_option maxRecDepth 20000 in
theorem gX1_probe_X1_rankOf : GoodIn wsX1_probe (va_wsS RX1 60 yX1_rankOf wsX1_rankOf) := goodIn_app (goodIn_of _ (by decide +kernel)) ggX1_probe_X1_rankOf
set_option maxRecDepth 20000 in
theorem ggX1_probe_X1_isOfType : GoodIn wsX1_probe wsX1_isOfType := goodIn_r _ [23, 24, 7, 8, 5, 9, 73, 74, 75, 76, 77, 78] (by decide +kernel) (by decide +kernel)
set_option maxRecDepth 20000 in
theorem gX1_probe_X1_isOfType : GoodIn wsX1_probe (va_wsS RX1 64 yX1_isOfType wsX1_isOfType) := goodIn_app (goodIn_of _ (by decide +kernel)) ggX1_probe_X1_isOfType
set_option maxRecDepth 20000 in
theorem ggX1_probe_X1_answerOf : GoodIn wsX1_probe wsX1_answerOf := goodIn_r _ [28, 29, 30, 31, 5, 32, 33, 34, 35, 36, 37, 38, 39, 40, 41, 42, 43, 44, 45, 46, 47, 48, 49, 50, 51, 52, 53, 54, 55, 56, 57, 58, 59, 60, 61, 62, 63, 73, 74, 75, 76, 77, 78, 64, 65, 66, 67, 68, 69, 70, 71, 72] (by decide +kernel) (by decide +kernel)
set_option maxRecDepth 20000 in
theorem gX1_probe_X1_answerOf : GoodIn wsX1_probe (wsV RX1 68 RX1 yX1_answerOf wsX1_answerOf) := goodIn_app (goodIn_of _ (by decide +kernel)) ggX1_probe_X1_answerOf
theorem dX1_probe_0 : decode cX1_probe 0 = .ok (.iload_n 1, 1) := by decide +kernel
theorem dX1_probe_1 : decode cX1_probe 1 = .ok (.bipush 8, 2) := by decide +kernel
theorem dX1_probe_3 : decode cX1_probe 3 = .ok (.invokestatic 35, 3) := by decide +kernel
theorem dX1_probe_6 : decode cX1_probe 6 = .ok (.ifCond .eq 42, 3) := by decide +kernel
theorem dX1_probe_9 : decode cX1_probe 9 = .ok (.iload_n 2, 1) := by decide +kernel
theorem dX1_probe_10 : decode cX1_probe 10 = .ok (.bipush 9, 2) := by decide +kernel
theorem dX1_probe_12 : decode cX1_probe 12 = .ok (.invokestatic 35, 3) := by decide +kernel
theorem dX1_probe_15 : decode cX1_probe 15 = .ok (.ifCond .eq 33, 3) := by decide +kernel
theorem dX1_probe_18 : decode cX1_probe 18 = .ok (.iload_n 3, 1) := by decide +kernel
theorem dX1_probe_19 : decode cX1_probe 19 = .ok (.bipush 12, 2) := by decide +kernel
theorem dX1_probe_21 : decode cX1_probe 21 = .ok (.invokestatic 35, 3) := by decide +kernel
theorem dX1_probe_24 : decode cX1_probe 24 = .ok (.ifCond .eq 24, 3) := by decide +kernel
theorem dX1_probe_27 : decode cX1_probe 27 = .ok (.iload 5, 2) := by decide +kernel
theorem dX1_probe_29 : decode cX1_probe 29 = .ok (.iconst 4, 1) := by decide +kernel
theorem dX1_probe_30 : decode cX1_probe 30 = .ok (.invokestatic 35, 3) := by decide +kernel
theorem dX1_probe_33 : decode cX1_probe 33 = .ok (.ifCond .eq 15, 3) := by decide +kernel
theorem dX1_probe_36 : decode cX1_probe 36 = .ok (.getstatic 47, 3) := by decide +kernel
theorem dX1_probe_39 : decode cX1_probe 39 = .ok (.iload_n 3, 1) := by decide +kernel
theorem dX1_probe_40 : decode cX1_probe 40 = .ok (.iaload, 1) := by decide +kernel
theorem dX1_probe_41 : decode cX1_probe 41 = .ok (.iload_n 2, 1) := by decide +kernel
theorem dX1_probe_42 : decode cX1_probe 42 = .ok (.invokestatic 50, 3) := by decide +kernel
theorem dX1_probe_45 : decode cX1_probe 45 = .ok (.ifCond .ne 5, 3) := by decide +kernel
theorem dX1_probe_48 : decode cX1_probe 48 = .ok (.iconst (-1), 1) := by decide +kernel
theorem dX1_probe_49 : decode cX1_probe 49 = .ok (.ireturn, 1) := by decide +kernel
theorem dX1_probe_50 : decode cX1_probe 50 = .ok (.iload_n 3, 1) := by decide +kernel
theorem dX1_probe_51 : decode cX1_probe 51 = .ok (.bipush 7, 2) := by decide +kernel
theorem dX1_probe_53 : decode cX1_probe 53 = .ok (.if_icmp .ne 12, 3) := by decide +kernel
theorem dX1_probe_56 : decode cX1_probe 56 = .ok (.aload_n 0, 1) := by decide +kernel
theorem dX1_probe_57 : decode cX1_probe 57 = .ok (.iload_n 2, 1) := by decide +kernel
theorem dX1_probe_58 : decode cX1_probe 58 = .ok (.invokestatic 53, 3) := by decide +kernel
theorem dX1_probe_61 : decode cX1_probe 61 = .ok (.invokevirtual 57, 3) := by decide +kernel
theorem dX1_probe_64 : decode cX1_probe 64 = .ok (.ireturn, 1) := by decide +kernel
theorem dX1_probe_65 : decode cX1_probe 65 = .ok (.iload_n 3, 1) := by decide +kernel
theorem dX1_probe_66 : decode cX1_probe 66 = .ok (.bipush 8, 2) := by decide +kernel
theorem dX1_probe_68 : decode cX1_probe 68 = .ok (.if_icmp .ne 14, 3) := by decide +kernel
theorem dX1_probe_71 : decode cX1_probe 71 = .ok (.aload_n 0, 1) := by decide +kernel
theorem dX1_probe_72 : decode cX1_probe 72 = .ok (.iload_n 2, 1) := by decide +kernel
theorem dX1_probe_73 : decode cX1_probe 73 = .ok (.iload 4, 2) := by decide +kernel
theorem dX1_probe_75 : decode cX1_probe 75 = .ok (.invokestatic 60, 3) := by decide +kernel
theorem dX1_probe_78 : decode cX1_probe 78 = .ok (.invokevirtual 57, 3) := by decide +kernel
theorem dX1_probe_81 : decode cX1_probe 81 = .ok (.ireturn, 1) := by decide +kernel
theorem dX1_probe_82 : decode cX1_probe 82 = .ok (.aload_n 0, 1) := by decide +kernel
theorem dX1_probe_83 : decode cX1_probe 83 = .ok (.getfield 21, 3) := by decide +kernel
theorem dX1_probe_86 : decode cX1_probe 86 = .ok (.iload_n 1, 1) := by decide +kernel
theorem dX1_probe_87 : decode cX1_probe 87 = .ok (.aaload, 1) := by decide +kernel
theorem dX1_probe_88 : decode cX1_probe 88 = .ok (.astore 6, 2) := by decide +kernel
theorem dX1_probe_90 : decode cX1_probe 90 = .ok (.aload 6, 2) := by decide +kernel
theorem dX1_probe_92 : decode cX1_probe 92 = .ok (.ifnonnull 5, 3) := by decide +kernel
theorem dX1_probe_95 : decode cX1_probe 95 = .ok (.iconst 2, 1) := by decide +kernel
theorem dX1_probe_96 : decode cX1_probe 96 = .ok (.ireturn, 1) := by decide +kernel
theorem dX1_probe_97 : decode cX1_probe 97 = .ok (.aload 6, 2) := by decide +kernel
theorem dX1_probe_99 : decode cX1_probe 99 = .ok (.iload_n 2, 1) := by decide +kernel
theorem dX1_probe_100 : decode cX1_probe 100 = .ok (.invokestatic 64, 3) := by decide +kernel
theorem dX1_probe_103 : decode cX1_probe 103 = .ok (.ifCond .ne 5, 3) := by decide +kernel
theorem dX1_probe_106 : decode cX1_probe 106 = .ok (.iconst 1, 1) := by decide +kernel
theorem dX1_probe_107 : decode cX1_probe 107 = .ok (.ireturn, 1) := by decide +kernel
theorem dX1_probe_108 : decode cX1_probe 108 = .ok (.aload_n 0, 1) := by decide +kernel
theorem dX1_probe_109 : decode cX1_probe 109 = .ok (.aload_n 0, 1) := by decide +kernel
theorem dX1_probe_110 : decode cX1_probe 110 = .ok (.aload 6, 2) := by decide +kernel
theorem dX1_probe_112 : decode cX1_probe 112 = .ok (.iload_n 2, 1) := by decide +kernel
theorem dX1_probe_113 : decode cX1_probe 113 = .ok (.iload_n 3, 1) := by decide +kernel
theorem dX1_probe_114 : decode cX1_probe 114 = .ok (.iload 4, 2) := by decide +kernel
theorem dX1_probe_116 : decode cX1_probe 116 = .ok (.invokevirtual 68, 3) := by decide +kernel
theorem dX1_probe_119 : decode cX1_probe 119 = .ok (.invokevirtual 57, 3) := by decide +kernel
theorem dX1_probe_122 : decode cX1_probe 122 = .ok (.ireturn, 1) := by decide +kernel
theorem dX1_value_0 : decode cX1_value 0 = .ok (.aload_n 0, 1) := by decide +kernel
theorem dX1_value_1 : decode cX1_value 1 = .ok (.getfield 72, 3) := by decide +kernel
theorem dX1_value_4 : decode cX1_value 4 = .ok (.ireturn, 1) := by decide +kernel
set_option maxRecDepth 20000 in
theorem ggX1_is_X1_isBelow : GoodIn wsX1_is wsX1_isBelow := goodIn_r _ [5] (by decide +kernel) (by decide +kernel)
set_option maxRecDepth 20000 in
theorem gX1_is_X1_isBelow : GoodIn wsX1_is (va_wsS RX1 35 yX1_isBelow wsX1_isBelow) := goodIn_app (goodIn_of _ (by decide +kernel)) ggX1_is_X1_isBelow
set_option maxRecDepth 20000 in
theorem ggX1_is_X1_isOfType : GoodIn wsX1_is wsX1_isOfType := goodIn_r _ [8, 9, 10, 11, 4, 12, 22, 23, 24, 25, 26, 27] (by decide +kernel) (by decide +kernel)
set_option maxRecDepth 20000 in
theorem gX1_is_X1_isOfType : GoodIn wsX1_is (va_wsS RX1 64 yX1_isOfType wsX1_isOfType) := goodIn_app (goodIn_of _ (by decide +kernel)) ggX1_is_X1_isOfType
theorem dX1_is_0 : decode cX1_is 0 = .ok (.iload_n 1, 1) := by decide +kernel
theorem dX1_is_1 : decode cX1_is 1 = .ok (.bipush 8, 2) := by decide +kernel
theorem dX1_is_3 : decode cX1_is 3 = .ok (.invokestatic 35, 3) := by decide +kernel
theorem dX1_is_6 : decode cX1_is 6 = .ok (.ifCond .eq 12, 3) := by decide +kernel
theorem dX1_is_9 : decode cX1_is 9 = .ok (.iload_n 2, 1) := by decide +kernel
theorem dX1_is_10 : decode cX1_is 10 = .ok (.bipush 9, 2) := by decide +kernel
theorem dX1_is_12 : decode cX1_is 12 = .ok (.invokestatic 35, 3) := by decide +kernel
theorem dX1_is_15 : decode cX1_is 15 = .ok (.ifCond .ne 5, 3) := by decide +kernel
theorem dX1_is_18 : decode cX1_is 18 = .ok (.iconst 0, 1) := by decide +kernel
theorem dX1_is_19 : decode cX1_is 19 = .ok (.ireturn, 1) := by decide +kernel
theorem dX1_is_20 : decode cX1_is 20 = .ok (.aload_n 0, 1) := by decide +kernel
theorem dX1_is_21 : decode cX1_is 21 = .ok (.getfield 21, 3) := by decide +kernel
theorem dX1_is_24 : decode cX1_is 24 = .ok (.iload_n 1, 1) := by decide +kernel
theorem dX1_is_25 : decode cX1_is 25 = .ok (.aaload, 1) := by decide +kernel
theorem dX1_is_26 : decode cX1_is 26 = .ok (.astore_n 3, 1) := by decide +kernel
theorem dX1_is_27 : decode cX1_is 27 = .ok (.aload_n 3, 1) := by decide +kernel
theorem dX1_is_28 : decode cX1_is 28 = .ok (.ifnull 15, 3) := by decide +kernel
theorem dX1_is_31 : decode cX1_is 31 = .ok (.aload_n 3, 1) := by decide +kernel
theorem dX1_is_32 : decode cX1_is 32 = .ok (.iload_n 2, 1) := by decide +kernel
theorem dX1_is_33 : decode cX1_is 33 = .ok (.invokestatic 64, 3) := by decide +kernel
theorem dX1_is_36 : decode cX1_is 36 = .ok (.ifCond .eq 7, 3) := by decide +kernel
theorem dX1_is_39 : decode cX1_is 39 = .ok (.iconst 1, 1) := by decide +kernel
theorem dX1_is_40 : decode cX1_is 40 = .ok (.goto 4, 3) := by decide +kernel
theorem dX1_is_43 : decode cX1_is 43 = .ok (.iconst 0, 1) := by decide +kernel
theorem dX1_is_44 : decode cX1_is 44 = .ok (.ireturn, 1) := by decide +kernel
set_option maxRecDepth 20000 in
theorem ggX1_same_X1_isBelow : GoodIn wsX1_same wsX1_isBelow := goodIn_r _ [5] (by decide +kernel) (by decide +kernel)
set_option maxRecDepth 20000 in
theorem gX1_same_X1_isBelow : GoodIn wsX1_same (va_wsS RX1 35 yX1_isBelow wsX1_isBelow) := goodIn_app (goodIn_of _ (by decide +kernel)) ggX1_same_X1_isBelow
theorem dX1_same_0 : decode cX1_same 0 = .ok (.iload_n 1, 1) := by decide +kernel
theorem dX1_same_1 : decode cX1_same 1 = .ok (.bipush 8, 2) := by decide +kernel
theorem dX1_same_3 : decode cX1_same 3 = .ok (.invokestatic 35, 3) := by decide +kernel
theorem dX1_same_6 : decode cX1_same 6 = .ok (.ifCond .eq 31, 3) := by decide +kernel
theorem dX1_same_9 : decode cX1_same 9 = .ok (.iload_n 2, 1) := by decide +kernel
theorem dX1_same_10 : decode cX1_same 10 = .ok (.bipush 8, 2) := by decide +kernel
theorem dX1_same_12 : decode cX1_same 12 = .ok (.invokestatic 35, 3) := by decide +kernel
theorem dX1_same_15 : decode cX1_same 15 = .ok (.ifCond .eq 22, 3) := by decide +kernel
theorem dX1_same_18 : decode cX1_same 18 = .ok (.aload_n 0, 1) := by decide +kernel
theorem dX1_same_19 : decode cX1_same 19 = .ok (.getfield 21, 3) := by decide +kernel
theorem dX1_same_22 : decode cX1_same 22 = .ok (.iload_n 1, 1) := by decide +kernel
theorem dX1_same_23 : decode cX1_same 23 = .ok (.aaload, 1) := by decide +kernel
theorem dX1_same_24 : decode cX1_same 24 = .ok (.aload_n 0, 1) := by decide +kernel
theorem dX1_same_25 : decode cX1_same 25 = .ok (.getfield 21, 3) := by decide +kernel
theorem dX1_same_28 : decode cX1_same 28 = .ok (.iload_n 2, 1) := by decide +kernel
theorem dX1_same_29 : decode cX1_same 29 = .ok (.aaload, 1) := by decide +kernel
theorem dX1_same_30 : decode cX1_same 30 = .ok (.if_acmp .ne 7, 3) := by decide +kernel
theorem dX1_same_33 : decode cX1_same 33 = .ok (.iconst 1, 1) := by decide +kernel
theorem dX1_same_34 : decode cX1_same 34 = .ok (.goto 4, 3) := by decide +kernel
theorem dX1_same_37 : decode cX1_same 37 = .ok (.iconst 0, 1) := by decide +kernel
theorem dX1_same_38 : decode cX1_same 38 = .ok (.ireturn, 1) := by decide +kernel
set_option maxRecDepth 20000 in
theorem ggX1_store_X1_isBelow : GoodIn wsX1_store wsX1_isBelow := goodIn_r _ [5] (by decide +kernel) (by decide +kernel)
set_option maxRecDepth 20000 in
theorem gX1_store_X1_isBelow : GoodIn wsX1_store (va_wsS RX1 35 yX1_isBelow wsX1_isBelow) := goodIn_app (goodIn_of _ (by decide +kernel)) ggX1_store_X1_isBelow
set_option maxRecDepth 20000 in
theorem ggX1_store_X1_putInRow : GoodIn wsX1_store wsX1_putInRow := goodIn_r _ [9, 10, 11, 12, 13, 4, 14, 15, 16, 17, 18, 19, 20, 21, 22, 23, 24, 25, 26, 27, 28, 29, 30, 31, 32, 33] (by decide +kernel) (by decide +kernel)
set_option maxRecDepth 20000 in
theorem gX1_store_X1_putInRow : GoodIn wsX1_store (wsV RX1 76 RX1 yX1_putInRow wsX1_putInRow) := goodIn_app (goodIn_of _ (by decide +kernel)) ggX1_store_X1_putInRow
theorem dX1_store_0 : decode cX1_store 0 = .ok (.iload_n 1, 1) := by decide +kernel
theorem dX1_store_1 : decode cX1_store 1 = .ok (.iconst 4, 1) := by decide +kernel
theorem dX1_store_2 : decode cX1_store 2 = .ok (.invokestatic 35, 3) := by decide +kernel
theorem dX1_store_5 : decode cX1_store 5 = .ok (.ifCond .eq 12, 3) := by decide +kernel
theorem dX1_store_8 : decode cX1_store 8 = .ok (.iload_n 3, 1) := by decide +kernel
theorem dX1_store_9 : decode cX1_store 9 = .ok (.bipush 8, 2) := by decide +kernel
theorem dX1_store_11 : decode cX1_store 11 = .ok (.invokestatic 35, 3) := by decide +kernel
theorem dX1_store_14 : decode cX1_store 14 = .ok (.ifCond .ne 5, 3) := by decide +kernel
theorem dX1_store_17 : decode cX1_store 17 = .ok (.iconst (-1), 1) := by decide +kernel
theorem dX1_store_18 : decode cX1_store 18 = .ok (.ireturn, 1) := by decide +kernel
theorem dX1_store_19 : decode cX1_store 19 = .ok (.iload_n 2, 1) := by decide +kernel
theorem dX1_store_20 : decode cX1_store 20 = .ok (.iconst 4, 1) := by decide +kernel
theorem dX1_store_21 : decode cX1_store 21 = .ok (.invokestatic 35, 3) := by decide +kernel
theorem dX1_store_24 : decode cX1_store 24 = .ok (.ifCond .ne 5, 3) := by decide +kernel
theorem dX1_store_27 : decode cX1_store 27 = .ok (.iconst 4, 1) := by decide +kernel
theorem dX1_store_28 : decode cX1_store 28 = .ok (.ireturn, 1) := by decide +kernel
theorem dX1_store_29 : decode cX1_store 29 = .ok (.aload_n 0, 1) := by decide +kernel
theorem dX1_store_30 : decode cX1_store 30 = .ok (.iload_n 1, 1) := by decide +kernel
theorem dX1_store_31 : decode cX1_store 31 = .ok (.iload_n 2, 1) := by decide +kernel
theorem dX1_store_32 : decode cX1_store 32 = .ok (.aload_n 0, 1) := by decide +kernel
theorem dX1_store_33 : decode cX1_store 33 = .ok (.getfield 21, 3) := by decide +kernel
theorem dX1_store_36 : decode cX1_store 36 = .ok (.iload_n 3, 1) := by decide +kernel
theorem dX1_store_37 : decode cX1_store 37 = .ok (.aaload, 1) := by decide +kernel
theorem dX1_store_38 : decode cX1_store 38 = .ok (.invokevirtual 76, 3) := by decide +kernel
theorem dX1_store_41 : decode cX1_store 41 = .ok (.ireturn, 1) := by decide +kernel
set_option maxRecDepth 20000 in
theorem ggX1_load_X1_isBelow : GoodIn wsX1_load wsX1_isBelow := goodIn_r _ [6] (by decide +kernel) (by decide +kernel)
set_option maxRecDepth 20000 in
theorem gX1_load_X1_isBelow : GoodIn wsX1_load (va_wsS RX1 35 yX1_isBelow wsX1_isBelow) := goodIn_app (goodIn_of _ (by decide +kernel)) ggX1_load_X1_isBelow
theorem dX1_load_0 : decode cX1_load 0 = .ok (.iload_n 1, 1) := by decide +kernel
theorem dX1_load_1 : decode cX1_load 1 = .ok (.iconst 4, 1) := by decide +kernel
theorem dX1_load_2 : decode cX1_load 2 = .ok (.invokestatic 35, 3) := by decide +kernel
theorem dX1_load_5 : decode cX1_load 5 = .ok (.ifCond .eq 12, 3) := by decide +kernel
theorem dX1_load_8 : decode cX1_load 8 = .ok (.iload_n 3, 1) := by decide +kernel
theorem dX1_load_9 : decode cX1_load 9 = .ok (.bipush 8, 2) := by decide +kernel
theorem dX1_load_11 : decode cX1_load 11 = .ok (.invokestatic 35, 3) := by decide +kernel
theorem dX1_load_14 : decode cX1_load 14 = .ok (.ifCond .ne 5, 3) := by decide +kernel
theorem dX1_load_17 : decode cX1_load 17 = .ok (.iconst (-1), 1) := by decide +kernel
theorem dX1_load_18 : decode cX1_load 18 = .ok (.ireturn, 1) := by decide +kernel
theorem dX1_load_19 : decode cX1_load 19 = .ok (.iload_n 2, 1) := by decide +kernel
theorem dX1_load_20 : decode cX1_load 20 = .ok (.iconst 4, 1) := by decide +kernel
theorem dX1_load_21 : decode cX1_load 21 = .ok (.invokestatic 35, 3) := by decide +kernel
theorem dX1_load_24 : decode cX1_load 24 = .ok (.ifCond .ne 5, 3) := by decide +kernel
theorem dX1_load_27 : decode cX1_load 27 = .ok (.iconst 4, 1) := by decide +kernel
theorem dX1_load_28 : decode cX1_load 28 = .ok (.ireturn, 1) := by decide +kernel
theorem dX1_load_29 : decode cX1_load 29 = .ok (.aload_n 0, 1) := by decide +kernel
theorem dX1_load_30 : decode cX1_load 30 = .ok (.getfield 21, 3) := by decide +kernel
theorem dX1_load_33 : decode cX1_load 33 = .ok (.iload_n 3, 1) := by decide +kernel
theorem dX1_load_34 : decode cX1_load 34 = .ok (.aload_n 0, 1) := by decide +kernel
theorem dX1_load_35 : decode cX1_load 35 = .ok (.getfield 25, 3) := by decide +kernel
theorem dX1_load_38 : decode cX1_load 38 = .ok (.iload_n 1, 1) := by decide +kernel
theorem dX1_load_39 : decode cX1_load 39 = .ok (.iconst 4, 1) := by decide +kernel
theorem dX1_load_40 : decode cX1_load 40 = .ok (.imul, 1) := by decide +kernel
theorem dX1_load_41 : decode cX1_load 41 = .ok (.iload_n 2, 1) := by decide +kernel
theorem dX1_load_42 : decode cX1_load 42 = .ok (.iadd, 1) := by decide +kernel
theorem dX1_load_43 : decode cX1_load 43 = .ok (.aaload, 1) := by decide +kernel
theorem dX1_load_44 : decode cX1_load 44 = .ok (.aastore, 1) := by decide +kernel
theorem dX1_load_45 : decode cX1_load 45 = .ok (.iconst 0, 1) := by decide +kernel
theorem dX1_load_46 : decode cX1_load 46 = .ok (.ireturn, 1) := by decide +kernel
set_option maxRecDepth 20000 in
theorem ggX1_copy_X1_isBelow : GoodIn wsX1_copy wsX1_isBelow := goodIn_r _ [6] (by decide +kernel) (by decide +kernel)
set_option maxRecDepth 20000 in
theorem gX1_copy_X1_isBelow : GoodIn wsX1_copy (va_wsS RX1 35 yX1_isBelow wsX1_isBelow) := goodIn_app (goodIn_of _ (by decide +kernel)) ggX1_copy_X1_isBelow
set_option maxRecDepth 20000 in
theorem ggX1_copy_X1_isStretch : GoodIn wsX1_copy wsX1_isStretch := goodIn_r _ [9] (by decide +kernel) (by decide +kernel)
set_option maxRecDepth 20000 in
theorem gX1_copy_X1_isStretch : GoodIn wsX1_copy (va_wsS RX1 80 yX1_isStretch wsX1_isStretch) := goodIn_app (goodIn_of _ (by decide +kernel)) ggX1_copy_X1_isStretch
set_option maxRecDepth 20000 in
theorem ggX1_copy_X1_putInRow : GoodIn wsX1_copy wsX1_putInRow := goodIn_r _ [13, 14, 2, 15, 16, 5, 17, 18, 19, 20, 21, 22, 23, 24, 25, 26, 27, 28, 29, 30, 31, 32, 33, 34, 35, 36] (by decide +kernel) (by decide +kernel)
set_option maxRecDepth 20000 in
theorem gX1_copy_X1_putInRow : GoodIn wsX1_copy (wsV RX1 76 RX1 yX1_putInRow wsX1_putInRow) := goodIn_app (goodIn_of _ (by decide +kernel)) ggX1_copy_X1_putInRow
theorem dX1_copy_0 : decode cX1_copy 0 = .ok (.iload_n 1, 1) := by decide +kernel
theorem dX1_copy_1 : decode cX1_copy 1 = .ok (.iconst 4, 1) := by decide +kernel
theorem dX1_copy_2 : decode cX1_copy 2 = .ok (.invokestatic 35, 3) := by decide +kernel
theorem dX1_copy_5 : decode cX1_copy 5 = .ok (.ifCond .eq 11, 3) := by decide +kernel
theorem dX1_copy_8 : decode cX1_copy 8 = .ok (.iload_n 3, 1) := by decide +kernel
theorem dX1_copy_9 : decode cX1_copy 9 = .ok (.iconst 4, 1) := by decide +kernel
theorem dX1_copy_10 : decode cX1_copy 10 = .ok (.invokestatic 35, 3) := by decide +kernel
theorem dX1_copy_13 : decode cX1_copy 13 = .ok (.ifCond .ne 5, 3) := by decide +kernel
theorem dX1_copy_16 : decode cX1_copy 16 = .ok (.iconst (-1), 1) := by decide +kernel
theorem dX1_copy_17 : decode cX1_copy 17 = .ok (.ireturn, 1) := by decide +kernel
theorem dX1_copy_18 : decode cX1_copy 18 = .ok (.iload_n 2, 1) := by decide +kernel
theorem dX1_copy_19 : decode cX1_copy 19 = .ok (.iload 5, 2) := by decide +kernel
theorem dX1_copy_21 : decode cX1_copy 21 = .ok (.invokestatic 80, 3) := by decide +kernel
theorem dX1_copy_24 : decode cX1_copy 24 = .ok (.ifCond .eq 13, 3) := by decide +kernel
theorem dX1_copy_27 : decode cX1_copy 27 = .ok (.iload 4, 2) := by decide +kernel
theorem dX1_copy_29 : decode cX1_copy 29 = .ok (.iload 5, 2) := by decide +kernel
theorem dX1_copy_31 : decode cX1_copy 31 = .ok (.invokestatic 80, 3) := by decide +kernel
theorem dX1_copy_34 : decode cX1_copy 34 = .ok (.ifCond .ne 5, 3) := by decide +kernel
theorem dX1_copy_37 : decode cX1_copy 37 = .ok (.iconst 4, 1) := by decide +kernel
theorem dX1_copy_38 : decode cX1_copy 38 = .ok (.ireturn, 1) := by decide +kernel
theorem dX1_copy_39 : decode cX1_copy 39 = .ok (.iconst 0, 1) := by decide +kernel
theorem dX1_copy_40 : decode cX1_copy 40 = .ok (.istore 6, 2) := by decide +kernel
theorem dX1_copy_42 : decode cX1_copy 42 = .ok (.iload 6, 2) := by decide +kernel
theorem dX1_copy_44 : decode cX1_copy 44 = .ok (.iload 5, 2) := by decide +kernel
theorem dX1_copy_46 : decode cX1_copy 46 = .ok (.if_icmp .ge 29, 3) := by decide +kernel
theorem dX1_copy_49 : decode cX1_copy 49 = .ok (.aload_n 0, 1) := by decide +kernel
theorem dX1_copy_50 : decode cX1_copy 50 = .ok (.getfield 28, 3) := by decide +kernel
theorem dX1_copy_53 : decode cX1_copy 53 = .ok (.iload 6, 2) := by decide +kernel
theorem dX1_copy_55 : decode cX1_copy 55 = .ok (.aload_n 0, 1) := by decide +kernel
theorem dX1_copy_56 : decode cX1_copy 56 = .ok (.getfield 25, 3) := by decide +kernel
theorem dX1_copy_59 : decode cX1_copy 59 = .ok (.iload_n 1, 1) := by decide +kernel
theorem dX1_copy_60 : decode cX1_copy 60 = .ok (.iconst 4, 1) := by decide +kernel
theorem dX1_copy_61 : decode cX1_copy 61 = .ok (.imul, 1) := by decide +kernel
theorem dX1_copy_62 : decode cX1_copy 62 = .ok (.iload_n 2, 1) := by decide +kernel
theorem dX1_copy_63 : decode cX1_copy 63 = .ok (.iadd, 1) := by decide +kernel
theorem dX1_copy_64 : decode cX1_copy 64 = .ok (.iload 6, 2) := by decide +kernel
theorem dX1_copy_66 : decode cX1_copy 66 = .ok (.iadd, 1) := by decide +kernel
theorem dX1_copy_67 : decode cX1_copy 67 = .ok (.aaload, 1) := by decide +kernel
theorem dX1_copy_68 : decode cX1_copy 68 = .ok (.aastore, 1) := by decide +kernel
theorem dX1_copy_69 : decode cX1_copy 69 = .ok (.iinc 6 1, 3) := by decide +kernel
theorem dX1_copy_72 : decode cX1_copy 72 = .ok (.goto (-30), 3) := by decide +kernel
theorem dX1_copy_75 : decode cX1_copy 75 = .ok (.iconst 0, 1) := by decide +kernel
theorem dX1_copy_76 : decode cX1_copy 76 = .ok (.istore 6, 2) := by decide +kernel
theorem dX1_copy_78 : decode cX1_copy 78 = .ok (.iload 6, 2) := by decide +kernel
theorem dX1_copy_80 : decode cX1_copy 80 = .ok (.iload 5, 2) := by decide +kernel
theorem dX1_copy_82 : decode cX1_copy 82 = .ok (.if_icmp .ge 32, 3) := by decide +kernel
theorem dX1_copy_85 : decode cX1_copy 85 = .ok (.aload_n 0, 1) := by decide +kernel
theorem dX1_copy_86 : decode cX1_copy 86 = .ok (.iload_n 3, 1) := by decide +kernel
theorem dX1_copy_87 : decode cX1_copy 87 = .ok (.iload 4, 2) := by decide +kernel
theorem dX1_copy_89 : decode cX1_copy 89 = .ok (.iload 6, 2) := by decide +kernel
theorem dX1_copy_91 : decode cX1_copy 91 = .ok (.iadd, 1) := by decide +kernel
theorem dX1_copy_92 : decode cX1_copy 92 = .ok (.aload_n 0, 1) := by decide +kernel
theorem dX1_copy_93 : decode cX1_copy 93 = .ok (.getfield 28, 3) := by decide +kernel
theorem dX1_copy_96 : decode cX1_copy 96 = .ok (.iload 6, 2) := by decide +kernel
theorem dX1_copy_98 : decode cX1_copy 98 = .ok (.aaload, 1) := by decide +kernel
theorem dX1_copy_99 : decode cX1_copy 99 = .ok (.invokevirtual 76, 3) := by decide +kernel
theorem dX1_copy_102 : decode cX1_copy 102 = .ok (.iconst 3, 1) := by decide +kernel
theorem dX1_copy_103 : decode cX1_copy 103 = .ok (.if_icmp .ne 5, 3) := by decide +kernel
theorem dX1_copy_106 : decode cX1_copy 106 = .ok (.iconst 3, 1) := by decide +kernel
theorem dX1_copy_107 : decode cX1_copy 107 = .ok (.ireturn, 1) := by decide +kernel
theorem dX1_copy_108 : decode cX1_copy 108 = .ok (.iinc 6 1, 3) := by decide +kernel
theorem dX1_copy_111 : decode cX1_copy 111 = .ok (.goto (-33), 3) := by decide +kernel
theorem dX1_copy_114 : decode cX1_copy 114 = .ok (.iconst 0, 1) := by decide +kernel
theorem dX1_copy_115 : decode cX1_copy 115 = .ok (.ireturn, 1) := by decide +kernel
set_option maxRecDepth 20000 in
theorem ggX1_compare_X1_isBelow : GoodIn wsX1_compare wsX1_isBelow := goodIn_r _ [5] (by decide +kernel) (by decide +kernel)
set_option maxRecDepth 20000 in
theorem gX1_compare_X1_isBelow : GoodIn wsX1_compare (va_wsS RX1 35 yX1_isBelow wsX1_isBelow) := goodIn_app (goodIn_of _ (by decide +kernel)) ggX1_compare_X1_isBelow
set_option maxRecDepth 20000 in
theorem ggX1_compare_X1_isOfType : GoodIn wsX1_compare wsX1_isOfType := goodIn_r _ [8, 9, 10, 11, 4, 12, 27, 28, 29, 30, 31, 32] (by decide +kernel) (by decide +kernel)
set_option maxRecDepth 20000 in
theorem gX1_compare_X1_isOfType : GoodIn wsX1_compare (va_wsS RX1 64 yX1_isOfType wsX1_isOfType) := goodIn_app (goodIn_of _ (by decide +kernel)) ggX1_compare_X1_isOfType
set_option maxRecDepth 20000 in
theorem ggX1_compare_X1_wentWith : GoodIn wsX1_compare wsX1_wentWith := goodIn_r _ [16, 17, 18, 19, 20, 21, 22, 23, 24, 25, 26] (by decide +kernel) (by decide +kernel)
set_option maxRecDepth 20000 in
theorem gX1_compare_X1_wentWith : GoodIn wsX1_compare (wsV RX1 57 RX1 yX1_wentWith wsX1_wentWith) := goodIn_app (goodIn_of _ (by decide +kernel)) ggX1_compare_X1_wentWith
theorem dX1_compare_0 : decode cX1_compare 0 = .ok (.iload_n 1, 1) := by decide +kernel
theorem dX1_compare_1 : decode cX1_compare 1 = .ok (.bipush 8, 2) := by decide +kernel
theorem dX1_compare_3 : decode cX1_compare 3 = .ok (.invokestatic 35, 3) := by decide +kernel
theorem dX1_compare_6 : decode cX1_compare 6 = .ok (.ifCond .eq 12, 3) := by decide +kernel
theorem dX1_compare_9 : decode cX1_compare 9 = .ok (.iload_n 2, 1) := by decide +kernel
theorem dX1_compare_10 : decode cX1_compare 10 = .ok (.bipush 8, 2) := by decide +kernel
theorem dX1_compare_12 : decode cX1_compare 12 = .ok (.invokestatic 35, 3) := by decide +kernel
theorem dX1_compare_15 : decode cX1_compare 15 = .ok (.ifCond .ne 5, 3) := by decide +kernel
theorem dX1_compare_18 : decode cX1_compare 18 = .ok (.iconst (-1), 1) := by decide +kernel
theorem dX1_compare_19 : decode cX1_compare 19 = .ok (.ireturn, 1) := by decide +kernel
theorem dX1_compare_20 : decode cX1_compare 20 = .ok (.aload_n 0, 1) := by decide +kernel
theorem dX1_compare_21 : decode cX1_compare 21 = .ok (.getfield 21, 3) := by decide +kernel
theorem dX1_compare_24 : decode cX1_compare 24 = .ok (.iload_n 1, 1) := by decide +kernel
theorem dX1_compare_25 : decode cX1_compare 25 = .ok (.aaload, 1) := by decide +kernel
theorem dX1_compare_26 : decode cX1_compare 26 = .ok (.astore_n 3, 1) := by decide +kernel
theorem dX1_compare_27 : decode cX1_compare 27 = .ok (.aload_n 0, 1) := by decide +kernel
theorem dX1_compare_28 : decode cX1_compare 28 = .ok (.getfield 21, 3) := by decide +kernel
theorem dX1_compare_31 : decode cX1_compare 31 = .ok (.iload_n 2, 1) := by decide +kernel
theorem dX1_compare_32 : decode cX1_compare 32 = .ok (.aaload, 1) := by decide +kernel
theorem dX1_compare_33 : decode cX1_compare 33 = .ok (.astore 4, 2) := by decide +kernel
theorem dX1_compare_35 : decode cX1_compare 35 = .ok (.aload_n 3, 1) := by decide +kernel
theorem dX1_compare_36 : decode cX1_compare 36 = .ok (.ifnull 8, 3) := by decide +kernel
theorem dX1_compare_39 : decode cX1_compare 39 = .ok (.aload 4, 2) := by decide +kernel
theorem dX1_compare_41 : decode cX1_compare 41 = .ok (.ifnonnull 5, 3) := by decide +kernel
theorem dX1_compare_44 : decode cX1_compare 44 = .ok (.iconst 2, 1) := by decide +kernel
theorem dX1_compare_45 : decode cX1_compare 45 = .ok (.ireturn, 1) := by decide +kernel
theorem dX1_compare_46 : decode cX1_compare 46 = .ok (.aload_n 3, 1) := by decide +kernel
theorem dX1_compare_47 : decode cX1_compare 47 = .ok (.iconst 3, 1) := by decide +kernel
theorem dX1_compare_48 : decode cX1_compare 48 = .ok (.invokestatic 64, 3) := by decide +kernel
theorem dX1_compare_51 : decode cX1_compare 51 = .ok (.ifCond .eq 12, 3) := by decide +kernel
theorem dX1_compare_54 : decode cX1_compare 54 = .ok (.aload 4, 2) := by decide +kernel
theorem dX1_compare_56 : decode cX1_compare 56 = .ok (.iconst 3, 1) := by decide +kernel
theorem dX1_compare_57 : decode cX1_compare 57 = .ok (.invokestatic 64, 3) := by decide +kernel
theorem dX1_compare_60 : decode cX1_compare 60 = .ok (.ifCond .ne 5, 3) := by decide +kernel
theorem dX1_compare_63 : decode cX1_compare 63 = .ok (.iconst 1, 1) := by decide +kernel
theorem dX1_compare_64 : decode cX1_compare 64 = .ok (.ireturn, 1) := by decide +kernel
theorem dX1_compare_65 : decode cX1_compare 65 = .ok (.aload_n 0, 1) := by decide +kernel
theorem dX1_compare_66 : decode cX1_compare 66 = .ok (.aload_n 3, 1) := by decide +kernel
theorem dX1_compare_67 : decode cX1_compare 67 = .ok (.getfield 83, 3) := by decide +kernel
theorem dX1_compare_70 : decode cX1_compare 70 = .ok (.aload 4, 2) := by decide +kernel
theorem dX1_compare_72 : decode cX1_compare 72 = .ok (.getfield 83, 3) := by decide +kernel
theorem dX1_compare_75 : decode cX1_compare 75 = .ok (.if_icmp .ge 7, 3) := by decide +kernel
theorem dX1_compare_78 : decode cX1_compare 78 = .ok (.iconst (-1), 1) := by decide +kernel
theorem dX1_compare_79 : decode cX1_compare 79 = .ok (.goto 20, 3) := by decide +kernel
theorem dX1_compare_82 : decode cX1_compare 82 = .ok (.aload_n 3, 1) := by decide +kernel
theorem dX1_compare_83 : decode cX1_compare 83 = .ok (.getfield 83, 3) := by decide +kernel
theorem dX1_compare_86 : decode cX1_compare 86 = .ok (.aload 4, 2) := by decide +kernel
theorem dX1_compare_88 : decode cX1_compare 88 = .ok (.getfield 83, 3) := by decide +kernel
theorem dX1_compare_91 : decode cX1_compare 91 = .ok (.if_icmp .le 7, 3) := by decide +kernel
theorem dX1_compare_94 : decode cX1_compare 94 = .ok (.iconst 1, 1) := by decide +kernel
theorem dX1_compare_95 : decode cX1_compare 95 = .ok (.goto 4, 3) := by decide +kernel
theorem dX1_compare_98 : decode cX1_compare 98 = .ok (.iconst 0, 1) := by decide +kernel
theorem dX1_compare_99 : decode cX1_compare 99 = .ok (.invokevirtual 57, 3) := by decide +kernel
theorem dX1_compare_102 : decode cX1_compare 102 = .ok (.ireturn, 1) := by decide +kernel
set_option maxRecDepth 20000 in
theorem ggX1_flow_X1_divideNoting : GoodIn wsX1_flow wsX1_divideNoting := goodIn_r _ [5, 6, 7, 8, 4, 9, 10, 11, 41, 42, 43, 44, 45, 46, 47, 48, 49] (by decide +kernel) (by decide +kernel)
set_option maxRecDepth 20000 in
theorem gX1_flow_X1_divideNoting : GoodIn wsX1_flow (wsV RX1 86 RX1 yX1_divideNoting wsX1_divideNoting) := goodIn_app (goodIn_of _ (by decide +kernel)) ggX1_flow_X1_divideNoting
set_option maxRecDepth 20000 in
theorem ggX1_flow_X1_wentWith : GoodIn wsX1_flow wsX1_wentWith := goodIn_r _ [15, 16, 41, 42, 43, 44, 45, 46, 47, 48, 49] (by decide +kernel) (by decide +kernel)
set_option maxRecDepth 20000 in
theorem gX1_flow_X1_wentWith : GoodIn wsX1_flow (wsV RX1 57 RX1 yX1_wentWith wsX1_wentWith) := goodIn_app (goodIn_of _ (by decide +kernel)) ggX1_flow_X1_wentWith
set_option maxRecDepth 20000 in
theorem ggX1_flow_X1_countTurns : GoodIn wsX1_flow wsX1_countTurns := goodIn_r _ [20, 6, 7, 8, 4, 9, 10, 11, 41, 42, 43, 44, 45, 46, 47, 48, 49] (by decide +kernel) (by decide +kernel)
set_option maxRecDepth 20000 in
theorem gX1_flow_X1_countTurns : GoodIn wsX1_flow (wsV RX1 89 RX1 yX1_countTurns wsX1_countTurns) := goodIn_app (goodIn_of _ (by decide +kernel)) ggX1_flow_X1_countTurns
set_option maxRecDepth 20000 in
theorem ggX1_flow_X1_openWorkClose : GoodIn wsX1_flow wsX1_openWorkClose := goodIn_r _ [24, 6, 7, 8, 4, 9, 10, 11, 25, 26, 27, 41, 42, 43, 44, 45, 46, 47, 48, 49] (by decide +kernel) (by decide +kernel)
set_option maxRecDepth 20000 in
theorem gX1_flow_X1_openWorkClose : GoodIn wsX1_flow (wsV RX1 92 RX1 yX1_openWorkClose wsX1_openWorkClose) := goodIn_app (goodIn_of _ (by decide +kernel)) ggX1_flow_X1_openWorkClose
set_option maxRecDepth 20000 in
theorem ggX1_flow_X1_workByWord : GoodIn wsX1_flow wsX1_workByWord := goodIn_r _ [30] (by decide +kernel) (by decide +kernel)
set_option maxRecDepth 20000 in
theorem gX1_flow_X1_workByWord : GoodIn wsX1_flow (va_wsS RX1 95 yX1_workByWord wsX1_workByWord) := goodIn_app (goodIn_of _ (by decide +kernel)) ggX1_flow_X1_workByWord
set_option maxRecDepth 20000 in
theorem ggX1_flow_X1_squareInRow : GoodIn wsX1_flow wsX1_squareInRow := goodIn_r _ [34, 35, 36, 4, 37, 12, 13, 14, 15, 16, 41, 42, 43, 44, 45, 46, 47, 48, 49] (by decide +kernel) (by decide +kernel)
set_option maxRecDepth 20000 in
theorem gX1_flow_X1_squareInRow : GoodIn wsX1_flow (wsV RX1 98 RX1 yX1_squareInRow wsX1_squareInRow) := goodIn_app (goodIn_of _ (by decide +kernel)) ggX1_flow_X1_squareInRow
set_option maxRecDepth 20000 in
theorem ggX1_flow_X1_putAtToldPlace : GoodIn wsX1_flow wsX1_putAtToldPlace := goodIn_r _ [40] (by decide +kernel) (by decide +kernel)
set_option maxRecDepth 20000 in
theorem gX1_flow_X1_putAtToldPlace : GoodIn wsX1_flow (va_wsS RX1 101 yX1_putAtToldPlace wsX1_putAtToldPlace) := goodIn_app (goodIn_of _ (by decide +kernel)) ggX1_flow_X1_putAtToldPlace
theorem dX1_flow_0 : decode cX1_flow 0 = .ok (.iload_n 1, 1) := by decide +kernel
theorem dX1_flow_1 : decode cX1_flow 1 = .ok (.tableswitch 126 0 6 #[43, 54, 71, 82, 94, 108, 115], 43) := by decide +kernel
theorem dX1_flow_44 : decode cX1_flow 44 = .ok (.aload_n 0, 1) := by decide +kernel
theorem dX1_flow_45 : decode cX1_flow 45 = .ok (.aload_n 0, 1) := by decide +kernel
theorem dX1_flow_46 : decode cX1_flow 46 = .ok (.iload_n 2, 1) := by decide +kernel
theorem dX1_flow_47 : decode cX1_flow 47 = .ok (.iload_n 3, 1) := by decide +kernel
theorem dX1_flow_48 : decode cX1_flow 48 = .ok (.invokevirtual 86, 3) := by decide +kernel
theorem dX1_flow_51 : decode cX1_flow 51 = .ok (.invokevirtual 57, 3) := by decide +kernel
theorem dX1_flow_54 : decode cX1_flow 54 = .ok (.ireturn, 1) := by decide +kernel
theorem dX1_flow_55 : decode cX1_flow 55 = .ok (.aload_n 0, 1) := by decide +kernel
theorem dX1_flow_56 : decode cX1_flow 56 = .ok (.aload_n 0, 1) := by decide +kernel
theorem dX1_flow_57 : decode cX1_flow 57 = .ok (.iload_n 2, 1) := by decide +kernel
theorem dX1_flow_58 : decode cX1_flow 58 = .ok (.bipush 7, 2) := by decide +kernel
theorem dX1_flow_60 : decode cX1_flow 60 = .ok (.iand, 1) := by decide +kernel
theorem dX1_flow_61 : decode cX1_flow 61 = .ok (.iload_n 3, 1) := by decide +kernel
theorem dX1_flow_62 : decode cX1_flow 62 = .ok (.bipush 7, 2) := by decide +kernel
theorem dX1_flow_64 : decode cX1_flow 64 = .ok (.iand, 1) := by decide +kernel
theorem dX1_flow_65 : decode cX1_flow 65 = .ok (.invokevirtual 89, 3) := by decide +kernel
theorem dX1_flow_68 : decode cX1_flow 68 = .ok (.invokevirtual 57, 3) := by decide +kernel
theorem dX1_flow_71 : decode cX1_flow 71 = .ok (.ireturn, 1) := by decide +kernel
theorem dX1_flow_72 : decode cX1_flow 72 = .ok (.aload_n 0, 1) := by decide +kernel
theorem dX1_flow_73 : decode cX1_flow 73 = .ok (.aload_n 0, 1) := by decide +kernel
theorem dX1_flow_74 : decode cX1_flow 74 = .ok (.iload_n 2, 1) := by decide +kernel
theorem dX1_flow_75 : decode cX1_flow 75 = .ok (.iload_n 3, 1) := by decide +kernel
theorem dX1_flow_76 : decode cX1_flow 76 = .ok (.invokevirtual 92, 3) := by decide +kernel
theorem dX1_flow_79 : decode cX1_flow 79 = .ok (.invokevirtual 57, 3) := by decide +kernel
theorem dX1_flow_82 : decode cX1_flow 82 = .ok (.ireturn, 1) := by decide +kernel
theorem dX1_flow_83 : decode cX1_flow 83 = .ok (.aload_n 0, 1) := by decide +kernel
theorem dX1_flow_84 : decode cX1_flow 84 = .ok (.iload_n 2, 1) := by decide +kernel
theorem dX1_flow_85 : decode cX1_flow 85 = .ok (.iload_n 3, 1) := by decide +kernel
theorem dX1_flow_86 : decode cX1_flow 86 = .ok (.iconst 3, 1) := by decide +kernel
theorem dX1_flow_87 : decode cX1_flow 87 = .ok (.iand, 1) := by decide +kernel
theorem dX1_flow_88 : decode cX1_flow 88 = .ok (.invokestatic 95, 3) := by decide +kernel
theorem dX1_flow_91 : decode cX1_flow 91 = .ok (.invokevirtual 57, 3) := by decide +kernel
theorem dX1_flow_94 : decode cX1_flow 94 = .ok (.ireturn, 1) := by decide +kernel
theorem dX1_flow_95 : decode cX1_flow 95 = .ok (.aload_n 0, 1) := by decide +kernel
theorem dX1_flow_96 : decode cX1_flow 96 = .ok (.iload_n 2, 1) := by decide +kernel
theorem dX1_flow_97 : decode cX1_flow 97 = .ok (.iload_n 2, 1) := by decide +kernel
theorem dX1_flow_98 : decode cX1_flow 98 = .ok (.iconst 1, 1) := by decide +kernel
theorem dX1_flow_99 : decode cX1_flow 99 = .ok (.iadd, 1) := by decide +kernel
theorem dX1_flow_100 : decode cX1_flow 100 = .ok (.iload_n 3, 1) := by decide +kernel
theorem dX1_flow_101 : decode cX1_flow 101 = .ok (.imul, 1) := by decide +kernel
theorem dX1_flow_102 : decode cX1_flow 102 = .ok (.iadd, 1) := by decide +kernel
theorem dX1_flow_103 : decode cX1_flow 103 = .ok (.iload_n 3, 1) := by decide +kernel
theorem dX1_flow_104 : decode cX1_flow 104 = .ok (.iadd, 1) := by decide +kernel
theorem dX1_flow_105 : decode cX1_flow 105 = .ok (.invokevirtual 57, 3) := by decide +kernel
theorem dX1_flow_108 : decode cX1_flow 108 = .ok (.ireturn, 1) := by decide +kernel
theorem dX1_flow_109 : decode cX1_flow 109 = .ok (.aload_n 0, 1) := by decide +kernel
theorem dX1_flow_110 : decode cX1_flow 110 = .ok (.iload_n 2, 1) := by decide +kernel
theorem dX1_flow_111 : decode cX1_flow 111 = .ok (.iload_n 3, 1) := by decide +kernel
theorem dX1_flow_112 : decode cX1_flow 112 = .ok (.invokevirtual 98, 3) := by decide +kernel
theorem dX1_flow_115 : decode cX1_flow 115 = .ok (.ireturn, 1) := by decide +kernel
theorem dX1_flow_116 : decode cX1_flow 116 = .ok (.aload_n 0, 1) := by decide +kernel
theorem dX1_flow_117 : decode cX1_flow 117 = .ok (.iload_n 2, 1) := by decide +kernel
theorem dX1_flow_118 : decode cX1_flow 118 = .ok (.iconst 1, 1) := by decide +kernel
theorem dX1_flow_119 : decode cX1_flow 119 = .ok (.iand, 1) := by decide +kernel
theorem dX1_flow_120 : decode cX1_flow 120 = .ok (.invokestatic 101, 3) := by decide +kernel
theorem dX1_flow_123 : decode cX1_flow 123 = .ok (.invokevirtual 57, 3) := by decide +kernel
theorem dX1_flow_126 : decode cX1_flow 126 = .ok (.ireturn, 1) := by decide +kernel
theorem dX1_flow_127 : decode cX1_flow 127 = .ok (.iconst (-1), 1) := by decide +kernel
theorem dX1_flow_128 : decode cX1_flow 128 = .ok (.ireturn, 1) := by decide +kernel
set_option maxRecDepth 20000 in
theorem ggX1_number_X1_wentWith : GoodIn wsX1_number wsX1_wentWith := goodIn_r _ [6, 7, 16, 17, 18, 19, 20, 21, 22, 23, 24] (by decide +kernel) (by decide +kernel)
set_option maxRecDepth 20000 in
theorem gX1_number_X1_wentWith : GoodIn wsX1_number (wsV RX1 57 RX1 yX1_wentWith wsX1_wentWith) := goodIn_app (goodIn_of _ (by decide +kernel)) ggX1_number_X1_wentWith
set_option maxRecDepth 20000 in
theorem ggX1_number_X1_quotientOfDoubles : GoodIn wsX1_number wsX1_quotientOfDoubles := goodIn_r _ [10, 11, 12] (by decide +kernel) (by decide +kernel)
set_option maxRecDepth 20000 in
theorem gX1_number_X1_quotientOfDoubles : GoodIn wsX1_number (va_wsS RX1 104 yX1_quotientOfDoubles wsX1_quotientOfDoubles) := goodIn_app (goodIn_of _ (by decide +kernel)) ggX1_number_X1_quotientOfDoubles
set_option maxRecDepth 20000 in
theorem ggX1_number_X1_decimalLength : GoodIn wsX1_number wsX1_decimalLength := goodIn_r _ [15] (by decide +kernel) (by decide +kernel)
set_option maxRecDepth 20000 in
theorem gX1_number_X1_decimalLength : GoodIn wsX1_number (va_wsS RX1 109 yX1_decimalLength wsX1_decimalLength) := goodIn_app (goodIn_of _ (by decide +kernel)) ggX1_number_X1_decimalLength
theorem dX1_number_0 : decode cX1_number 0 = .ok (.iload_n 1, 1) := by decide +kernel
theorem dX1_number_1 : decode cX1_number 1 = .ok (.tableswitch 185 0 9 #[55, 63, 73, 83, 99, 115, 125, 139, 157, 169], 55) := by decide +kernel
theorem dX1_number_56 : decode cX1_number 56 = .ok (.aload_n 0, 1) := by decide +kernel
theorem dX1_number_57 : decode cX1_number 57 = .ok (.iload_n 2, 1) := by decide +kernel
theorem dX1_number_58 : decode cX1_number 58 = .ok (.i2f, 1) := by decide +kernel
theorem dX1_number_59 : decode cX1_number 59 = .ok (.f2i, 1) := by decide +kernel
theorem dX1_number_60 : decode cX1_number 60 = .ok (.invokevirtual 57, 3) := by decide +kernel
theorem dX1_number_63 : decode cX1_number 63 = .ok (.ireturn, 1) := by decide +kernel
theorem dX1_number_64 : decode cX1_number 64 = .ok (.aload_n 0, 1) := by decide +kernel
theorem dX1_number_65 : decode cX1_number 65 = .ok (.iload_n 2, 1) := by decide +kernel
theorem dX1_number_66 : decode cX1_number 66 = .ok (.iload_n 3, 1) := by decide +kernel
theorem dX1_number_67 : decode cX1_number 67 = .ok (.invokestatic 104, 3) := by decide +kernel
theorem dX1_number_70 : decode cX1_number 70 = .ok (.invokevirtual 57, 3) := by decide +kernel
theorem dX1_number_73 : decode cX1_number 73 = .ok (.ireturn, 1) := by decide +kernel
theorem dX1_number_74 : decode cX1_number 74 = .ok (.aload_n 0, 1) := by decide +kernel
theorem dX1_number_75 : decode cX1_number 75 = .ok (.iload_n 2, 1) := by decide +kernel
theorem dX1_number_76 : decode cX1_number 76 = .ok (.i2b, 1) := by decide +kernel
theorem dX1_number_77 : decode cX1_number 77 = .ok (.iload_n 3, 1) := by decide +kernel
theorem dX1_number_78 : decode cX1_number 78 = .ok (.i2c, 1) := by decide +kernel
theorem dX1_number_79 : decode cX1_number 79 = .ok (.imul, 1) := by decide +kernel
theorem dX1_number_80 : decode cX1_number 80 = .ok (.invokevirtual 57, 3) := by decide +kernel
theorem dX1_number_83 : decode cX1_number 83 = .ok (.ireturn, 1) := by decide +kernel
theorem dX1_number_84 : decode cX1_number 84 = .ok (.aload_n 0, 1) := by decide +kernel
theorem dX1_number_85 : decode cX1_number 85 = .ok (.iload_n 2, 1) := by decide +kernel
theorem dX1_number_86 : decode cX1_number 86 = .ok (.iload_n 3, 1) := by decide +kernel
theorem dX1_number_87 : decode cX1_number 87 = .ok (.ishr, 1) := by decide +kernel
theorem dX1_number_88 : decode cX1_number 88 = .ok (.iload_n 2, 1) := by decide +kernel
theorem dX1_number_89 : decode cX1_number 89 = .ok (.iload_n 3, 1) := by decide +kernel
theorem dX1_number_90 : decode cX1_number 90 = .ok (.iushr, 1) := by decide +kernel
theorem dX1_number_91 : decode cX1_number 91 = .ok (.iadd, 1) := by decide +kernel
theorem dX1_number_92 : decode cX1_number 92 = .ok (.iload_n 2, 1) := by decide +kernel
theorem dX1_number_93 : decode cX1_number 93 = .ok (.iload_n 3, 1) := by decide +kernel
theorem dX1_number_94 : decode cX1_number 94 = .ok (.ishl, 1) := by decide +kernel
theorem dX1_number_95 : decode cX1_number 95 = .ok (.iadd, 1) := by decide +kernel
theorem dX1_number_96 : decode cX1_number 96 = .ok (.invokevirtual 57, 3) := by decide +kernel
theorem dX1_number_99 : decode cX1_number 99 = .ok (.ireturn, 1) := by decide +kernel
theorem dX1_number_100 : decode cX1_number 100 = .ok (.iload_n 3, 1) := by decide +kernel
theorem dX1_number_101 : decode cX1_number 101 = .ok (.ifCond .ne 7, 3) := by decide +kernel
theorem dX1_number_104 : decode cX1_number 104 = .ok (.iconst 5, 1) := by decide +kernel
theorem dX1_number_105 : decode cX1_number 105 = .ok (.goto 10, 3) := by decide +kernel
theorem dX1_number_108 : decode cX1_number 108 = .ok (.aload_n 0, 1) := by decide +kernel
theorem dX1_number_109 : decode cX1_number 109 = .ok (.iload_n 2, 1) := by decide +kernel
theorem dX1_number_110 : decode cX1_number 110 = .ok (.iload_n 3, 1) := by decide +kernel
theorem dX1_number_111 : decode cX1_number 111 = .ok (.irem, 1) := by decide +kernel
theorem dX1_number_112 : decode cX1_number 112 = .ok (.invokevirtual 57, 3) := by decide +kernel
theorem dX1_number_115 : decode cX1_number 115 = .ok (.ireturn, 1) := by decide +kernel
theorem dX1_number_116 : decode cX1_number 116 = .ok (.aload_n 0, 1) := by decide +kernel
theorem dX1_number_117 : decode cX1_number 117 = .ok (.iload_n 2, 1) := by decide +kernel
theorem dX1_number_118 : decode cX1_number 118 = .ok (.i2s, 1) := by decide +kernel
theorem dX1_number_119 : decode cX1_number 119 = .ok (.iload_n 3, 1) := by decide +kernel
theorem dX1_number_120 : decode cX1_number 120 = .ok (.iadd, 1) := by decide +kernel
theorem dX1_number_121 : decode cX1_number 121 = .ok (.i2s, 1) := by decide +kernel
theorem dX1_number_122 : decode cX1_number 122 = .ok (.invokevirtual 57, 3) := by decide +kernel
theorem dX1_number_125 : decode cX1_number 125 = .ok (.ireturn, 1) := by decide +kernel
theorem dX1_number_126 : decode cX1_number 126 = .ok (.aload_n 0, 1) := by decide +kernel
theorem dX1_number_127 : decode cX1_number 127 = .ok (.iload_n 2, 1) := by decide +kernel
theorem dX1_number_128 : decode cX1_number 128 = .ok (.i2l, 1) := by decide +kernel
theorem dX1_number_129 : decode cX1_number 129 = .ok (.iload_n 3, 1) := by decide +kernel
theorem dX1_number_130 : decode cX1_number 130 = .ok (.i2l, 1) := by decide +kernel
theorem dX1_number_131 : decode cX1_number 131 = .ok (.lmul, 1) := by decide +kernel
theorem dX1_number_132 : decode cX1_number 132 = .ok (.bipush 16, 2) := by decide +kernel
theorem dX1_number_134 : decode cX1_number 134 = .ok (.lshr, 1) := by decide +kernel
theorem dX1_number_135 : decode cX1_number 135 = .ok (.l2i, 1) := by decide +kernel
theorem dX1_number_136 : decode cX1_number 136 = .ok (.invokevirtual 57, 3) := by decide +kernel
theorem dX1_number_139 : decode cX1_number 139 = .ok (.ireturn, 1) := by decide +kernel
theorem dX1_number_140 : decode cX1_number 140 = .ok (.aload_n 0, 1) := by decide +kernel
theorem dX1_number_141 : decode cX1_number 141 = .ok (.iload_n 2, 1) := by decide +kernel
theorem dX1_number_142 : decode cX1_number 142 = .ok (.i2f, 1) := by decide +kernel
theorem dX1_number_143 : decode cX1_number 143 = .ok (.iload_n 3, 1) := by decide +kernel
theorem dX1_number_144 : decode cX1_number 144 = .ok (.i2f, 1) := by decide +kernel
theorem dX1_number_145 : decode cX1_number 145 = .ok (.fcmp .l, 1) := by decide +kernel
theorem dX1_number_146 : decode cX1_number 146 = .ok (.ifCond .ne 7, 3) := by decide +kernel
theorem dX1_number_149 : decode cX1_number 149 = .ok (.iconst 1, 1) := by decide +kernel
theorem dX1_number_150 : decode cX1_number 150 = .ok (.goto 4, 3) := by decide +kernel
theorem dX1_number_153 : decode cX1_number 153 = .ok (.iconst 0, 1) := by decide +kernel
theorem dX1_number_154 : decode cX1_number 154 = .ok (.invokevirtual 57, 3) := by decide +kernel
theorem dX1_number_157 : decode cX1_number 157 = .ok (.ireturn, 1) := by decide +kernel
theorem dX1_number_158 : decode cX1_number 158 = .ok (.aload_n 0, 1) := by decide +kernel
theorem dX1_number_159 : decode cX1_number 159 = .ok (.iload_n 2, 1) := by decide +kernel
theorem dX1_number_160 : decode cX1_number 160 = .ok (.i2d, 1) := by decide +kernel
theorem dX1_number_161 : decode cX1_number 161 = .ok (.ldc2_w 107, 3) := by decide +kernel
theorem dX1_number_164 : decode cX1_number 164 = .ok (.dmul, 1) := by decide +kernel
theorem dX1_number_165 : decode cX1_number 165 = .ok (.d2i, 1) := by decide +kernel
theorem dX1_number_166 : decode cX1_number 166 = .ok (.invokevirtual 57, 3) := by decide +kernel
theorem dX1_number_169 : decode cX1_number 169 = .ok (.ireturn, 1) := by decide +kernel
theorem dX1_number_170 : decode cX1_number 170 = .ok (.aload_n 0, 1) := by decide +kernel
theorem dX1_number_171 : decode cX1_number 171 = .ok (.iload_n 2, 1) := by decide +kernel
theorem dX1_number_172 : decode cX1_number 172 = .ok (.invokestatic 109, 3) := by decide +kernel
theorem dX1_number_175 : decode cX1_number 175 = .ok (.iconst 1, 1) := by decide +kernel
theorem dX1_number_176 : decode cX1_number 176 = .ok (.iadd, 1) := by decide +kernel
theorem dX1_number_177 : decode cX1_number 177 = .ok (.iload_n 3, 1) := by decide +kernel
theorem dX1_number_178 : decode cX1_number 178 = .ok (.invokestatic 109, 3) := by decide +kernel
theorem dX1_number_181 : decode cX1_number 181 = .ok (.iadd, 1) := by decide +kernel
theorem dX1_number_182 : decode cX1_number 182 = .ok (.invokevirtual 57, 3) := by decide +kernel
theorem dX1_number_185 : decode cX1_number 185 = .ok (.ireturn, 1) := by decide +kernel
theorem dX1_number_186 : decode cX1_number 186 = .ok (.iconst (-1), 1) := by decide +kernel
theorem dX1_number_187 : decode cX1_number 187 = .ok (.ireturn, 1) := by decide +kernel
theorem dX1_isBelow_0 : decode cX1_isBelow 0 = .ok (.iload_n 0, 1) := by decide +kernel
theorem dX1_isBelow_1 : decode cX1_isBelow 1 = .ok (.ifCond .lt 12, 3) := by decide +kernel
theorem dX1_isBelow_4 : decode cX1_isBelow 4 = .ok (.iload_n 0, 1) := by decide +kernel
theorem dX1_isBelow_5 : decode cX1_isBelow 5 = .ok (.iload_n 1, 1) := by decide +kernel
theorem dX1_isBelow_6 : decode cX1_isBelow 6 = .ok (.if_icmp .ge 7, 3) := by decide +kernel
theorem dX1_isBelow_9 : decode cX1_isBelow 9 = .ok (.iconst 1, 1) := by decide +kernel
theorem dX1_isBelow_10 : decode cX1_isBelow 10 = .ok (.goto 4, 3) := by decide +kernel
theorem dX1_isBelow_13 : decode cX1_isBelow 13 = .ok (.iconst 0, 1) := by decide +kernel
theorem dX1_isBelow_14 : decode cX1_isBelow 14 = .ok (.ireturn, 1) := by decide +kernel
theorem dX1_isStretch_0 : decode cX1_isStretch 0 = .ok (.iload_n 0, 1) := by decide +kernel
theorem dX1_isStretch_1 : decode cX1_isStretch 1 = .ok (.ifCond .lt 23, 3) := by decide +kernel
theorem dX1_isStretch_4 : decode cX1_isStretch 4 = .ok (.iload_n 1, 1) := by decide +kernel
theorem dX1_isStretch_5 : decode cX1_isStretch 5 = .ok (.ifCond .lt 19, 3) := by decide +kernel
theorem dX1_isStretch_8 : decode cX1_isStretch 8 = .ok (.iload_n 1, 1) := by decide +kernel
theorem dX1_isStretch_9 : decode cX1_isStretch 9 = .ok (.iconst 4, 1) := by decide +kernel
theorem dX1_isStretch_10 : decode cX1_isStretch 10 = .ok (.if_icmp .gt 14, 3) := by decide +kernel
theorem dX1_isStretch_13 : decode cX1_isStretch 13 = .ok (.iload_n 0, 1) := by decide +kernel
theorem dX1_isStretch_14 : decode cX1_isStretch 14 = .ok (.iconst 4, 1) := by decide +kernel
theorem dX1_isStretch_15 : decode cX1_isStretch 15 = .ok (.iload_n 1, 1) := by decide +kernel
theorem dX1_isStretch_16 : decode cX1_isStretch 16 = .ok (.isub, 1) := by decide +kernel
theorem dX1_isStretch_17 : decode cX1_isStretch 17 = .ok (.if_icmp .gt 7, 3) := by decide +kernel
theorem dX1_isStretch_20 : decode cX1_isStretch 20 = .ok (.iconst 1, 1) := by decide +kernel
theorem dX1_isStretch_21 : decode cX1_isStretch 21 = .ok (.goto 4, 3) := by decide +kernel
theorem dX1_isStretch_24 : decode cX1_isStretch 24 = .ok (.iconst 0, 1) := by decide +kernel
theorem dX1_isStretch_25 : decode cX1_isStretch 25 = .ok (.ireturn, 1) := by decide +kernel
theorem dX1_holds_0 : decode cX1_holds 0 = .ok (.iload_n 0, 1) := by decide +kernel
theorem dX1_holds_1 : decode cX1_holds 1 = .ok (.iconst 1, 1) := by decide +kernel
theorem dX1_holds_2 : decode cX1_holds 2 = .ok (.iload_n 1, 1) := by decide +kernel
theorem dX1_holds_3 : decode cX1_holds 3 = .ok (.ishl, 1) := by decide +kernel
theorem dX1_holds_4 : decode cX1_holds 4 = .ok (.iand, 1) := by decide +kernel
theorem dX1_holds_5 : decode cX1_holds 5 = .ok (.ifCond .eq 7, 3) := by decide +kernel
theorem dX1_holds_8 : decode cX1_holds 8 = .ok (.iconst 1, 1) := by decide +kernel
theorem dX1_holds_9 : decode cX1_holds 9 = .ok (.goto 4, 3) := by decide +kernel
theorem dX1_holds_12 : decode cX1_holds 12 = .ok (.iconst 0, 1) := by decide +kernel
theorem dX1_holds_13 : decode cX1_holds 13 = .ok (.ireturn, 1) := by decide +kernel
set_option maxRecDepth 20000 in
theorem ggX1_isOfType_X1_holds : GoodIn wsX1_isOfType wsX1_holds := goodIn_r _ [5] (by decide +kernel) (by decide +kernel)
set_option maxRecDepth 20000 in
theorem gX1_isOfType_X1_holds : GoodIn wsX1_isOfType (va_wsS RX1 50 yX1_holds wsX1_holds) := goodIn_app (goodIn_of _ (by decide +kernel)) ggX1_isOfType_X1_holds
theorem dX1_isOfType_0 : decode cX1_isOfType 0 = .ok (.getstatic 115, 3) := by decide +kernel
theorem dX1_isOfType_3 : decode cX1_isOfType 3 = .ok (.aload_n 0, 1) := by decide +kernel
theorem dX1_isOfType_4 : decode cX1_isOfType 4 = .ok (.getfield 118, 3) := by decide +kernel
theorem dX1_isOfType_7 : decode cX1_isOfType 7 = .ok (.iaload, 1) := by decide +kernel
theorem dX1_isOfType_8 : decode cX1_isOfType 8 = .ok (.iload_n 1, 1) := by decide +kernel
theorem dX1_isOfType_9 : decode cX1_isOfType 9 = .ok (.invokestatic 50, 3) := by decide +kernel
theorem dX1_isOfType_12 : decode cX1_isOfType 12 = .ok (.ireturn, 1) := by decide +kernel
theorem dX1_wentWith_0 : decode cX1_wentWith 0 = .ok (.aload_n 0, 1) := by decide +kernel
theorem dX1_wentWith_1 : decode cX1_wentWith 1 = .ok (.iload_n 1, 1) := by decide +kernel
theorem dX1_wentWith_2 : decode cX1_wentWith 2 = .ok (.putfield 72, 3) := by decide +kernel
theorem dX1_wentWith_5 : decode cX1_wentWith 5 = .ok (.iconst 0, 1) := by decide +kernel
theorem dX1_wentWith_6 : decode cX1_wentWith 6 = .ok (.ireturn, 1) := by decide +kernel
theorem dX1_note_0 : decode cX1_note 0 = .ok (.aload_n 0, 1) := by decide +kernel
theorem dX1_note_1 : decode cX1_note 1 = .ok (.getfield 31, 3) := by decide +kernel
theorem dX1_note_4 : decode cX1_note 4 = .ok (.aload_n 0, 1) := by decide +kernel
theorem dX1_note_5 : decode cX1_note 5 = .ok (.getfield 112, 3) := by decide +kernel
theorem dX1_note_8 : decode cX1_note 8 = .ok (.bipush 15, 2) := by decide +kernel
theorem dX1_note_10 : decode cX1_note 10 = .ok (.iand, 1) := by decide +kernel
theorem dX1_note_11 : decode cX1_note 11 = .ok (.iload_n 1, 1) := by decide +kernel
theorem dX1_note_12 : decode cX1_note 12 = .ok (.iastore, 1) := by decide +kernel
theorem dX1_note_13 : decode cX1_note 13 = .ok (.aload_n 0, 1) := by decide +kernel
theorem dX1_note_14 : decode cX1_note 14 = .ok (.dup, 1) := by decide +kernel
theorem dX1_note_15 : decode cX1_note 15 = .ok (.getfield 112, 3) := by decide +kernel
theorem dX1_note_18 : decode cX1_note 18 = .ok (.iconst 1, 1) := by decide +kernel
theorem dX1_note_19 : decode cX1_note 19 = .ok (.iadd, 1) := by decide +kernel
theorem dX1_note_20 : decode cX1_note 20 = .ok (.putfield 112, 3) := by decide +kernel
theorem dX1_note_23 : decode cX1_note 23 = .ok (.return_, 1) := by decide +kernel
set_option maxRecDepth 20000 in
theorem ggX1_putRepeater_X0_init : GoodIn wsX1_putRepeater wsX0_init := goodIn_r _ [6, 7, 8, 9, 10, 11, 12, 13, 14, 15, 16, 17, 18, 19] (by decide +kernel) (by decide +kernel)
set_option maxRecDepth 20000 in
theorem gX1_putRepeater_X0_init_n11 : GoodIn wsX1_putRepeater (wsX0_init) := ggX1_putRepeater_X0_init
theorem dX1_putRepeater_0 : decode cX1_putRepeater 0 = .ok (.aload_n 2, 1) := by decide +kernel
theorem dX1_putRepeater_1 : decode cX1_putRepeater 1 = .ok (.ifnonnull 5, 3) := by decide +kernel
theorem dX1_putRepeater_4 : decode cX1_putRepeater 4 = .ok (.iconst 2, 1) := by decide +kernel
theorem dX1_putRepeater_5 : decode cX1_putRepeater 5 = .ok (.ireturn, 1) := by decide +kernel
theorem dX1_putRepeater_6 : decode cX1_putRepeater 6 = .ok (.aload_n 2, 1) := by decide +kernel
theorem dX1_putRepeater_7 : decode cX1_putRepeater 7 = .ok (.getfield 121, 3) := by decide +kernel
theorem dX1_putRepeater_10 : decode cX1_putRepeater 10 = .ok (.iconst 3, 1) := by decide +kernel
theorem dX1_putRepeater_11 : decode cX1_putRepeater 11 = .ok (.if_icmp .lt 5, 3) := by decide +kernel
theorem dX1_putRepeater_14 : decode cX1_putRepeater 14 = .ok (.iconst (-1), 1) := by decide +kernel
theorem dX1_putRepeater_15 : decode cX1_putRepeater 15 = .ok (.ireturn, 1) := by decide +kernel
theorem dX1_putRepeater_16 : decode cX1_putRepeater 16 = .ok (.aload_n 0, 1) := by decide +kernel
theorem dX1_putRepeater_17 : decode cX1_putRepeater 17 = .ok (.getfield 21, 3) := by decide +kernel
theorem dX1_putRepeater_20 : decode cX1_putRepeater 20 = .ok (.iload_n 1, 1) := by decide +kernel
theorem dX1_putRepeater_21 : decode cX1_putRepeater 21 = .ok (.new 9, 3) := by decide +kernel
theorem dX1_putRepeater_24 : decode cX1_putRepeater 24 = .ok (.dup, 1) := by decide +kernel
theorem dX1_putRepeater_25 : decode cX1_putRepeater 25 = .ok (.bipush 8, 2) := by decide +kernel
theorem dX1_putRepeater_27 : decode cX1_putRepeater 27 = .ok (.iconst 0, 1) := by decide +kernel
theorem dX1_putRepeater_28 : decode cX1_putRepeater 28 = .ok (.aload_n 2, 1) := by decide +kernel
theorem dX1_putRepeater_29 : decode cX1_putRepeater 29 = .ok (.invokespecial 11, 3) := by decide +kernel
theorem dX1_putRepeater_32 : decode cX1_putRepeater 32 = .ok (.aastore, 1) := by decide +kernel
theorem dX1_putRepeater_33 : decode cX1_putRepeater 33 = .ok (.iconst 0, 1) := by decide +kernel
theorem dX1_putRepeater_34 : decode cX1_putRepeater 34 = .ok (.ireturn, 1) := by decide +kernel
set_option maxRecDepth 20000 in
theorem ggX1_newThing_X1_newBase : GoodIn wsX1_newThing wsX1_newBase := goodIn_r _ [10, 3, 4, 5, 11, 12, 13, 14, 15, 16, 17, 18, 19, 20, 21, 9, 22, 23, 24, 25, 26, 27, 28, 38, 39, 40, 41, 42, 43, 29, 30, 31, 32, 33, 34, 35, 36, 37] (by decide +kernel) (by decide +kernel)
set_option maxRecDepth 20000 in
theorem gX1_newThing_X1_newBase : GoodIn wsX1_newThing (wsV RX1 124 RX1 yX1_newBase wsX1_newBase) := goodIn_app (goodIn_of _ (by decide +kernel)) ggX1_newThing_X1_newBase
set_option maxRecDepth 20000 in
theorem ggX1_newThing_X0_init : GoodIn wsX1_newThing wsX0_init := goodIn_r _ [12, 13, 14, 15, 16, 17, 18, 19, 38, 39, 40, 41, 42, 43] (by decide +kernel) (by decide +kernel)
set_option maxRecDepth 20000 in
theorem gX1_newThing_X0_init_n11 : GoodIn wsX1_newThing (wsX0_init) := ggX1_newThing_X0_init
theorem dX1_newThing_0 : decode cX1_newThing 0 = .ok (.iload_n 1, 1) := by decide +kernel
theorem dX1_newThing_1 : decode cX1_newThing 1 = .ok (.tableswitch 72 0 9 #[65, 65, 65, 72, 55, 60, 72, 72, 72, 65], 55) := by decide +kernel
theorem dX1_newThing_56 : decode cX1_newThing 56 = .ok (.aload_n 0, 1) := by decide +kernel
theorem dX1_newThing_57 : decode cX1_newThing 57 = .ok (.getfield 14, 3) := by decide +kernel
theorem dX1_newThing_60 : decode cX1_newThing 60 = .ok (.areturn, 1) := by decide +kernel
theorem dX1_newThing_61 : decode cX1_newThing 61 = .ok (.aload_n 0, 1) := by decide +kernel
theorem dX1_newThing_62 : decode cX1_newThing 62 = .ok (.getfield 18, 3) := by decide +kernel
theorem dX1_newThing_65 : decode cX1_newThing 65 = .ok (.areturn, 1) := by decide +kernel
theorem dX1_newThing_66 : decode cX1_newThing 66 = .ok (.aload_n 0, 1) := by decide +kernel
theorem dX1_newThing_67 : decode cX1_newThing 67 = .ok (.iload_n 1, 1) := by decide +kernel
theorem dX1_newThing_68 : decode cX1_newThing 68 = .ok (.iload_n 2, 1) := by decide +kernel
theorem dX1_newThing_69 : decode cX1_newThing 69 = .ok (.invokevirtual 124, 3) := by decide +kernel
theorem dX1_newThing_72 : decode cX1_newThing 72 = .ok (.areturn, 1) := by decide +kernel
theorem dX1_newThing_73 : decode cX1_newThing 73 = .ok (.new 9, 3) := by decide +kernel
theorem dX1_newThing_76 : decode cX1_newThing 76 = .ok (.dup, 1) := by decide +kernel
theorem dX1_newThing_77 : decode cX1_newThing 77 = .ok (.iload_n 1, 1) := by decide +kernel
theorem dX1_newThing_78 : decode cX1_newThing 78 = .ok (.iload_n 2, 1) := by decide +kernel
theorem dX1_newThing_79 : decode cX1_newThing 79 = .ok (.aconst_null, 1) := by decide +kernel
theorem dX1_newThing_80 : decode cX1_newThing 80 = .ok (.invokespecial 11, 3) := by decide +kernel
theorem dX1_newThing_83 : decode cX1_newThing 83 = .ok (.areturn, 1) := by decide +kernel
set_option maxRecDepth 20000 in
theorem ggX1_newBase_X0_init : GoodIn wsX1_newBase wsX0_init := goodIn_r _ [5, 6, 7, 8, 9, 10, 11, 12, 23, 24, 25, 26, 27, 28] (by decide +kernel) (by decide +kernel)
set_option maxRecDepth 20000 in
theorem gX1_newBase_X0_init_n11 : GoodIn wsX1_newBase (wsX0_init) := ggX1_newBase_X0_init
set_option maxRecDepth 20000 in
theorem ggX1_newBase_X1_seedOf : GoodIn wsX1_newBase wsX1_seedOf := goodIn_r _ [16, 23, 24, 25, 26, 27, 28] (by decide +kernel) (by decide +kernel)
set_option maxRecDepth 20000 in
theorem gX1_newBase_X1_seedOf : GoodIn wsX1_newBase (va_wsS RX1 127 yX1_seedOf wsX1_seedOf) := goodIn_app (goodIn_of _ (by decide +kernel)) ggX1_newBase_X1_seedOf
set_option maxRecDepth 20000 in
theorem ggX1_newBase_X1_note : GoodIn wsX1_newBase wsX1_note := goodIn_r _ [20, 21, 22, 29, 30, 31, 32, 33, 34, 35, 36, 37] (by decide +kernel) (by decide +kernel)
set_option maxRecDepth 20000 in
theorem gX1_newBase_X1_note : GoodIn wsX1_newBase (wsV RX1 131 RX1 yX1_note wsX1_note) := goodIn_app (goodIn_of _ (by decide +kernel)) ggX1_newBase_X1_note
theorem dX1_newBase_0 : decode cX1_newBase 0 = .ok (.new 9, 3) := by decide +kernel
theorem dX1_newBase_3 : decode cX1_newBase 3 = .ok (.dup, 1) := by decide +kernel
theorem dX1_newBase_4 : decode cX1_newBase 4 = .ok (.iload_n 1, 1) := by decide +kernel
theorem dX1_newBase_5 : decode cX1_newBase 5 = .ok (.iload_n 2, 1) := by decide +kernel
theorem dX1_newBase_6 : decode cX1_newBase 6 = .ok (.aconst_null, 1) := by decide +kernel
theorem dX1_newBase_7 : decode cX1_newBase 7 = .ok (.invokespecial 11, 3) := by decide +kernel
theorem dX1_newBase_10 : decode cX1_newBase 10 = .ok (.astore_n 3, 1) := by decide +kernel
theorem dX1_newBase_11 : decode cX1_newBase 11 = .ok (.aload_n 0, 1) := by decide +kernel
theorem dX1_newBase_12 : decode cX1_newBase 12 = .ok (.aload_n 3, 1) := by decide +kernel
theorem dX1_newBase_13 : decode cX1_newBase 13 = .ok (.invokestatic 127, 3) := by decide +kernel
theorem dX1_newBase_16 : decode cX1_newBase 16 = .ok (.invokevirtual 131, 3) := by decide +kernel
theorem dX1_newBase_19 : decode cX1_newBase 19 = .ok (.iload_n 1, 1) := by decide +kernel
theorem dX1_newBase_20 : decode cX1_newBase 20 = .ok (.ifCond .ne 8, 3) := by decide +kernel
theorem dX1_newBase_23 : decode cX1_newBase 23 = .ok (.aload_n 3, 1) := by decide +kernel
theorem dX1_newBase_24 : decode cX1_newBase 24 = .ok (.iconst 4, 1) := by decide +kernel
theorem dX1_newBase_25 : decode cX1_newBase 25 = .ok (.putfield 135, 3) := by decide +kernel
theorem dX1_newBase_28 : decode cX1_newBase 28 = .ok (.iload_n 1, 1) := by decide +kernel
theorem dX1_newBase_29 : decode cX1_newBase 29 = .ok (.bipush 9, 2) := by decide +kernel
theorem dX1_newBase_31 : decode cX1_newBase 31 = .ok (.if_icmp .ne 18, 3) := by decide +kernel
theorem dX1_newBase_34 : decode cX1_newBase 34 = .ok (.aload_n 3, 1) := by decide +kernel
theorem dX1_newBase_35 : decode cX1_newBase 35 = .ok (.iload_n 2, 1) := by decide +kernel
theorem dX1_newBase_36 : decode cX1_newBase 36 = .ok (.iconst 1, 1) := by decide +kernel
theorem dX1_newBase_37 : decode cX1_newBase 37 = .ok (.iadd, 1) := by decide +kernel
theorem dX1_newBase_38 : decode cX1_newBase 38 = .ok (.putfield 138, 3) := by decide +kernel
theorem dX1_newBase_41 : decode cX1_newBase 41 = .ok (.aload_n 0, 1) := by decide +kernel
theorem dX1_newBase_42 : decode cX1_newBase 42 = .ok (.aload_n 3, 1) := by decide +kernel
theorem dX1_newBase_43 : decode cX1_newBase 43 = .ok (.getfield 138, 3) := by decide +kernel
theorem dX1_newBase_46 : decode cX1_newBase 46 = .ok (.invokevirtual 131, 3) := by decide +kernel
theorem dX1_newBase_49 : decode cX1_newBase 49 = .ok (.aload_n 3, 1) := by decide +kernel
theorem dX1_newBase_50 : decode cX1_newBase 50 = .ok (.areturn, 1) := by decide +kernel
set_option maxRecDepth 20000 in
theorem ggX1_putInRow_X1_isOfType : GoodIn wsX1_putInRow wsX1_isOfType := goodIn_r _ [6, 7, 8, 9, 5, 10, 20, 21, 22, 23, 24, 25] (by decide +kernel) (by decide +kernel)
set_option maxRecDepth 20000 in
theorem gX1_putInRow_X1_isOfType : GoodIn wsX1_putInRow (va_wsS RX1 64 yX1_isOfType wsX1_isOfType) := goodIn_app (goodIn_of _ (by decide +kernel)) ggX1_putInRow_X1_isOfType
theorem dX1_putInRow_0 : decode cX1_putInRow 0 = .ok (.aload_n 3, 1) := by decide +kernel
theorem dX1_putInRow_1 : decode cX1_putInRow 1 = .ok (.ifnull 17, 3) := by decide +kernel
theorem dX1_putInRow_4 : decode cX1_putInRow 4 = .ok (.aload_n 3, 1) := by decide +kernel
theorem dX1_putInRow_5 : decode cX1_putInRow 5 = .ok (.getstatic 141, 3) := by decide +kernel
theorem dX1_putInRow_8 : decode cX1_putInRow 8 = .ok (.iload_n 1, 1) := by decide +kernel
theorem dX1_putInRow_9 : decode cX1_putInRow 9 = .ok (.iaload, 1) := by decide +kernel
theorem dX1_putInRow_10 : decode cX1_putInRow 10 = .ok (.invokestatic 64, 3) := by decide +kernel
theorem dX1_putInRow_13 : decode cX1_putInRow 13 = .ok (.ifCond .ne 5, 3) := by decide +kernel
theorem dX1_putInRow_16 : decode cX1_putInRow 16 = .ok (.iconst 3, 1) := by decide +kernel
theorem dX1_putInRow_17 : decode cX1_putInRow 17 = .ok (.ireturn, 1) := by decide +kernel
theorem dX1_putInRow_18 : decode cX1_putInRow 18 = .ok (.aload_n 0, 1) := by decide +kernel
theorem dX1_putInRow_19 : decode cX1_putInRow 19 = .ok (.getfield 25, 3) := by decide +kernel
theorem dX1_putInRow_22 : decode cX1_putInRow 22 = .ok (.iload_n 1, 1) := by decide +kernel
theorem dX1_putInRow_23 : decode cX1_putInRow 23 = .ok (.iconst 4, 1) := by decide +kernel
theorem dX1_putInRow_24 : decode cX1_putInRow 24 = .ok (.imul, 1) := by decide +kernel
theorem dX1_putInRow_25 : decode cX1_putInRow 25 = .ok (.iload_n 2, 1) := by decide +kernel
theorem dX1_putInRow_26 : decode cX1_putInRow 26 = .ok (.iadd, 1) := by decide +kernel
theorem dX1_putInRow_27 : decode cX1_putInRow 27 = .ok (.aload_n 3, 1) := by decide +kernel
theorem dX1_putInRow_28 : decode cX1_putInRow 28 = .ok (.aastore, 1) := by decide +kernel
theorem dX1_putInRow_29 : decode cX1_putInRow 29 = .ok (.iconst 0, 1) := by decide +kernel
theorem dX1_putInRow_30 : decode cX1_putInRow 30 = .ok (.ireturn, 1) := by decide +kernel
set_option maxRecDepth 20000 in
theorem ggX1_answerOf_X1_callOf : GoodIn wsX1_answerOf wsX1_callOf := goodIn_r _ [5, 6, 37, 38, 39, 40, 41, 42, 43, 44, 45, 46, 47, 48, 49, 50, 51] (by decide +kernel) (by decide +kernel)
set_option maxRecDepth 20000 in
theorem gX1_answerOf_X1_callOf : GoodIn wsX1_answerOf (wsV RX1 144 RX1 yX1_callOf wsX1_callOf) := goodIn_app (goodIn_of _ (by decide +kernel)) ggX1_answerOf_X1_callOf
set_option maxRecDepth 20000 in
theorem ggX1_answerOf_X1_twiceOf : GoodIn wsX1_answerOf wsX1_twiceOf := goodIn_r _ [10, 11, 12, 13, 4, 14, 1, 2, 3, 5, 6, 15, 16, 17, 18, 37, 38, 39, 40, 41, 42, 43, 44, 45, 46, 47, 48, 49, 50, 51] (by decide +kernel) (by decide +kernel)
set_option maxRecDepth 20000 in
theorem gX1_answerOf_X1_twiceOf : GoodIn wsX1_answerOf (wsV RX1 148 RX1 yX1_twiceOf wsX1_twiceOf) := goodIn_app (goodIn_of _ (by decide +kernel)) ggX1_answerOf_X1_twiceOf
set_option maxRecDepth 20000 in
theorem ggX1_answerOf_X1_volumeOf : GoodIn wsX1_answerOf wsX1_volumeOf := goodIn_r _ [21, 37, 38, 39, 40, 41, 42] (by decide +kernel) (by decide +kernel)
set_option maxRecDepth 20000 in
theorem gX1_answerOf_X1_volumeOf : GoodIn wsX1_answerOf (va_wsS RX1 151 yX1_volumeOf wsX1_volumeOf) := goodIn_app (goodIn_of _ (by decide +kernel)) ggX1_answerOf_X1_volumeOf
set_option maxRecDepth 20000 in
theorem ggX1_answerOf_X1_weightOf : GoodIn wsX1_answerOf wsX1_weightOf := goodIn_r _ [24, 25, 26, 4, 27, 28, 29, 30, 37, 38, 39, 40, 41, 42] (by decide +kernel) (by decide +kernel)
set_option maxRecDepth 20000 in
theorem gX1_answerOf_X1_weightOf : GoodIn wsX1_answerOf (va_wsS RX1 154 yX1_weightOf wsX1_weightOf) := goodIn_app (goodIn_of _ (by decide +kernel)) ggX1_answerOf_X1_weightOf
set_option maxRecDepth 20000 in
theorem ggX1_answerOf_X1_markOf : GoodIn wsX1_answerOf wsX1_markOf := goodIn_r _ [33] (by decide +kernel) (by decide +kernel)
set_option maxRecDepth 20000 in
theorem gX1_answerOf_X1_markOf : GoodIn wsX1_answerOf (va_wsS RX1 157 yX1_markOf wsX1_markOf) := goodIn_app (goodIn_of _ (by decide +kernel)) ggX1_answerOf_X1_markOf
set_option maxRecDepth 20000 in
theorem ggX1_answerOf_X1_seedOf : GoodIn wsX1_answerOf wsX1_seedOf := goodIn_r _ [36, 37, 38, 39, 40, 41, 42] (by decide +kernel) (by decide +kernel)
set_option maxRecDepth 20000 in
theorem gX1_answerOf_X1_seedOf : GoodIn wsX1_answerOf (va_wsS RX1 127 yX1_seedOf wsX1_seedOf) := goodIn_app (goodIn_of _ (by decide +kernel)) ggX1_answerOf_X1_seedOf
set_option maxRecDepth 20000 in
theorem ggX1_answerOf_X1_weightAsBase : GoodIn wsX1_answerOf wsX1_weightAsBase := goodIn_r _ [27, 37, 38, 39, 40, 41, 42] (by decide +kernel) (by decide +kernel)
set_option maxRecDepth 20000 in
theorem gX1_answerOf_X1_weightAsBase : GoodIn wsX1_answerOf (va_wsS RX1 160 yX1_weightAsBase wsX1_weightAsBase) := goodIn_app (goodIn_of _ (by decide +kernel)) ggX1_answerOf_X1_weightAsBase
set_option maxRecDepth 20000 in
theorem ggX1_answerOf_X1_weightAsCat : GoodIn wsX1_answerOf wsX1_weightAsCat := goodIn_r _ [30, 37, 38, 39, 40, 41, 42] (by decide +kernel) (by decide +kernel)
set_option maxRecDepth 20000 in
theorem gX1_answerOf_X1_weightAsCat : GoodIn wsX1_answerOf (va_wsS RX1 163 yX1_weightAsCat wsX1_weightAsCat) := goodIn_app (goodIn_of _ (by decide +kernel)) ggX1_answerOf_X1_weightAsCat
theorem dX1_answerOf_0 : decode cX1_answerOf 0 = .ok (.iload_n 3, 1) := by decide +kernel
theorem dX1_answerOf_1 : decode cX1_answerOf 1 = .ok (.tableswitch 121 0 10 #[59, 67, 75, 82, 87, 100, 106, 121, 121, 111, 116], 59) := by decide +kernel
theorem dX1_answerOf_60 : decode cX1_answerOf 60 = .ok (.aload_n 0, 1) := by decide +kernel
theorem dX1_answerOf_61 : decode cX1_answerOf 61 = .ok (.aload_n 1, 1) := by decide +kernel
theorem dX1_answerOf_62 : decode cX1_answerOf 62 = .ok (.iload 4, 2) := by decide +kernel
theorem dX1_answerOf_64 : decode cX1_answerOf 64 = .ok (.invokevirtual 144, 3) := by decide +kernel
theorem dX1_answerOf_67 : decode cX1_answerOf 67 = .ok (.ireturn, 1) := by decide +kernel
theorem dX1_answerOf_68 : decode cX1_answerOf 68 = .ok (.aload_n 0, 1) := by decide +kernel
theorem dX1_answerOf_69 : decode cX1_answerOf 69 = .ok (.aload_n 1, 1) := by decide +kernel
theorem dX1_answerOf_70 : decode cX1_answerOf 70 = .ok (.iload 4, 2) := by decide +kernel
theorem dX1_answerOf_72 : decode cX1_answerOf 72 = .ok (.invokevirtual 148, 3) := by decide +kernel
theorem dX1_answerOf_75 : decode cX1_answerOf 75 = .ok (.ireturn, 1) := by decide +kernel
theorem dX1_answerOf_76 : decode cX1_answerOf 76 = .ok (.aload_n 1, 1) := by decide +kernel
theorem dX1_answerOf_77 : decode cX1_answerOf 77 = .ok (.iload 4, 2) := by decide +kernel
theorem dX1_answerOf_79 : decode cX1_answerOf 79 = .ok (.invokestatic 151, 3) := by decide +kernel
theorem dX1_answerOf_82 : decode cX1_answerOf 82 = .ok (.ireturn, 1) := by decide +kernel
theorem dX1_answerOf_83 : decode cX1_answerOf 83 = .ok (.aload_n 1, 1) := by decide +kernel
theorem dX1_answerOf_84 : decode cX1_answerOf 84 = .ok (.invokestatic 154, 3) := by decide +kernel
theorem dX1_answerOf_87 : decode cX1_answerOf 87 = .ok (.ireturn, 1) := by decide +kernel
theorem dX1_answerOf_88 : decode cX1_answerOf 88 = .ok (.aload_n 1, 1) := by decide +kernel
theorem dX1_answerOf_89 : decode cX1_answerOf 89 = .ok (.invokestatic 154, 3) := by decide +kernel
theorem dX1_answerOf_92 : decode cX1_answerOf 92 = .ok (.bipush 100, 2) := by decide +kernel
theorem dX1_answerOf_94 : decode cX1_answerOf 94 = .ok (.iconst 3, 1) := by decide +kernel
theorem dX1_answerOf_95 : decode cX1_answerOf 95 = .ok (.invokestatic 157, 3) := by decide +kernel
theorem dX1_answerOf_98 : decode cX1_answerOf 98 = .ok (.imul, 1) := by decide +kernel
theorem dX1_answerOf_99 : decode cX1_answerOf 99 = .ok (.iadd, 1) := by decide +kernel
theorem dX1_answerOf_100 : decode cX1_answerOf 100 = .ok (.ireturn, 1) := by decide +kernel
theorem dX1_answerOf_101 : decode cX1_answerOf 101 = .ok (.iload 4, 2) := by decide +kernel
theorem dX1_answerOf_103 : decode cX1_answerOf 103 = .ok (.bipush 100, 2) := by decide +kernel
theorem dX1_answerOf_105 : decode cX1_answerOf 105 = .ok (.iadd, 1) := by decide +kernel
theorem dX1_answerOf_106 : decode cX1_answerOf 106 = .ok (.ireturn, 1) := by decide +kernel
theorem dX1_answerOf_107 : decode cX1_answerOf 107 = .ok (.iload_n 2, 1) := by decide +kernel
theorem dX1_answerOf_108 : decode cX1_answerOf 108 = .ok (.invokestatic 157, 3) := by decide +kernel
theorem dX1_answerOf_111 : decode cX1_answerOf 111 = .ok (.ireturn, 1) := by decide +kernel
theorem dX1_answerOf_112 : decode cX1_answerOf 112 = .ok (.aload_n 1, 1) := by decide +kernel
theorem dX1_answerOf_113 : decode cX1_answerOf 113 = .ok (.invokestatic 127, 3) := by decide +kernel
theorem dX1_answerOf_116 : decode cX1_answerOf 116 = .ok (.ireturn, 1) := by decide +kernel
theorem dX1_answerOf_117 : decode cX1_answerOf 117 = .ok (.aload_n 1, 1) := by decide +kernel
theorem dX1_answerOf_118 : decode cX1_answerOf 118 = .ok (.getfield 83, 3) := by decide +kernel
theorem dX1_answerOf_121 : decode cX1_answerOf 121 = .ok (.ireturn, 1) := by decide +kernel
theorem dX1_answerOf_122 : decode cX1_answerOf 122 = .ok (.iload_n 2, 1) := by decide +kernel
theorem dX1_answerOf_123 : decode cX1_answerOf 123 = .ok (.iconst 4, 1) := by decide +kernel
theorem dX1_answerOf_124 : decode cX1_answerOf 124 = .ok (.if_icmp .ne 10, 3) := by decide +kernel
theorem dX1_answerOf_127 : decode cX1_answerOf 127 = .ok (.aload_n 1, 1) := by decide +kernel
theorem dX1_answerOf_128 : decode cX1_answerOf 128 = .ok (.invokestatic 160, 3) := by decide +kernel
theorem dX1_answerOf_131 : decode cX1_answerOf 131 = .ok (.goto 7, 3) := by decide +kernel
theorem dX1_answerOf_134 : decode cX1_answerOf 134 = .ok (.aload_n 1, 1) := by decide +kernel
theorem dX1_answerOf_135 : decode cX1_answerOf 135 = .ok (.invokestatic 163, 3) := by decide +kernel
theorem dX1_answerOf_138 : decode cX1_answerOf 138 = .ok (.ireturn, 1) := by decide +kernel
theorem dX1_callOf_0 : decode cX1_callOf 0 = .ok (.aload_n 1, 1) := by decide +kernel
theorem dX1_callOf_1 : decode cX1_callOf 1 = .ok (.astore_n 3, 1) := by decide +kernel
theorem dX1_callOf_2 : decode cX1_callOf 2 = .ok (.iconst 0, 1) := by decide +kernel
theorem dX1_callOf_3 : decode cX1_callOf 3 = .ok (.istore 4, 2) := by decide +kernel
theorem dX1_callOf_5 : decode cX1_callOf 5 = .ok (.iload 4, 2) := by decide +kernel
theorem dX1_callOf_7 : decode cX1_callOf 7 = .ok (.iconst 3, 1) := by decide +kernel
theorem dX1_callOf_8 : decode cX1_callOf 8 = .ok (.if_icmp .ge 21, 3) := by decide +kernel
theorem dX1_callOf_11 : decode cX1_callOf 11 = .ok (.aload_n 3, 1) := by decide +kernel
theorem dX1_callOf_12 : decode cX1_callOf 12 = .ok (.getfield 166, 3) := by decide +kernel
theorem dX1_callOf_15 : decode cX1_callOf 15 = .ok (.ifnull 14, 3) := by decide +kernel
theorem dX1_callOf_18 : decode cX1_callOf 18 = .ok (.aload_n 3, 1) := by decide +kernel
theorem dX1_callOf_19 : decode cX1_callOf 19 = .ok (.getfield 166, 3) := by decide +kernel
theorem dX1_callOf_22 : decode cX1_callOf 22 = .ok (.astore_n 3, 1) := by decide +kernel
theorem dX1_callOf_23 : decode cX1_callOf 23 = .ok (.iinc 4 1, 3) := by decide +kernel
theorem dX1_callOf_26 : decode cX1_callOf 26 = .ok (.goto (-21), 3) := by decide +kernel
theorem dX1_callOf_29 : decode cX1_callOf 29 = .ok (.aload_n 3, 1) := by decide +kernel
theorem dX1_callOf_30 : decode cX1_callOf 30 = .ok (.getfield 118, 3) := by decide +kernel
theorem dX1_callOf_33 : decode cX1_callOf 33 = .ok (.tableswitch 107 0 9 #[55, 62, 69, 107, 55, 78, 85, 78, 107, 62], 55) := by decide +kernel
theorem dX1_callOf_88 : decode cX1_callOf 88 = .ok (.iload_n 2, 1) := by decide +kernel
theorem dX1_callOf_89 : decode cX1_callOf 89 = .ok (.aload_n 3, 1) := by decide +kernel
theorem dX1_callOf_90 : decode cX1_callOf 90 = .ok (.getfield 83, 3) := by decide +kernel
theorem dX1_callOf_93 : decode cX1_callOf 93 = .ok (.iadd, 1) := by decide +kernel
theorem dX1_callOf_94 : decode cX1_callOf 94 = .ok (.ireturn, 1) := by decide +kernel
theorem dX1_callOf_95 : decode cX1_callOf 95 = .ok (.iload_n 2, 1) := by decide +kernel
theorem dX1_callOf_96 : decode cX1_callOf 96 = .ok (.aload_n 3, 1) := by decide +kernel
theorem dX1_callOf_97 : decode cX1_callOf 97 = .ok (.getfield 83, 3) := by decide +kernel
theorem dX1_callOf_100 : decode cX1_callOf 100 = .ok (.isub, 1) := by decide +kernel
theorem dX1_callOf_101 : decode cX1_callOf 101 = .ok (.ireturn, 1) := by decide +kernel
theorem dX1_callOf_102 : decode cX1_callOf 102 = .ok (.iconst 2, 1) := by decide +kernel
theorem dX1_callOf_103 : decode cX1_callOf 103 = .ok (.iload_n 2, 1) := by decide +kernel
theorem dX1_callOf_104 : decode cX1_callOf 104 = .ok (.aload_n 3, 1) := by decide +kernel
theorem dX1_callOf_105 : decode cX1_callOf 105 = .ok (.getfield 83, 3) := by decide +kernel
theorem dX1_callOf_108 : decode cX1_callOf 108 = .ok (.isub, 1) := by decide +kernel
theorem dX1_callOf_109 : decode cX1_callOf 109 = .ok (.imul, 1) := by decide +kernel
theorem dX1_callOf_110 : decode cX1_callOf 110 = .ok (.ireturn, 1) := by decide +kernel
theorem dX1_callOf_111 : decode cX1_callOf 111 = .ok (.iload_n 2, 1) := by decide +kernel
theorem dX1_callOf_112 : decode cX1_callOf 112 = .ok (.aload_n 3, 1) := by decide +kernel
theorem dX1_callOf_113 : decode cX1_callOf 113 = .ok (.getfield 83, 3) := by decide +kernel
theorem dX1_callOf_116 : decode cX1_callOf 116 = .ok (.imul, 1) := by decide +kernel
theorem dX1_callOf_117 : decode cX1_callOf 117 = .ok (.ireturn, 1) := by decide +kernel
theorem dX1_callOf_118 : decode cX1_callOf 118 = .ok (.aload_n 0, 1) := by decide +kernel
theorem dX1_callOf_119 : decode cX1_callOf 119 = .ok (.dup, 1) := by decide +kernel
theorem dX1_callOf_120 : decode cX1_callOf 120 = .ok (.getfield 169, 3) := by decide +kernel
theorem dX1_callOf_123 : decode cX1_callOf 123 = .ok (.iconst 1, 1) := by decide +kernel
theorem dX1_callOf_124 : decode cX1_callOf 124 = .ok (.iadd, 1) := by decide +kernel
theorem dX1_callOf_125 : decode cX1_callOf 125 = .ok (.putfield 169, 3) := by decide +kernel
theorem dX1_callOf_128 : decode cX1_callOf 128 = .ok (.iload_n 2, 1) := by decide +kernel
theorem dX1_callOf_129 : decode cX1_callOf 129 = .ok (.aload_n 3, 1) := by decide +kernel
theorem dX1_callOf_130 : decode cX1_callOf 130 = .ok (.getfield 83, 3) := by decide +kernel
theorem dX1_callOf_133 : decode cX1_callOf 133 = .ok (.iadd, 1) := by decide +kernel
theorem dX1_callOf_134 : decode cX1_callOf 134 = .ok (.aload_n 0, 1) := by decide +kernel
theorem dX1_callOf_135 : decode cX1_callOf 135 = .ok (.getfield 169, 3) := by decide +kernel
theorem dX1_callOf_138 : decode cX1_callOf 138 = .ok (.iadd, 1) := by decide +kernel
theorem dX1_callOf_139 : decode cX1_callOf 139 = .ok (.ireturn, 1) := by decide +kernel
theorem dX1_callOf_140 : decode cX1_callOf 140 = .ok (.iload_n 2, 1) := by decide +kernel
theorem dX1_callOf_141 : decode cX1_callOf 141 = .ok (.ireturn, 1) := by decide +kernel
set_option maxRecDepth 20000 in
theorem ggX1_twiceOf_X1_twiceAsLoud : GoodIn wsX1_twiceOf wsX1_twiceAsLoud := goodIn_r _ [5, 6, 7, 8, 4, 9, 10, 15, 16, 17, 18, 19, 20, 21, 22, 23, 24, 25, 26, 27, 28, 29] (by decide +kernel) (by decide +kernel)
set_option maxRecDepth 20000 in
theorem gX1_twiceOf_X1_twiceAsLoud : GoodIn wsX1_twiceOf (wsV RX1 172 RX1 yX1_twiceAsLoud wsX1_twiceAsLoud) := goodIn_app (goodIn_of _ (by decide +kernel)) ggX1_twiceOf_X1_twiceAsLoud
set_option maxRecDepth 20000 in
theorem ggX1_twiceOf_X1_twiceAsSoft : GoodIn wsX1_twiceOf wsX1_twiceAsSoft := goodIn_r _ [14, 6, 7, 8, 4, 9, 10, 15, 16, 17, 18, 19, 20, 21, 22, 23, 24, 25, 26, 27, 28, 29] (by decide +kernel) (by decide +kernel)
set_option maxRecDepth 20000 in
theorem gX1_twiceOf_X1_twiceAsSoft : GoodIn wsX1_twiceOf (wsV RX1 175 RX1 yX1_twiceAsSoft wsX1_twiceAsSoft) := goodIn_app (goodIn_of _ (by decide +kernel)) ggX1_twiceOf_X1_twiceAsSoft
set_option maxRecDepth 20000 in
theorem ggX1_twiceOf_X1_callOf : GoodIn wsX1_twiceOf wsX1_callOf := goodIn_r _ [9, 10, 15, 16, 17, 18, 19, 20, 21, 22, 23, 24, 25, 26, 27, 28, 29] (by decide +kernel) (by decide +kernel)
set_option maxRecDepth 20000 in
theorem gX1_twiceOf_X1_callOf : GoodIn wsX1_twiceOf (wsV RX1 144 RX1 yX1_callOf wsX1_callOf) := goodIn_app (goodIn_of _ (by decide +kernel)) ggX1_twiceOf_X1_callOf
theorem dX1_twiceOf_0 : decode cX1_twiceOf 0 = .ok (.aload_n 1, 1) := by decide +kernel
theorem dX1_twiceOf_1 : decode cX1_twiceOf 1 = .ok (.getfield 118, 3) := by decide +kernel
theorem dX1_twiceOf_4 : decode cX1_twiceOf 4 = .ok (.tableswitch 84 0 9 #[56, 63, 70, 84, 56, 56, 84, 84, 84, 63], 56) := by decide +kernel
theorem dX1_twiceOf_60 : decode cX1_twiceOf 60 = .ok (.aload_n 0, 1) := by decide +kernel
theorem dX1_twiceOf_61 : decode cX1_twiceOf 61 = .ok (.aload_n 1, 1) := by decide +kernel
theorem dX1_twiceOf_62 : decode cX1_twiceOf 62 = .ok (.iload_n 2, 1) := by decide +kernel
theorem dX1_twiceOf_63 : decode cX1_twiceOf 63 = .ok (.invokevirtual 172, 3) := by decide +kernel
theorem dX1_twiceOf_66 : decode cX1_twiceOf 66 = .ok (.ireturn, 1) := by decide +kernel
theorem dX1_twiceOf_67 : decode cX1_twiceOf 67 = .ok (.aload_n 0, 1) := by decide +kernel
theorem dX1_twiceOf_68 : decode cX1_twiceOf 68 = .ok (.aload_n 1, 1) := by decide +kernel
theorem dX1_twiceOf_69 : decode cX1_twiceOf 69 = .ok (.iload_n 2, 1) := by decide +kernel
theorem dX1_twiceOf_70 : decode cX1_twiceOf 70 = .ok (.invokevirtual 175, 3) := by decide +kernel
theorem dX1_twiceOf_73 : decode cX1_twiceOf 73 = .ok (.ireturn, 1) := by decide +kernel
theorem dX1_twiceOf_74 : decode cX1_twiceOf 74 = .ok (.aload_n 0, 1) := by decide +kernel
theorem dX1_twiceOf_75 : decode cX1_twiceOf 75 = .ok (.aload_n 1, 1) := by decide +kernel
theorem dX1_twiceOf_76 : decode cX1_twiceOf 76 = .ok (.iload_n 2, 1) := by decide +kernel
theorem dX1_twiceOf_77 : decode cX1_twiceOf 77 = .ok (.invokevirtual 172, 3) := by decide +kernel
theorem dX1_twiceOf_80 : decode cX1_twiceOf 80 = .ok (.aload_n 0, 1) := by decide +kernel
theorem dX1_twiceOf_81 : decode cX1_twiceOf 81 = .ok (.aload_n 1, 1) := by decide +kernel
theorem dX1_twiceOf_82 : decode cX1_twiceOf 82 = .ok (.iload_n 2, 1) := by decide +kernel
theorem dX1_twiceOf_83 : decode cX1_twiceOf 83 = .ok (.invokevirtual 175, 3) := by decide +kernel
theorem dX1_twiceOf_86 : decode cX1_twiceOf 86 = .ok (.iadd, 1) := by decide +kernel
theorem dX1_twiceOf_87 : decode cX1_twiceOf 87 = .ok (.ireturn, 1) := by decide +kernel
theorem dX1_twiceOf_88 : decode cX1_twiceOf 88 = .ok (.aload_n 0, 1) := by decide +kernel
theorem dX1_twiceOf_89 : decode cX1_twiceOf 89 = .ok (.aload_n 1, 1) := by decide +kernel
theorem dX1_twiceOf_90 : decode cX1_twiceOf 90 = .ok (.aload_n 0, 1) := by decide +kernel
theorem dX1_twiceOf_91 : decode cX1_twiceOf 91 = .ok (.aload_n 1, 1) := by decide +kernel
theorem dX1_twiceOf_92 : decode cX1_twiceOf 92 = .ok (.iload_n 2, 1) := by decide +kernel
theorem dX1_twiceOf_93 : decode cX1_twiceOf 93 = .ok (.invokevirtual 144, 3) := by decide +kernel
theorem dX1_twiceOf_96 : decode cX1_twiceOf 96 = .ok (.invokevirtual 144, 3) := by decide +kernel
theorem dX1_twiceOf_99 : decode cX1_twiceOf 99 = .ok (.ireturn, 1) := by decide +kernel
set_option maxRecDepth 20000 in
theorem ggX1_twiceAsLoud_X1_callOf : GoodIn wsX1_twiceAsLoud wsX1_callOf := goodIn_r _ [5, 6, 7, 8, 9, 10, 11, 12, 13, 14, 15, 16, 17, 18, 19, 20, 21] (by decide +kernel) (by decide +kernel)
set_option maxRecDepth 20000 in
theorem gX1_twiceAsLoud_X1_callOf : GoodIn wsX1_twiceAsLoud (wsV RX1 144 RX1 yX1_callOf wsX1_callOf) := goodIn_app (goodIn_of _ (by decide +kernel)) ggX1_twiceAsLoud_X1_callOf
theorem dX1_twiceAsLoud_0 : decode cX1_twiceAsLoud 0 = .ok (.iconst 2, 1) := by decide +kernel
theorem dX1_twiceAsLoud_1 : decode cX1_twiceAsLoud 1 = .ok (.aload_n 0, 1) := by decide +kernel
theorem dX1_twiceAsLoud_2 : decode cX1_twiceAsLoud 2 = .ok (.aload_n 1, 1) := by decide +kernel
theorem dX1_twiceAsLoud_3 : decode cX1_twiceAsLoud 3 = .ok (.iload_n 2, 1) := by decide +kernel
theorem dX1_twiceAsLoud_4 : decode cX1_twiceAsLoud 4 = .ok (.invokevirtual 144, 3) := by decide +kernel
theorem dX1_twiceAsLoud_7 : decode cX1_twiceAsLoud 7 = .ok (.imul, 1) := by decide +kernel
theorem dX1_twiceAsLoud_8 : decode cX1_twiceAsLoud 8 = .ok (.ireturn, 1) := by decide +kernel
set_option maxRecDepth 20000 in
theorem ggX1_twiceAsSoft_X1_callOf : GoodIn wsX1_twiceAsSoft wsX1_callOf := goodIn_r _ [5, 6, 7, 8, 9, 10, 11, 12, 13, 14, 15, 16, 17, 18, 19, 20, 21] (by decide +kernel) (by decide +kernel)
set_option maxRecDepth 20000 in
theorem gX1_twiceAsSoft_X1_callOf : GoodIn wsX1_twiceAsSoft (wsV RX1 144 RX1 yX1_callOf wsX1_callOf) := goodIn_app (goodIn_of _ (by decide +kernel)) ggX1_twiceAsSoft_X1_callOf
theorem dX1_twiceAsSoft_0 : decode cX1_twiceAsSoft 0 = .ok (.aload_n 0, 1) := by decide +kernel
theorem dX1_twiceAsSoft_1 : decode cX1_twiceAsSoft 1 = .ok (.aload_n 1, 1) := by decide +kernel
theorem dX1_twiceAsSoft_2 : decode cX1_twiceAsSoft 2 = .ok (.iload_n 2, 1) := by decide +kernel
theorem dX1_twiceAsSoft_3 : decode cX1_twiceAsSoft 3 = .ok (.invokevirtual 144, 3) := by decide +kernel
theorem dX1_twiceAsSoft_6 : decode cX1_twiceAsSoft 6 = .ok (.iconst 1, 1) := by decide +kernel
theorem dX1_twiceAsSoft_7 : decode cX1_twiceAsSoft 7 = .ok (.isub, 1) := by decide +kernel
theorem dX1_twiceAsSoft_8 : decode cX1_twiceAsSoft 8 = .ok (.ireturn, 1) := by decide +kernel
theorem dX1_volumeOf_0 : decode cX1_volumeOf 0 = .ok (.aload_n 0, 1) := by decide +kernel
theorem dX1_volumeOf_1 : decode cX1_volumeOf 1 = .ok (.getfield 118, 3) := by decide +kernel
theorem dX1_volumeOf_4 : decode cX1_volumeOf 4 = .ok (.lookupswitch 48 #[(1, 36), (2, 41), (9, 36)], 36) := by decide +kernel
theorem dX1_volumeOf_40 : decode cX1_volumeOf 40 = .ok (.iload_n 1, 1) := by decide +kernel
theorem dX1_volumeOf_41 : decode cX1_volumeOf 41 = .ok (.bipush 10, 2) := by decide +kernel
theorem dX1_volumeOf_43 : decode cX1_volumeOf 43 = .ok (.isub, 1) := by decide +kernel
theorem dX1_volumeOf_44 : decode cX1_volumeOf 44 = .ok (.ireturn, 1) := by decide +kernel
theorem dX1_volumeOf_45 : decode cX1_volumeOf 45 = .ok (.iload_n 1, 1) := by decide +kernel
theorem dX1_volumeOf_46 : decode cX1_volumeOf 46 = .ok (.bipush 10, 2) := by decide +kernel
theorem dX1_volumeOf_48 : decode cX1_volumeOf 48 = .ok (.iadd, 1) := by decide +kernel
theorem dX1_volumeOf_49 : decode cX1_volumeOf 49 = .ok (.iconst 3, 1) := by decide +kernel
theorem dX1_volumeOf_50 : decode cX1_volumeOf 50 = .ok (.imul, 1) := by decide +kernel
theorem dX1_volumeOf_51 : decode cX1_volumeOf 51 = .ok (.ireturn, 1) := by decide +kernel
theorem dX1_volumeOf_52 : decode cX1_volumeOf 52 = .ok (.iload_n 1, 1) := by decide +kernel
theorem dX1_volumeOf_53 : decode cX1_volumeOf 53 = .ok (.bipush 10, 2) := by decide +kernel
theorem dX1_volumeOf_55 : decode cX1_volumeOf 55 = .ok (.iadd, 1) := by decide +kernel
theorem dX1_volumeOf_56 : decode cX1_volumeOf 56 = .ok (.ireturn, 1) := by decide +kernel
set_option maxRecDepth 20000 in
theorem ggX1_weightOf_X1_weightAsBase : GoodIn wsX1_weightOf wsX1_weightAsBase := goodIn_r _ [4, 8, 9, 10, 11, 12, 13] (by decide +kernel) (by decide +kernel)
set_option maxRecDepth 20000 in
theorem gX1_weightOf_X1_weightAsBase : GoodIn wsX1_weightOf (va_wsS RX1 160 yX1_weightAsBase wsX1_weightAsBase) := goodIn_app (goodIn_of _ (by decide +kernel)) ggX1_weightOf_X1_weightAsBase
set_option maxRecDepth 20000 in
theorem ggX1_weightOf_X1_weightAsCat : GoodIn wsX1_weightOf wsX1_weightAsCat := goodIn_r _ [7, 8, 9, 10, 11, 12, 13] (by decide +kernel) (by decide +kernel)
set_option maxRecDepth 20000 in
theorem gX1_weightOf_X1_weightAsCat : GoodIn wsX1_weightOf (va_wsS RX1 163 yX1_weightAsCat wsX1_weightAsCat) := goodIn_app (goodIn_of _ (by decide +kernel)) ggX1_weightOf_X1_weightAsCat
theorem dX1_weightOf_0 : decode cX1_weightOf 0 = .ok (.aload_n 0, 1) := by decide +kernel
theorem dX1_weightOf_1 : decode cX1_weightOf 1 = .ok (.getfield 118, 3) := by decide +kernel
theorem dX1_weightOf_4 : decode cX1_weightOf 4 = .ok (.lookupswitch 60 #[(0, 36), (2, 43), (9, 50)], 36) := by decide +kernel
theorem dX1_weightOf_40 : decode cX1_weightOf 40 = .ok (.aload_n 0, 1) := by decide +kernel
theorem dX1_weightOf_41 : decode cX1_weightOf 41 = .ok (.invokestatic 160, 3) := by decide +kernel
theorem dX1_weightOf_44 : decode cX1_weightOf 44 = .ok (.iconst 1, 1) := by decide +kernel
theorem dX1_weightOf_45 : decode cX1_weightOf 45 = .ok (.iadd, 1) := by decide +kernel
theorem dX1_weightOf_46 : decode cX1_weightOf 46 = .ok (.ireturn, 1) := by decide +kernel
theorem dX1_weightOf_47 : decode cX1_weightOf 47 = .ok (.iconst 2, 1) := by decide +kernel
theorem dX1_weightOf_48 : decode cX1_weightOf 48 = .ok (.aload_n 0, 1) := by decide +kernel
theorem dX1_weightOf_49 : decode cX1_weightOf 49 = .ok (.invokestatic 163, 3) := by decide +kernel
theorem dX1_weightOf_52 : decode cX1_weightOf 52 = .ok (.imul, 1) := by decide +kernel
theorem dX1_weightOf_53 : decode cX1_weightOf 53 = .ok (.ireturn, 1) := by decide +kernel
theorem dX1_weightOf_54 : decode cX1_weightOf 54 = .ok (.aload_n 0, 1) := by decide +kernel
theorem dX1_weightOf_55 : decode cX1_weightOf 55 = .ok (.invokestatic 163, 3) := by decide +kernel
theorem dX1_weightOf_58 : decode cX1_weightOf 58 = .ok (.aload_n 0, 1) := by decide +kernel
theorem dX1_weightOf_59 : decode cX1_weightOf 59 = .ok (.getfield 138, 3) := by decide +kernel
theorem dX1_weightOf_62 : decode cX1_weightOf 62 = .ok (.iadd, 1) := by decide +kernel
theorem dX1_weightOf_63 : decode cX1_weightOf 63 = .ok (.ireturn, 1) := by decide +kernel
theorem dX1_weightOf_64 : decode cX1_weightOf 64 = .ok (.aload_n 0, 1) := by decide +kernel
theorem dX1_weightOf_65 : decode cX1_weightOf 65 = .ok (.invokestatic 163, 3) := by decide +kernel
theorem dX1_weightOf_68 : decode cX1_weightOf 68 = .ok (.ireturn, 1) := by decide +kernel
theorem dX1_weightAsBase_0 : decode cX1_weightAsBase 0 = .ok (.iconst 2, 1) := by decide +kernel
theorem dX1_weightAsBase_1 : decode cX1_weightAsBase 1 = .ok (.aload_n 0, 1) := by decide +kernel
theorem dX1_weightAsBase_2 : decode cX1_weightAsBase 2 = .ok (.getfield 83, 3) := by decide +kernel
theorem dX1_weightAsBase_5 : decode cX1_weightAsBase 5 = .ok (.imul, 1) := by decide +kernel
theorem dX1_weightAsBase_6 : decode cX1_weightAsBase 6 = .ok (.ireturn, 1) := by decide +kernel
theorem dX1_weightAsCat_0 : decode cX1_weightAsCat 0 = .ok (.iconst 3, 1) := by decide +kernel
theorem dX1_weightAsCat_1 : decode cX1_weightAsCat 1 = .ok (.aload_n 0, 1) := by decide +kernel
theorem dX1_weightAsCat_2 : decode cX1_weightAsCat 2 = .ok (.getfield 83, 3) := by decide +kernel
theorem dX1_weightAsCat_5 : decode cX1_weightAsCat 5 = .ok (.imul, 1) := by decide +kernel
theorem dX1_weightAsCat_6 : decode cX1_weightAsCat 6 = .ok (.ireturn, 1) := by decide +kernel
theorem dX1_seedOf_0 : decode cX1_seedOf 0 = .ok (.aload_n 0, 1) := by decide +kernel
theorem dX1_seedOf_1 : decode cX1_seedOf 1 = .ok (.getfield 118, 3) := by decide +kernel
theorem dX1_seedOf_4 : decode cX1_seedOf 4 = .ok (.lookupswitch 44 #[(0, 28), (2, 36)], 28) := by decide +kernel
theorem dX1_seedOf_32 : decode cX1_seedOf 32 = .ok (.bipush 20, 2) := by decide +kernel
theorem dX1_seedOf_34 : decode cX1_seedOf 34 = .ok (.aload_n 0, 1) := by decide +kernel
theorem dX1_seedOf_35 : decode cX1_seedOf 35 = .ok (.getfield 135, 3) := by decide +kernel
theorem dX1_seedOf_38 : decode cX1_seedOf 38 = .ok (.iadd, 1) := by decide +kernel
theorem dX1_seedOf_39 : decode cX1_seedOf 39 = .ok (.ireturn, 1) := by decide +kernel
theorem dX1_seedOf_40 : decode cX1_seedOf 40 = .ok (.bipush 30, 2) := by decide +kernel
theorem dX1_seedOf_42 : decode cX1_seedOf 42 = .ok (.aload_n 0, 1) := by decide +kernel
theorem dX1_seedOf_43 : decode cX1_seedOf 43 = .ok (.getfield 83, 3) := by decide +kernel
theorem dX1_seedOf_46 : decode cX1_seedOf 46 = .ok (.iadd, 1) := by decide +kernel
theorem dX1_seedOf_47 : decode cX1_seedOf 47 = .ok (.ireturn, 1) := by decide +kernel
theorem dX1_seedOf_48 : decode cX1_seedOf 48 = .ok (.iconst 1, 1) := by decide +kernel
theorem dX1_seedOf_49 : decode cX1_seedOf 49 = .ok (.ireturn, 1) := by decide +kernel
theorem dX1_markOf_0 : decode cX1_markOf 0 = .ok (.iload_n 0, 1) := by decide +kernel
theorem dX1_markOf_1 : decode cX1_markOf 1 = .ok (.tableswitch 31 4 6 #[27, 29, 29], 27) := by decide +kernel
theorem dX1_markOf_28 : decode cX1_markOf 28 = .ok (.iconst 2, 1) := by decide +kernel
theorem dX1_markOf_29 : decode cX1_markOf 29 = .ok (.ireturn, 1) := by decide +kernel
theorem dX1_markOf_30 : decode cX1_markOf 30 = .ok (.iconst 3, 1) := by decide +kernel
theorem dX1_markOf_31 : decode cX1_markOf 31 = .ok (.ireturn, 1) := by decide +kernel
theorem dX1_markOf_32 : decode cX1_markOf 32 = .ok (.iconst 1, 1) := by decide +kernel
theorem dX1_markOf_33 : decode cX1_markOf 33 = .ok (.ireturn, 1) := by decide +kernel
theorem dX1_toneOf_0 : decode cX1_toneOf 0 = .ok (.iload_n 0, 1) := by decide +kernel
theorem dX1_toneOf_1 : decode cX1_toneOf 1 = .ok (.iconst 1, 1) := by decide +kernel
theorem dX1_toneOf_2 : decode cX1_toneOf 2 = .ok (.if_icmp .eq 9, 3) := by decide +kernel
theorem dX1_toneOf_5 : decode cX1_toneOf 5 = .ok (.iload_n 0, 1) := by decide +kernel
theorem dX1_toneOf_6 : decode cX1_toneOf 6 = .ok (.bipush 8, 2) := by decide +kernel
theorem dX1_toneOf_8 : decode cX1_toneOf 8 = .ok (.if_icmp .ne 8, 3) := by decide +kernel
theorem dX1_toneOf_11 : decode cX1_toneOf 11 = .ok (.bipush 7, 2) := by decide +kernel
theorem dX1_toneOf_13 : decode cX1_toneOf 13 = .ok (.goto 4, 3) := by decide +kernel
theorem dX1_toneOf_16 : decode cX1_toneOf 16 = .ok (.iconst 5, 1) := by decide +kernel
theorem dX1_toneOf_17 : decode cX1_toneOf 17 = .ok (.ireturn, 1) := by decide +kernel
theorem dX1_rankOf_0 : decode cX1_rankOf 0 = .ok (.iload_n 0, 1) := by decide +kernel
theorem dX1_rankOf_1 : decode cX1_rankOf 1 = .ok (.lookupswitch 36 #[(4, 27), (6, 31)], 27) := by decide +kernel
theorem dX1_rankOf_28 : decode cX1_rankOf 28 = .ok (.iload_n 1, 1) := by decide +kernel
theorem dX1_rankOf_29 : decode cX1_rankOf 29 = .ok (.iconst 2, 1) := by decide +kernel
theorem dX1_rankOf_30 : decode cX1_rankOf 30 = .ok (.iadd, 1) := by decide +kernel
theorem dX1_rankOf_31 : decode cX1_rankOf 31 = .ok (.ireturn, 1) := by decide +kernel
theorem dX1_rankOf_32 : decode cX1_rankOf 32 = .ok (.iload_n 1, 1) := by decide +kernel
theorem dX1_rankOf_33 : decode cX1_rankOf 33 = .ok (.bipush 6, 2) := by decide +kernel
theorem dX1_rankOf_35 : decode cX1_rankOf 35 = .ok (.iadd, 1) := by decide +kernel
theorem dX1_rankOf_36 : decode cX1_rankOf 36 = .ok (.ireturn, 1) := by decide +kernel
theorem dX1_rankOf_37 : decode cX1_rankOf 37 = .ok (.iload_n 1, 1) := by decide +kernel
theorem dX1_rankOf_38 : decode cX1_rankOf 38 = .ok (.iconst 1, 1) := by decide +kernel
theorem dX1_rankOf_39 : decode cX1_rankOf 39 = .ok (.iadd, 1) := by decide +kernel
theorem dX1_rankOf_40 : decode cX1_rankOf 40 = .ok (.ireturn, 1) := by decide +kernel
set_option maxRecDepth 20000 in
theorem ggX1_divideNoting_X1_note : GoodIn wsX1_divideNoting wsX1_note := goodIn_r _ [5, 6, 7, 8, 9, 10, 11, 12, 13, 14, 15, 16] (by decide +kernel) (by decide +kernel)
set_option maxRecDepth 20000 in
theorem gX1_divideNoting_X1_note : GoodIn wsX1_divideNoting (wsV RX1 131 RX1 yX1_note wsX1_note) := goodIn_app (goodIn_of _ (by decide +kernel)) ggX1_divideNoting_X1_note
theorem dX1_divideNoting_0 : decode cX1_divideNoting 0 = .ok (.iload_n 2, 1) := by decide +kernel
theorem dX1_divideNoting_1 : decode cX1_divideNoting 1 = .ok (.ifCond .ne 7, 3) := by decide +kernel
theorem dX1_divideNoting_4 : decode cX1_divideNoting 4 = .ok (.iconst (-1), 1) := by decide +kernel
theorem dX1_divideNoting_5 : decode cX1_divideNoting 5 = .ok (.goto 6, 3) := by decide +kernel
theorem dX1_divideNoting_8 : decode cX1_divideNoting 8 = .ok (.iload_n 1, 1) := by decide +kernel
theorem dX1_divideNoting_9 : decode cX1_divideNoting 9 = .ok (.iload_n 2, 1) := by decide +kernel
theorem dX1_divideNoting_10 : decode cX1_divideNoting 10 = .ok (.idiv, 1) := by decide +kernel
theorem dX1_divideNoting_11 : decode cX1_divideNoting 11 = .ok (.istore_n 3, 1) := by decide +kernel
theorem dX1_divideNoting_12 : decode cX1_divideNoting 12 = .ok (.aload_n 0, 1) := by decide +kernel
theorem dX1_divideNoting_13 : decode cX1_divideNoting 13 = .ok (.iconst 1, 1) := by decide +kernel
theorem dX1_divideNoting_14 : decode cX1_divideNoting 14 = .ok (.invokevirtual 131, 3) := by decide +kernel
theorem dX1_divideNoting_17 : decode cX1_divideNoting 17 = .ok (.iload_n 3, 1) := by decide +kernel
theorem dX1_divideNoting_18 : decode cX1_divideNoting 18 = .ok (.ireturn, 1) := by decide +kernel
set_option maxRecDepth 20000 in
theorem ggX1_countTurns_X1_note : GoodIn wsX1_countTurns wsX1_note := goodIn_r _ [5, 6, 7, 8, 9, 10, 11, 12, 13, 14, 15, 16] (by decide +kernel) (by decide +kernel)
set_option maxRecDepth 20000 in
theorem gX1_countTurns_X1_note : GoodIn wsX1_countTurns (wsV RX1 131 RX1 yX1_note wsX1_note) := goodIn_app (goodIn_of _ (by decide +kernel)) ggX1_countTurns_X1_note
theorem dX1_countTurns_0 : decode cX1_countTurns 0 = .ok (.iconst 0, 1) := by decide +kernel
theorem dX1_countTurns_1 : decode cX1_countTurns 1 = .ok (.istore_n 3, 1) := by decide +kernel
theorem dX1_countTurns_2 : decode cX1_countTurns 2 = .ok (.iconst 0, 1) := by decide +kernel
theorem dX1_countTurns_3 : decode cX1_countTurns 3 = .ok (.istore 4, 2) := by decide +kernel
theorem dX1_countTurns_5 : decode cX1_countTurns 5 = .ok (.iconst 1, 1) := by decide +kernel
theorem dX1_countTurns_6 : decode cX1_countTurns 6 = .ok (.istore 5, 2) := by decide +kernel
theorem dX1_countTurns_8 : decode cX1_countTurns 8 = .ok (.iload 5, 2) := by decide +kernel
theorem dX1_countTurns_10 : decode cX1_countTurns 10 = .ok (.iconst 5, 1) := by decide +kernel
theorem dX1_countTurns_11 : decode cX1_countTurns 11 = .ok (.if_icmp .gt 52, 3) := by decide +kernel
theorem dX1_countTurns_14 : decode cX1_countTurns 14 = .ok (.iload 4, 2) := by decide +kernel
theorem dX1_countTurns_16 : decode cX1_countTurns 16 = .ok (.ifCond .ne 47, 3) := by decide +kernel
theorem dX1_countTurns_19 : decode cX1_countTurns 19 = .ok (.iload 5, 2) := by decide +kernel
theorem dX1_countTurns_21 : decode cX1_countTurns 21 = .ok (.iload_n 1, 1) := by decide +kernel
theorem dX1_countTurns_22 : decode cX1_countTurns 22 = .ok (.if_icmp .eq 29, 3) := by decide +kernel
theorem dX1_countTurns_25 : decode cX1_countTurns 25 = .ok (.iload 5, 2) := by decide +kernel
theorem dX1_countTurns_27 : decode cX1_countTurns 27 = .ok (.iload_n 2, 1) := by decide +kernel
theorem dX1_countTurns_28 : decode cX1_countTurns 28 = .ok (.if_icmp .ne 7, 3) := by decide +kernel
theorem dX1_countTurns_31 : decode cX1_countTurns 31 = .ok (.iconst 1, 1) := by decide +kernel
theorem dX1_countTurns_32 : decode cX1_countTurns 32 = .ok (.goto 4, 3) := by decide +kernel
theorem dX1_countTurns_35 : decode cX1_countTurns 35 = .ok (.iconst 0, 1) := by decide +kernel
theorem dX1_countTurns_36 : decode cX1_countTurns 36 = .ok (.istore 4, 2) := by decide +kernel
theorem dX1_countTurns_38 : decode cX1_countTurns 38 = .ok (.iload_n 3, 1) := by decide +kernel
theorem dX1_countTurns_39 : decode cX1_countTurns 39 = .ok (.iload 4, 2) := by decide +kernel
theorem dX1_countTurns_41 : decode cX1_countTurns 41 = .ok (.ifCond .eq 7, 3) := by decide +kernel
theorem dX1_countTurns_44 : decode cX1_countTurns 44 = .ok (.iconst 0, 1) := by decide +kernel
theorem dX1_countTurns_45 : decode cX1_countTurns 45 = .ok (.goto 4, 3) := by decide +kernel
theorem dX1_countTurns_48 : decode cX1_countTurns 48 = .ok (.iconst 1, 1) := by decide +kernel
theorem dX1_countTurns_49 : decode cX1_countTurns 49 = .ok (.iadd, 1) := by decide +kernel
theorem dX1_countTurns_50 : decode cX1_countTurns 50 = .ok (.istore_n 3, 1) := by decide +kernel
theorem dX1_countTurns_51 : decode cX1_countTurns 51 = .ok (.aload_n 0, 1) := by decide +kernel
theorem dX1_countTurns_52 : decode cX1_countTurns 52 = .ok (.iload 5, 2) := by decide +kernel
theorem dX1_countTurns_54 : decode cX1_countTurns 54 = .ok (.invokevirtual 131, 3) := by decide +kernel
theorem dX1_countTurns_57 : decode cX1_countTurns 57 = .ok (.iinc 5 1, 3) := by decide +kernel
theorem dX1_countTurns_60 : decode cX1_countTurns 60 = .ok (.goto (-52), 3) := by decide +kernel
theorem dX1_countTurns_63 : decode cX1_countTurns 63 = .ok (.iload_n 3, 1) := by decide +kernel
theorem dX1_countTurns_64 : decode cX1_countTurns 64 = .ok (.ireturn, 1) := by decide +kernel
set_option maxRecDepth 20000 in
theorem ggX1_openWorkClose_X1_note : GoodIn wsX1_openWorkClose wsX1_note := goodIn_r _ [5, 6, 7, 11, 12, 13, 14, 15, 16, 17, 18, 19] (by decide +kernel) (by decide +kernel)
set_option maxRecDepth 20000 in
theorem gX1_openWorkClose_X1_note : GoodIn wsX1_openWorkClose (wsV RX1 131 RX1 yX1_note wsX1_note) := goodIn_app (goodIn_of _ (by decide +kernel)) ggX1_openWorkClose_X1_note
set_option maxRecDepth 20000 in
theorem ggX1_openWorkClose_X1_withFailure : GoodIn wsX1_openWorkClose wsX1_withFailure := goodIn_r _ [10] (by decide +kernel) (by decide +kernel)
set_option maxRecDepth 20000 in
theorem gX1_openWorkClose_X1_withFailure : GoodIn wsX1_openWorkClose (va_wsS RX1 178 yX1_withFailure wsX1_withFailure) := goodIn_app (goodIn_of _ (by decide +kernel)) ggX1_openWorkClose_X1_withFailure
theorem dX1_openWorkClose_0 : decode cX1_openWorkClose 0 = .ok (.iconst 0, 1) := by decide +kernel
theorem dX1_openWorkClose_1 : decode cX1_openWorkClose 1 = .ok (.istore_n 3, 1) := by decide +kernel
theorem dX1_openWorkClose_2 : decode cX1_openWorkClose 2 = .ok (.aload_n 0, 1) := by decide +kernel
theorem dX1_openWorkClose_3 : decode cX1_openWorkClose 3 = .ok (.bipush 10, 2) := by decide +kernel
theorem dX1_openWorkClose_5 : decode cX1_openWorkClose 5 = .ok (.invokevirtual 131, 3) := by decide +kernel
theorem dX1_openWorkClose_8 : decode cX1_openWorkClose 8 = .ok (.aload_n 0, 1) := by decide +kernel
theorem dX1_openWorkClose_9 : decode cX1_openWorkClose 9 = .ok (.bipush 11, 2) := by decide +kernel
theorem dX1_openWorkClose_11 : decode cX1_openWorkClose 11 = .ok (.invokevirtual 131, 3) := by decide +kernel
theorem dX1_openWorkClose_14 : decode cX1_openWorkClose 14 = .ok (.iload_n 1, 1) := by decide +kernel
theorem dX1_openWorkClose_15 : decode cX1_openWorkClose 15 = .ok (.iconst 1, 1) := by decide +kernel
theorem dX1_openWorkClose_16 : decode cX1_openWorkClose 16 = .ok (.iand, 1) := by decide +kernel
theorem dX1_openWorkClose_17 : decode cX1_openWorkClose 17 = .ok (.ifCond .eq 12, 3) := by decide +kernel
theorem dX1_openWorkClose_20 : decode cX1_openWorkClose 20 = .ok (.iload_n 3, 1) := by decide +kernel
theorem dX1_openWorkClose_21 : decode cX1_openWorkClose 21 = .ok (.iconst 1, 1) := by decide +kernel
theorem dX1_openWorkClose_22 : decode cX1_openWorkClose 22 = .ok (.invokestatic 178, 3) := by decide +kernel
theorem dX1_openWorkClose_25 : decode cX1_openWorkClose 25 = .ok (.istore_n 3, 1) := by decide +kernel
theorem dX1_openWorkClose_26 : decode cX1_openWorkClose 26 = .ok (.goto 39, 3) := by decide +kernel
theorem dX1_openWorkClose_29 : decode cX1_openWorkClose 29 = .ok (.aload_n 0, 1) := by decide +kernel
theorem dX1_openWorkClose_30 : decode cX1_openWorkClose 30 = .ok (.bipush 12, 2) := by decide +kernel
theorem dX1_openWorkClose_32 : decode cX1_openWorkClose 32 = .ok (.invokevirtual 131, 3) := by decide +kernel
theorem dX1_openWorkClose_35 : decode cX1_openWorkClose 35 = .ok (.iload_n 1, 1) := by decide +kernel
theorem dX1_openWorkClose_36 : decode cX1_openWorkClose 36 = .ok (.iconst 2, 1) := by decide +kernel
theorem dX1_openWorkClose_37 : decode cX1_openWorkClose 37 = .ok (.iand, 1) := by decide +kernel
theorem dX1_openWorkClose_38 : decode cX1_openWorkClose 38 = .ok (.ifCond .eq 9, 3) := by decide +kernel
theorem dX1_openWorkClose_41 : decode cX1_openWorkClose 41 = .ok (.iload_n 3, 1) := by decide +kernel
theorem dX1_openWorkClose_42 : decode cX1_openWorkClose 42 = .ok (.iconst 2, 1) := by decide +kernel
theorem dX1_openWorkClose_43 : decode cX1_openWorkClose 43 = .ok (.invokestatic 178, 3) := by decide +kernel
theorem dX1_openWorkClose_46 : decode cX1_openWorkClose 46 = .ok (.istore_n 3, 1) := by decide +kernel
theorem dX1_openWorkClose_47 : decode cX1_openWorkClose 47 = .ok (.aload_n 0, 1) := by decide +kernel
theorem dX1_openWorkClose_48 : decode cX1_openWorkClose 48 = .ok (.bipush 21, 2) := by decide +kernel
theorem dX1_openWorkClose_50 : decode cX1_openWorkClose 50 = .ok (.invokevirtual 131, 3) := by decide +kernel
theorem dX1_openWorkClose_53 : decode cX1_openWorkClose 53 = .ok (.iload_n 2, 1) := by decide +kernel
theorem dX1_openWorkClose_54 : decode cX1_openWorkClose 54 = .ok (.iconst 1, 1) := by decide +kernel
theorem dX1_openWorkClose_55 : decode cX1_openWorkClose 55 = .ok (.iand, 1) := by decide +kernel
theorem dX1_openWorkClose_56 : decode cX1_openWorkClose 56 = .ok (.ifCond .eq 9, 3) := by decide +kernel
theorem dX1_openWorkClose_59 : decode cX1_openWorkClose 59 = .ok (.iload_n 3, 1) := by decide +kernel
theorem dX1_openWorkClose_60 : decode cX1_openWorkClose 60 = .ok (.iconst 3, 1) := by decide +kernel
theorem dX1_openWorkClose_61 : decode cX1_openWorkClose 61 = .ok (.invokestatic 178, 3) := by decide +kernel
theorem dX1_openWorkClose_64 : decode cX1_openWorkClose 64 = .ok (.istore_n 3, 1) := by decide +kernel
theorem dX1_openWorkClose_65 : decode cX1_openWorkClose 65 = .ok (.aload_n 0, 1) := by decide +kernel
theorem dX1_openWorkClose_66 : decode cX1_openWorkClose 66 = .ok (.bipush 20, 2) := by decide +kernel
theorem dX1_openWorkClose_68 : decode cX1_openWorkClose 68 = .ok (.invokevirtual 131, 3) := by decide +kernel
theorem dX1_openWorkClose_71 : decode cX1_openWorkClose 71 = .ok (.iload_n 2, 1) := by decide +kernel
theorem dX1_openWorkClose_72 : decode cX1_openWorkClose 72 = .ok (.iconst 2, 1) := by decide +kernel
theorem dX1_openWorkClose_73 : decode cX1_openWorkClose 73 = .ok (.iand, 1) := by decide +kernel
theorem dX1_openWorkClose_74 : decode cX1_openWorkClose 74 = .ok (.ifCond .eq 9, 3) := by decide +kernel
theorem dX1_openWorkClose_77 : decode cX1_openWorkClose 77 = .ok (.iload_n 3, 1) := by decide +kernel
theorem dX1_openWorkClose_78 : decode cX1_openWorkClose 78 = .ok (.iconst 4, 1) := by decide +kernel
theorem dX1_openWorkClose_79 : decode cX1_openWorkClose 79 = .ok (.invokestatic 178, 3) := by decide +kernel
theorem dX1_openWorkClose_82 : decode cX1_openWorkClose 82 = .ok (.istore_n 3, 1) := by decide +kernel
theorem dX1_openWorkClose_83 : decode cX1_openWorkClose 83 = .ok (.iload_n 3, 1) := by decide +kernel
theorem dX1_openWorkClose_84 : decode cX1_openWorkClose 84 = .ok (.ireturn, 1) := by decide +kernel
theorem dX1_withFailure_0 : decode cX1_withFailure 0 = .ok (.iload_n 0, 1) := by decide +kernel
theorem dX1_withFailure_1 : decode cX1_withFailure 1 = .ok (.ifCond .ne 10, 3) := by decide +kernel
theorem dX1_withFailure_4 : decode cX1_withFailure 4 = .ok (.bipush 100, 2) := by decide +kernel
theorem dX1_withFailure_6 : decode cX1_withFailure 6 = .ok (.iload_n 1, 1) := by decide +kernel
theorem dX1_withFailure_7 : decode cX1_withFailure 7 = .ok (.imul, 1) := by decide +kernel
theorem dX1_withFailure_8 : decode cX1_withFailure 8 = .ok (.goto 6, 3) := by decide +kernel
theorem dX1_withFailure_11 : decode cX1_withFailure 11 = .ok (.iload_n 0, 1) := by decide +kernel
theorem dX1_withFailure_12 : decode cX1_withFailure 12 = .ok (.iconst 1, 1) := by decide +kernel
theorem dX1_withFailure_13 : decode cX1_withFailure 13 = .ok (.iadd, 1) := by decide +kernel
theorem dX1_withFailure_14 : decode cX1_withFailure 14 = .ok (.ireturn, 1) := by decide +kernel
theorem dX1_workByWord_0 : decode cX1_workByWord 0 = .ok (.iload_n 1, 1) := by decide +kernel
theorem dX1_workByWord_1 : decode cX1_workByWord 1 = .ok (.tableswitch 45 0 2 #[27, 31, 37], 27) := by decide +kernel
theorem dX1_workByWord_28 : decode cX1_workByWord 28 = .ok (.iload_n 0, 1) := by decide +kernel
theorem dX1_workByWord_29 : decode cX1_workByWord 29 = .ok (.iconst 1, 1) := by decide +kernel
theorem dX1_workByWord_30 : decode cX1_workByWord 30 = .ok (.iadd, 1) := by decide +kernel
theorem dX1_workByWord_31 : decode cX1_workByWord 31 = .ok (.ireturn, 1) := by decide +kernel
theorem dX1_workByWord_32 : decode cX1_workByWord 32 = .ok (.iload_n 0, 1) := by decide +kernel
theorem dX1_workByWord_33 : decode cX1_workByWord 33 = .ok (.iconst 2, 1) := by decide +kernel
theorem dX1_workByWord_34 : decode cX1_workByWord 34 = .ok (.iadd, 1) := by decide +kernel
theorem dX1_workByWord_35 : decode cX1_workByWord 35 = .ok (.iconst 1, 1) := by decide +kernel
theorem dX1_workByWord_36 : decode cX1_workByWord 36 = .ok (.iadd, 1) := by decide +kernel
theorem dX1_workByWord_37 : decode cX1_workByWord 37 = .ok (.ireturn, 1) := by decide +kernel
theorem dX1_workByWord_38 : decode cX1_workByWord 38 = .ok (.iload_n 0, 1) := by decide +kernel
theorem dX1_workByWord_39 : decode cX1_workByWord 39 = .ok (.iconst 4, 1) := by decide +kernel
theorem dX1_workByWord_40 : decode cX1_workByWord 40 = .ok (.iadd, 1) := by decide +kernel
theorem dX1_workByWord_41 : decode cX1_workByWord 41 = .ok (.iconst 2, 1) := by decide +kernel
theorem dX1_workByWord_42 : decode cX1_workByWord 42 = .ok (.iadd, 1) := by decide +kernel
theorem dX1_workByWord_43 : decode cX1_workByWord 43 = .ok (.iconst 1, 1) := by decide +kernel
theorem dX1_workByWord_44 : decode cX1_workByWord 44 = .ok (.iadd, 1) := by decide +kernel
theorem dX1_workByWord_45 : decode cX1_workByWord 45 = .ok (.ireturn, 1) := by decide +kernel
theorem dX1_workByWord_46 : decode cX1_workByWord 46 = .ok (.iload_n 0, 1) := by decide +kernel
theorem dX1_workByWord_47 : decode cX1_workByWord 47 = .ok (.ineg, 1) := by decide +kernel
theorem dX1_workByWord_48 : decode cX1_workByWord 48 = .ok (.ireturn, 1) := by decide +kernel
set_option maxRecDepth 20000 in
theorem ggX1_squareInRow_X1_isBelow : GoodIn wsX1_squareInRow wsX1_isBelow := goodIn_r _ [4] (by decide +kernel) (by decide +kernel)
set_option maxRecDepth 20000 in
theorem gX1_squareInRow_X1_isBelow : GoodIn wsX1_squareInRow (va_wsS RX1 35 yX1_isBelow wsX1_isBelow) := goodIn_app (goodIn_of _ (by decide +kernel)) ggX1_squareInRow_X1_isBelow
set_option maxRecDepth 20000 in
theorem ggX1_squareInRow_X1_wentWith : GoodIn wsX1_squareInRow wsX1_wentWith := goodIn_r _ [8, 9, 10, 11, 12, 13, 14, 15, 16, 17, 18] (by decide +kernel) (by decide +kernel)
set_option maxRecDepth 20000 in
theorem gX1_squareInRow_X1_wentWith : GoodIn wsX1_squareInRow (wsV RX1 57 RX1 yX1_wentWith wsX1_wentWith) := goodIn_app (goodIn_of _ (by decide +kernel)) ggX1_squareInRow_X1_wentWith
theorem dX1_squareInRow_0 : decode cX1_squareInRow 0 = .ok (.iload_n 1, 1) := by decide +kernel
theorem dX1_squareInRow_1 : decode cX1_squareInRow 1 = .ok (.sipush 1000, 3) := by decide +kernel
theorem dX1_squareInRow_4 : decode cX1_squareInRow 4 = .ok (.if_icmp .le 5, 3) := by decide +kernel
theorem dX1_squareInRow_7 : decode cX1_squareInRow 7 = .ok (.iconst (-1), 1) := by decide +kernel
theorem dX1_squareInRow_8 : decode cX1_squareInRow 8 = .ok (.ireturn, 1) := by decide +kernel
theorem dX1_squareInRow_9 : decode cX1_squareInRow 9 = .ok (.iload_n 1, 1) := by decide +kernel
theorem dX1_squareInRow_10 : decode cX1_squareInRow 10 = .ok (.ifCond .ge 6, 3) := by decide +kernel
theorem dX1_squareInRow_13 : decode cX1_squareInRow 13 = .ok (.bipush 6, 2) := by decide +kernel
theorem dX1_squareInRow_15 : decode cX1_squareInRow 15 = .ok (.ireturn, 1) := by decide +kernel
theorem dX1_squareInRow_16 : decode cX1_squareInRow 16 = .ok (.iload_n 2, 1) := by decide +kernel
theorem dX1_squareInRow_17 : decode cX1_squareInRow 17 = .ok (.iload_n 1, 1) := by decide +kernel
theorem dX1_squareInRow_18 : decode cX1_squareInRow 18 = .ok (.invokestatic 35, 3) := by decide +kernel
theorem dX1_squareInRow_21 : decode cX1_squareInRow 21 = .ok (.ifCond .ne 5, 3) := by decide +kernel
theorem dX1_squareInRow_24 : decode cX1_squareInRow 24 = .ok (.iconst 4, 1) := by decide +kernel
theorem dX1_squareInRow_25 : decode cX1_squareInRow 25 = .ok (.ireturn, 1) := by decide +kernel
theorem dX1_squareInRow_26 : decode cX1_squareInRow 26 = .ok (.aload_n 0, 1) := by decide +kernel
theorem dX1_squareInRow_27 : decode cX1_squareInRow 27 = .ok (.iload_n 2, 1) := by decide +kernel
theorem dX1_squareInRow_28 : decode cX1_squareInRow 28 = .ok (.iload_n 2, 1) := by decide +kernel
theorem dX1_squareInRow_29 : decode cX1_squareInRow 29 = .ok (.imul, 1) := by decide +kernel
theorem dX1_squareInRow_30 : decode cX1_squareInRow 30 = .ok (.invokevirtual 57, 3) := by decide +kernel
theorem dX1_squareInRow_33 : decode cX1_squareInRow 33 = .ok (.ireturn, 1) := by decide +kernel
theorem dX1_putAtToldPlace_0 : decode cX1_putAtToldPlace 0 = .ok (.iload_n 0, 1) := by decide +kernel
theorem dX1_putAtToldPlace_1 : decode cX1_putAtToldPlace 1 = .ok (.ifCond .ne 8, 3) := by decide +kernel
theorem dX1_putAtToldPlace_4 : decode cX1_putAtToldPlace 4 = .ok (.bipush 25, 2) := by decide +kernel
theorem dX1_putAtToldPlace_6 : decode cX1_putAtToldPlace 6 = .ok (.goto 5, 3) := by decide +kernel
theorem dX1_putAtToldPlace_9 : decode cX1_putAtToldPlace 9 = .ok (.bipush 7, 2) := by decide +kernel
theorem dX1_putAtToldPlace_11 : decode cX1_putAtToldPlace 11 = .ok (.istore_n 1, 1) := by decide +kernel
theorem dX1_putAtToldPlace_12 : decode cX1_putAtToldPlace 12 = .ok (.iload_n 0, 1) := by decide +kernel
theorem dX1_putAtToldPlace_13 : decode cX1_putAtToldPlace 13 = .ok (.iconst 1, 1) := by decide +kernel
theorem dX1_putAtToldPlace_14 : decode cX1_putAtToldPlace 14 = .ok (.if_icmp .ne 8, 3) := by decide +kernel
theorem dX1_putAtToldPlace_17 : decode cX1_putAtToldPlace 17 = .ok (.bipush 25, 2) := by decide +kernel
theorem dX1_putAtToldPlace_19 : decode cX1_putAtToldPlace 19 = .ok (.goto 5, 3) := by decide +kernel
theorem dX1_putAtToldPlace_22 : decode cX1_putAtToldPlace 22 = .ok (.bipush 8, 2) := by decide +kernel
theorem dX1_putAtToldPlace_24 : decode cX1_putAtToldPlace 24 = .ok (.istore_n 2, 1) := by decide +kernel
theorem dX1_putAtToldPlace_25 : decode cX1_putAtToldPlace 25 = .ok (.iload_n 1, 1) := by decide +kernel
theorem dX1_putAtToldPlace_26 : decode cX1_putAtToldPlace 26 = .ok (.sipush 10000, 3) := by decide +kernel
theorem dX1_putAtToldPlace_29 : decode cX1_putAtToldPlace 29 = .ok (.imul, 1) := by decide +kernel
theorem dX1_putAtToldPlace_30 : decode cX1_putAtToldPlace 30 = .ok (.iload_n 2, 1) := by decide +kernel
theorem dX1_putAtToldPlace_31 : decode cX1_putAtToldPlace 31 = .ok (.bipush 100, 2) := by decide +kernel
theorem dX1_putAtToldPlace_33 : decode cX1_putAtToldPlace 33 = .ok (.imul, 1) := by decide +kernel
theorem dX1_putAtToldPlace_34 : decode cX1_putAtToldPlace 34 = .ok (.iadd, 1) := by decide +kernel
theorem dX1_putAtToldPlace_35 : decode cX1_putAtToldPlace 35 = .ok (.bipush 9, 2) := by decide +kernel
theorem dX1_putAtToldPlace_37 : decode cX1_putAtToldPlace 37 = .ok (.iadd, 1) := by decide +kernel
theorem dX1_putAtToldPlace_38 : decode cX1_putAtToldPlace 38 = .ok (.ireturn, 1) := by decide +kernel
theorem dX1_quotientOfDoubles_0 : decode cX1_quotientOfDoubles 0 = .ok (.iload_n 1, 1) := by decide +kernel
theorem dX1_quotientOfDoubles_1 : decode cX1_quotientOfDoubles 1 = .ok (.ifCond .ne 23, 3) := by decide +kernel
theorem dX1_quotientOfDoubles_4 : decode cX1_quotientOfDoubles 4 = .ok (.iload_n 0, 1) := by decide +kernel
theorem dX1_quotientOfDoubles_5 : decode cX1_quotientOfDoubles 5 = .ok (.ifCond .ne 7, 3) := by decide +kernel
theorem dX1_quotientOfDoubles_8 : decode cX1_quotientOfDoubles 8 = .ok (.iconst 0, 1) := by decide +kernel
theorem dX1_quotientOfDoubles_9 : decode cX1_quotientOfDoubles 9 = .ok (.goto 14, 3) := by decide +kernel
theorem dX1_quotientOfDoubles_12 : decode cX1_quotientOfDoubles 12 = .ok (.iload_n 0, 1) := by decide +kernel
theorem dX1_quotientOfDoubles_13 : decode cX1_quotientOfDoubles 13 = .ok (.ifCond .le 8, 3) := by decide +kernel
theorem dX1_quotientOfDoubles_16 : decode cX1_quotientOfDoubles 16 = .ok (.ldc 181, 2) := by decide +kernel
theorem dX1_quotientOfDoubles_18 : decode cX1_quotientOfDoubles 18 = .ok (.goto 5, 3) := by decide +kernel
theorem dX1_quotientOfDoubles_21 : decode cX1_quotientOfDoubles 21 = .ok (.ldc 182, 2) := by decide +kernel
theorem dX1_quotientOfDoubles_23 : decode cX1_quotientOfDoubles 23 = .ok (.ireturn, 1) := by decide +kernel
theorem dX1_quotientOfDoubles_24 : decode cX1_quotientOfDoubles 24 = .ok (.iload_n 0, 1) := by decide +kernel
theorem dX1_quotientOfDoubles_25 : decode cX1_quotientOfDoubles 25 = .ok (.i2d, 1) := by decide +kernel
theorem dX1_quotientOfDoubles_26 : decode cX1_quotientOfDoubles 26 = .ok (.iload_n 1, 1) := by decide +kernel
theorem dX1_quotientOfDoubles_27 : decode cX1_quotientOfDoubles 27 = .ok (.i2d, 1) := by decide +kernel
theorem dX1_quotientOfDoubles_28 : decode cX1_quotientOfDoubles 28 = .ok (.ddiv, 1) := by decide +kernel
theorem dX1_quotientOfDoubles_29 : decode cX1_quotientOfDoubles 29 = .ok (.d2i, 1) := by decide +kernel
theorem dX1_quotientOfDoubles_30 : decode cX1_quotientOfDoubles 30 = .ok (.ireturn, 1) := by decide +kernel
theorem dX1_decimalLength_0 : decode cX1_decimalLength 0 = .ok (.iload_n 0, 1) := by decide +kernel
theorem dX1_decimalLength_1 : decode cX1_decimalLength 1 = .ok (.ifCond .ge 7, 3) := by decide +kernel
theorem dX1_decimalLength_4 : decode cX1_decimalLength 4 = .ok (.iconst 2, 1) := by decide +kernel
theorem dX1_decimalLength_5 : decode cX1_decimalLength 5 = .ok (.goto 4, 3) := by decide +kernel
theorem dX1_decimalLength_8 : decode cX1_decimalLength 8 = .ok (.iconst 1, 1) := by decide +kernel
theorem dX1_decimalLength_9 : decode cX1_decimalLength 9 = .ok (.istore_n 1, 1) := by decide +kernel
theorem dX1_decimalLength_10 : decode cX1_decimalLength 10 = .ok (.iload_n 0, 1) := by decide +kernel
theorem dX1_decimalLength_11 : decode cX1_decimalLength 11 = .ok (.bipush 10, 2) := by decide +kernel
theorem dX1_decimalLength_13 : decode cX1_decimalLength 13 = .ok (.idiv, 1) := by decide +kernel
theorem dX1_decimalLength_14 : decode cX1_decimalLength 14 = .ok (.istore_n 2, 1) := by decide +kernel
theorem dX1_decimalLength_15 : decode cX1_decimalLength 15 = .ok (.iconst 1, 1) := by decide +kernel
theorem dX1_decimalLength_16 : decode cX1_decimalLength 16 = .ok (.istore_n 3, 1) := by decide +kernel
theorem dX1_decimalLength_17 : decode cX1_decimalLength 17 = .ok (.iload_n 3, 1) := by decide +kernel
theorem dX1_decimalLength_18 : decode cX1_decimalLength 18 = .ok (.bipush 10, 2) := by decide +kernel
theorem dX1_decimalLength_20 : decode cX1_decimalLength 20 = .ok (.if_icmp .ge 21, 3) := by decide +kernel
theorem dX1_decimalLength_23 : decode cX1_decimalLength 23 = .ok (.iload_n 2, 1) := by decide +kernel
theorem dX1_decimalLength_24 : decode cX1_decimalLength 24 = .ok (.ifCond .eq 17, 3) := by decide +kernel
theorem dX1_decimalLength_27 : decode cX1_decimalLength 27 = .ok (.iinc 1 1, 3) := by decide +kernel
theorem dX1_decimalLength_30 : decode cX1_decimalLength 30 = .ok (.iload_n 2, 1) := by decide +kernel
theorem dX1_decimalLength_31 : decode cX1_decimalLength 31 = .ok (.bipush 10, 2) := by decide +kernel
theorem dX1_decimalLength_33 : decode cX1_decimalLength 33 = .ok (.idiv, 1) := by decide +kernel
theorem dX1_decimalLength_34 : decode cX1_decimalLength 34 = .ok (.istore_n 2, 1) := by decide +kernel
theorem dX1_decimalLength_35 : decode cX1_decimalLength 35 = .ok (.iinc 3 1, 3) := by decide +kernel
theorem dX1_decimalLength_38 : decode cX1_decimalLength 38 = .ok (.goto (-21), 3) := by decide +kernel
theorem dX1_decimalLength_41 : decode cX1_decimalLength 41 = .ok (.iload_n 1, 1) := by decide +kernel
theorem dX1_decimalLength_42 : decode cX1_decimalLength 42 = .ok (.ireturn, 1) := by decide +kernel
set_option maxRecDepth 20000 in
theorem ggL_law_X1_init : GoodIn wsL_law wsX1_init := goodIn_r _ [5, 6, 7, 8, 9, 10, 11, 12, 13, 14, 15, 16, 17, 18, 19, 20, 21, 22, 23, 24, 25, 203, 204, 205, 206, 207, 208, 194, 195, 196, 197, 198, 199, 200, 201, 202] (by decide +kernel) (by decide +kernel)
set_option maxRecDepth 20000 in
theorem gL_law_X1_init : GoodIn wsL_law (wsX1_init) := ggL_law_X1_init
set_option maxRecDepth 20000 in
theorem ggL_law_X1_make : GoodIn wsL_law wsX1_make := goodIn_r _ [29, 14, 30, 31, 2, 32, 33, 34, 35, 36, 9, 10, 11, 19, 20, 21, 7, 8, 22, 23, 24, 25, 37, 38, 39, 40, 12, 13, 41, 42, 43, 44, 45, 46, 47, 48, 49, 50, 51, 18, 52, 194, 195, 196, 197, 198, 199, 200, 201, 202, 203, 204, 205, 206, 207, 208] (by decide +kernel) (by decide +kernel)
set_option maxRecDepth 20000 in
theorem gL_law_X1_make : GoodIn wsL_law (wsV RL 13 RX1 yX1_make wsX1_make) := goodIn_app (goodIn_of _ (by decide +kernel)) ggL_law_X1_make
set_option maxRecDepth 20000 in
theorem ggL_law_X1_drop : GoodIn wsL_law wsX1_drop := goodIn_r _ [56, 14, 30, 31, 2, 32, 194, 195, 196, 197, 198, 199, 200, 201, 202] (by decide +kernel) (by decide +kernel)
set_option maxRecDepth 20000 in
theorem gL_law_X1_drop : GoodIn wsL_law (wsV RL 18 RX1 yX1_drop wsX1_drop) := goodIn_app (goodIn_of _ (by decide +kernel)) ggL_law_X1_drop
set_option maxRecDepth 20000 in
theorem ggL_law_X1_probe : GoodIn wsL_law wsX1_probe := goodIn_r _ [60, 61, 14, 30, 31, 2, 32, 62, 63, 64, 65, 66, 67, 68, 69, 70, 71, 72, 73, 74, 75, 76, 77, 78, 79, 80, 81, 82, 83, 84, 85, 86, 87, 88, 89, 90, 91, 92, 93, 94, 95, 96, 97, 98, 99, 100, 101, 102, 103, 104, 105, 106, 107, 108, 109, 110, 111, 112, 113, 114, 115, 45, 46, 47, 194, 195, 196, 197, 198, 199, 200, 201, 202, 203, 204, 205, 206, 207, 208] (by decide +kernel) (by decide +kernel)
set_option maxRecDepth 20000 in
theorem gL_law_X1_probe : GoodIn wsL_law (wsV RL 23 RX1 yX1_probe wsX1_probe) := goodIn_app (goodIn_of _ (by decide +kernel)) ggL_law_X1_probe
set_option maxRecDepth 20000 in
theorem ggL_law_X1_value : GoodIn wsL_law wsX1_value := goodIn_r _ [119, 72, 194, 195, 196, 197, 198, 199, 200, 201, 202] (by decide +kernel) (by decide +kernel)
set_option maxRecDepth 20000 in
theorem gL_law_X1_value : GoodIn wsL_law (wsV RL 28 RX1 yX1_value wsX1_value) := goodIn_app (goodIn_of _ (by decide +kernel)) ggL_law_X1_value
set_option maxRecDepth 20000 in
theorem ggL_law_X1_is : GoodIn wsL_law wsX1_is := goodIn_r _ [123, 14, 30, 31, 2, 32, 76, 77, 78, 79, 62, 63, 64, 194, 195, 196, 197, 198, 199, 200, 201, 202, 203, 204, 205, 206, 207, 208] (by decide +kernel) (by decide +kernel)
set_option maxRecDepth 20000 in
theorem gL_law_X1_is : GoodIn wsL_law (wsV RL 33 RX1 yX1_is wsX1_is) := goodIn_app (goodIn_of _ (by decide +kernel)) ggL_law_X1_is
set_option maxRecDepth 20000 in
theorem ggL_law_X1_same : GoodIn wsL_law wsX1_same := goodIn_r _ [127, 14, 30, 31, 2, 32, 194, 195, 196, 197, 198, 199, 200, 201, 202] (by decide +kernel) (by decide +kernel)
set_option maxRecDepth 20000 in
theorem gL_law_X1_same : GoodIn wsL_law (wsV RL 38 RX1 yX1_same wsX1_same) := goodIn_app (goodIn_of _ (by decide +kernel)) ggL_law_X1_same
set_option maxRecDepth 20000 in
theorem ggL_law_X1_store : GoodIn wsL_law wsX1_store := goodIn_r _ [131, 14, 30, 31, 2, 32, 132, 133, 134, 135, 136, 15, 76, 77, 78, 79, 62, 63, 64, 194, 195, 196, 197, 198, 199, 200, 201, 202, 203, 204, 205, 206, 207, 208] (by decide +kernel) (by decide +kernel)
set_option maxRecDepth 20000 in
theorem gL_law_X1_store : GoodIn wsL_law (wsV RL 42 RX1 yX1_store wsX1_store) := goodIn_app (goodIn_of _ (by decide +kernel)) ggL_law_X1_store
set_option maxRecDepth 20000 in
theorem ggL_law_X1_load : GoodIn wsL_law wsX1_load := goodIn_r _ [140, 14, 15, 30, 31, 2, 32, 194, 195, 196, 197, 198, 199, 200, 201, 202] (by decide +kernel) (by decide +kernel)
set_option maxRecDepth 20000 in
theorem gL_law_X1_load : GoodIn wsL_law (wsV RL 46 RX1 yX1_load wsX1_load) := goodIn_app (goodIn_of _ (by decide +kernel)) ggL_law_X1_load
set_option maxRecDepth 20000 in
theorem ggL_law_X1_copy : GoodIn wsL_law wsX1_copy := goodIn_r _ [144, 16, 15, 30, 31, 2, 32, 145, 146, 147, 132, 133, 134, 135, 136, 76, 77, 78, 79, 62, 63, 64, 194, 195, 196, 197, 198, 199, 200, 201, 202, 203, 204, 205, 206, 207, 208] (by decide +kernel) (by decide +kernel)
set_option maxRecDepth 20000 in
theorem gL_law_X1_copy : GoodIn wsL_law (wsV RL 50 RX1 yX1_copy wsX1_copy) := goodIn_app (goodIn_of _ (by decide +kernel)) ggL_law_X1_copy
set_option maxRecDepth 20000 in
theorem ggL_law_X1_compare : GoodIn wsL_law wsX1_compare := goodIn_r _ [151, 14, 30, 31, 2, 32, 76, 77, 78, 79, 62, 63, 64, 68, 69, 70, 71, 72, 194, 195, 196, 197, 198, 199, 200, 201, 202, 203, 204, 205, 206, 207, 208] (by decide +kernel) (by decide +kernel)
set_option maxRecDepth 20000 in
theorem gL_law_X1_compare : GoodIn wsL_law (wsV RL 54 RX1 yX1_compare wsX1_compare) := goodIn_app (goodIn_of _ (by decide +kernel)) ggL_law_X1_compare
set_option maxRecDepth 20000 in
theorem ggL_law_X1_flow : GoodIn wsL_law wsX1_flow := goodIn_r _ [155, 156, 157, 158, 2, 159, 48, 49, 50, 51, 18, 52, 68, 69, 70, 71, 72, 160, 161, 162, 163, 164, 165, 166, 167, 168, 169, 170, 171, 172, 173, 174, 175, 176, 177, 30, 31, 32, 178, 179, 180, 194, 195, 196, 197, 198, 199, 200, 201, 202] (by decide +kernel) (by decide +kernel)
set_option maxRecDepth 20000 in
theorem gL_law_X1_flow : GoodIn wsL_law (wsV RL 59 RX1 yX1_flow wsX1_flow) := goodIn_app (goodIn_of _ (by decide +kernel)) ggL_law_X1_flow
set_option maxRecDepth 20000 in
theorem ggL_law_X1_number : GoodIn wsL_law wsX1_number := goodIn_r _ [184, 185, 68, 69, 70, 2, 71, 72, 186, 187, 188, 189, 190, 191, 192, 193, 194, 195, 196, 197, 198, 199, 200, 201, 202] (by decide +kernel) (by decide +kernel)
set_option maxRecDepth 20000 in
theorem gL_law_X1_number : GoodIn wsL_law (wsV RL 63 RX1 yX1_number wsX1_number) := goodIn_app (goodIn_of _ (by decide +kernel)) ggL_law_X1_number
theorem dL_law_0 : decode cL_law 0 = .ok (.new 7, 3) := by decide +kernel
theorem dL_law_3 : decode cL_law 3 = .ok (.dup, 1) := by decide +kernel
theorem dL_law_4 : decode cL_law 4 = .ok (.invokespecial 9, 3) := by decide +kernel
theorem dL_law_7 : decode cL_law 7 = .ok (.astore_n 1, 1) := by decide +kernel
theorem dL_law_8 : decode cL_law 8 = .ok (.new 10, 3) := by decide +kernel
theorem dL_law_11 : decode cL_law 11 = .ok (.dup, 1) := by decide +kernel
theorem dL_law_12 : decode cL_law 12 = .ok (.invokespecial 12, 3) := by decide +kernel
theorem dL_law_15 : decode cL_law 15 = .ok (.astore_n 2, 1) := by decide +kernel
theorem dL_law_16 : decode cL_law 16 = .ok (.iconst 0, 1) := by decide +kernel
theorem dL_law_17 : decode cL_law 17 = .ok (.istore_n 3, 1) := by decide +kernel
theorem dL_law_18 : decode cL_law 18 = .ok (.iload_n 3, 1) := by decide +kernel
theorem dL_law_19 : decode cL_law 19 = .ok (.aload_n 0, 1) := by decide +kernel
theorem dL_law_20 : decode cL_law 20 = .ok (.arraylength, 1) := by decide +kernel
theorem dL_law_21 : decode cL_law 21 = .ok (.bipush 6, 2) := by decide +kernel
theorem dL_law_23 : decode cL_law 23 = .ok (.isub, 1) := by decide +kernel
theorem dL_law_24 : decode cL_law 24 = .ok (.if_icmp .gt 598, 3) := by decide +kernel
theorem dL_law_27 : decode cL_law 27 = .ok (.aload_n 0, 1) := by decide +kernel
theorem dL_law_28 : decode cL_law 28 = .ok (.iload_n 3, 1) := by decide +kernel
theorem dL_law_29 : decode cL_law 29 = .ok (.iaload, 1) := by decide +kernel
theorem dL_law_30 : decode cL_law 30 = .ok (.bipush 15, 2) := by decide +kernel
theorem dL_law_32 : decode cL_law 32 = .ok (.iand, 1) := by decide +kernel
theorem dL_law_33 : decode cL_law 33 = .ok (.tableswitch 583 0 13 #[71, 114, 137, 200, 213, 246, 279, 322, 365, 428, 461, 504, 547, 560], 71) := by decide +kernel
theorem dL_law_104 : decode cL_law 104 = .ok (.aload_n 1, 1) := by decide +kernel
theorem dL_law_105 : decode cL_law 105 = .ok (.aload_n 0, 1) := by decide +kernel
theorem dL_law_106 : decode cL_law 106 = .ok (.iload_n 3, 1) := by decide +kernel
theorem dL_law_107 : decode cL_law 107 = .ok (.iconst 1, 1) := by decide +kernel
theorem dL_law_108 : decode cL_law 108 = .ok (.iadd, 1) := by decide +kernel
theorem dL_law_109 : decode cL_law 109 = .ok (.iaload, 1) := by decide +kernel
theorem dL_law_110 : decode cL_law 110 = .ok (.aload_n 0, 1) := by decide +kernel
theorem dL_law_111 : decode cL_law 111 = .ok (.iload_n 3, 1) := by decide +kernel
theorem dL_law_112 : decode cL_law 112 = .ok (.iconst 2, 1) := by decide +kernel
theorem dL_law_113 : decode cL_law 113 = .ok (.iadd, 1) := by decide +kernel
theorem dL_law_114 : decode cL_law 114 = .ok (.iaload, 1) := by decide +kernel
theorem dL_law_115 : decode cL_law 115 = .ok (.aload_n 0, 1) := by decide +kernel
theorem dL_law_116 : decode cL_law 116 = .ok (.iload_n 3, 1) := by decide +kernel
theorem dL_law_117 : decode cL_law 117 = .ok (.iconst 3, 1) := by decide +kernel
theorem dL_law_118 : decode cL_law 118 = .ok (.iadd, 1) := by decide +kernel
theorem dL_law_119 : decode cL_law 119 = .ok (.iaload, 1) := by decide +kernel
theorem dL_law_120 : decode cL_law 120 = .ok (.invokevirtual 13, 3) := by decide +kernel
theorem dL_law_123 : decode cL_law 123 = .ok (.aload_n 2, 1) := by decide +kernel
theorem dL_law_124 : decode cL_law 124 = .ok (.aload_n 0, 1) := by decide +kernel
theorem dL_law_125 : decode cL_law 125 = .ok (.iload_n 3, 1) := by decide +kernel
theorem dL_law_126 : decode cL_law 126 = .ok (.iconst 1, 1) := by decide +kernel
theorem dL_law_127 : decode cL_law 127 = .ok (.iadd, 1) := by decide +kernel
theorem dL_law_128 : decode cL_law 128 = .ok (.iaload, 1) := by decide +kernel
theorem dL_law_129 : decode cL_law 129 = .ok (.aload_n 0, 1) := by decide +kernel
theorem dL_law_130 : decode cL_law 130 = .ok (.iload_n 3, 1) := by decide +kernel
theorem dL_law_131 : decode cL_law 131 = .ok (.iconst 2, 1) := by decide +kernel
theorem dL_law_132 : decode cL_law 132 = .ok (.iadd, 1) := by decide +kernel
theorem dL_law_133 : decode cL_law 133 = .ok (.iaload, 1) := by decide +kernel
theorem dL_law_134 : decode cL_law 134 = .ok (.aload_n 0, 1) := by decide +kernel
theorem dL_law_135 : decode cL_law 135 = .ok (.iload_n 3, 1) := by decide +kernel
theorem dL_law_136 : decode cL_law 136 = .ok (.iconst 3, 1) := by decide +kernel
theorem dL_law_137 : decode cL_law 137 = .ok (.iadd, 1) := by decide +kernel
theorem dL_law_138 : decode cL_law 138 = .ok (.iaload, 1) := by decide +kernel
theorem dL_law_139 : decode cL_law 139 = .ok (.invokevirtual 17, 3) := by decide +kernel
theorem dL_law_142 : decode cL_law 142 = .ok (.if_icmp .eq 474, 3) := by decide +kernel
theorem dL_law_145 : decode cL_law 145 = .ok (.iconst 0, 1) := by decide +kernel
theorem dL_law_146 : decode cL_law 146 = .ok (.ireturn, 1) := by decide +kernel
theorem dL_law_147 : decode cL_law 147 = .ok (.aload_n 1, 1) := by decide +kernel
theorem dL_law_148 : decode cL_law 148 = .ok (.aload_n 0, 1) := by decide +kernel
theorem dL_law_149 : decode cL_law 149 = .ok (.iload_n 3, 1) := by decide +kernel
theorem dL_law_150 : decode cL_law 150 = .ok (.iconst 1, 1) := by decide +kernel
theorem dL_law_151 : decode cL_law 151 = .ok (.iadd, 1) := by decide +kernel
theorem dL_law_152 : decode cL_law 152 = .ok (.iaload, 1) := by decide +kernel
theorem dL_law_153 : decode cL_law 153 = .ok (.invokevirtual 18, 3) := by decide +kernel
theorem dL_law_156 : decode cL_law 156 = .ok (.aload_n 2, 1) := by decide +kernel
theorem dL_law_157 : decode cL_law 157 = .ok (.aload_n 0, 1) := by decide +kernel
theorem dL_law_158 : decode cL_law 158 = .ok (.iload_n 3, 1) := by decide +kernel
theorem dL_law_159 : decode cL_law 159 = .ok (.iconst 1, 1) := by decide +kernel
theorem dL_law_160 : decode cL_law 160 = .ok (.iadd, 1) := by decide +kernel
theorem dL_law_161 : decode cL_law 161 = .ok (.iaload, 1) := by decide +kernel
theorem dL_law_162 : decode cL_law 162 = .ok (.invokevirtual 22, 3) := by decide +kernel
theorem dL_law_165 : decode cL_law 165 = .ok (.if_icmp .eq 451, 3) := by decide +kernel
theorem dL_law_168 : decode cL_law 168 = .ok (.iconst 0, 1) := by decide +kernel
theorem dL_law_169 : decode cL_law 169 = .ok (.ireturn, 1) := by decide +kernel
theorem dL_law_170 : decode cL_law 170 = .ok (.aload_n 1, 1) := by decide +kernel
theorem dL_law_171 : decode cL_law 171 = .ok (.aload_n 0, 1) := by decide +kernel
theorem dL_law_172 : decode cL_law 172 = .ok (.iload_n 3, 1) := by decide +kernel
theorem dL_law_173 : decode cL_law 173 = .ok (.iconst 1, 1) := by decide +kernel
theorem dL_law_174 : decode cL_law 174 = .ok (.iadd, 1) := by decide +kernel
theorem dL_law_175 : decode cL_law 175 = .ok (.iaload, 1) := by decide +kernel
theorem dL_law_176 : decode cL_law 176 = .ok (.aload_n 0, 1) := by decide +kernel
theorem dL_law_177 : decode cL_law 177 = .ok (.iload_n 3, 1) := by decide +kernel
theorem dL_law_178 : decode cL_law 178 = .ok (.iconst 2, 1) := by decide +kernel
theorem dL_law_179 : decode cL_law 179 = .ok (.iadd, 1) := by decide +kernel
theorem dL_law_180 : decode cL_law 180 = .ok (.iaload, 1) := by decide +kernel
theorem dL_law_181 : decode cL_law 181 = .ok (.aload_n 0, 1) := by decide +kernel
theorem dL_law_182 : decode cL_law 182 = .ok (.iload_n 3, 1) := by decide +kernel
theorem dL_law_183 : decode cL_law 183 = .ok (.iconst 3, 1) := by decide +kernel
theorem dL_law_184 : decode cL_law 184 = .ok (.iadd, 1) := by decide +kernel
theorem dL_law_185 : decode cL_law 185 = .ok (.iaload, 1) := by decide +kernel
theorem dL_law_186 : decode cL_law 186 = .ok (.aload_n 0, 1) := by decide +kernel
theorem dL_law_187 : decode cL_law 187 = .ok (.iload_n 3, 1) := by decide +kernel
theorem dL_law_188 : decode cL_law 188 = .ok (.iconst 4, 1) := by decide +kernel
theorem dL_law_189 : decode cL_law 189 = .ok (.iadd, 1) := by decide +kernel
theorem dL_law_190 : decode cL_law 190 = .ok (.iaload, 1) := by decide +kernel
theorem dL_law_191 : decode cL_law 191 = .ok (.aload_n 0, 1) := by decide +kernel
theorem dL_law_192 : decode cL_law 192 = .ok (.iload_n 3, 1) := by decide +kernel
theorem dL_law_193 : decode cL_law 193 = .ok (.iconst 5, 1) := by decide +kernel
theorem dL_law_194 : decode cL_law 194 = .ok (.iadd, 1) := by decide +kernel
theorem dL_law_195 : decode cL_law 195 = .ok (.iaload, 1) := by decide +kernel
theorem dL_law_196 : decode cL_law 196 = .ok (.invokevirtual 23, 3) := by decide +kernel
theorem dL_law_199 : decode cL_law 199 = .ok (.aload_n 2, 1) := by decide +kernel
theorem dL_law_200 : decode cL_law 200 = .ok (.aload_n 0, 1) := by decide +kernel
theorem dL_law_201 : decode cL_law 201 = .ok (.iload_n 3, 1) := by decide +kernel
theorem dL_law_202 : decode cL_law 202 = .ok (.iconst 1, 1) := by decide +kernel
theorem dL_law_203 : decode cL_law 203 = .ok (.iadd, 1) := by decide +kernel
theorem dL_law_204 : decode cL_law 204 = .ok (.iaload, 1) := by decide +kernel
theorem dL_law_205 : decode cL_law 205 = .ok (.aload_n 0, 1) := by decide +kernel
theorem dL_law_206 : decode cL_law 206 = .ok (.iload_n 3, 1) := by decide +kernel
theorem dL_law_207 : decode cL_law 207 = .ok (.iconst 2, 1) := by decide +kernel
theorem dL_law_208 : decode cL_law 208 = .ok (.iadd, 1) := by decide +kernel
theorem dL_law_209 : decode cL_law 209 = .ok (.iaload, 1) := by decide +kernel
theorem dL_law_210 : decode cL_law 210 = .ok (.aload_n 0, 1) := by decide +kernel
theorem dL_law_211 : decode cL_law 211 = .ok (.iload_n 3, 1) := by decide +kernel
theorem dL_law_212 : decode cL_law 212 = .ok (.iconst 3, 1) := by decide +kernel
theorem dL_law_213 : decode cL_law 213 = .ok (.iadd, 1) := by decide +kernel
theorem dL_law_214 : decode cL_law 214 = .ok (.iaload, 1) := by decide +kernel
theorem dL_law_215 : decode cL_law 215 = .ok (.aload_n 0, 1) := by decide +kernel
theorem dL_law_216 : decode cL_law 216 = .ok (.iload_n 3, 1) := by decide +kernel
theorem dL_law_217 : decode cL_law 217 = .ok (.iconst 4, 1) := by decide +kernel
theorem dL_law_218 : decode cL_law 218 = .ok (.iadd, 1) := by decide +kernel
theorem dL_law_219 : decode cL_law 219 = .ok (.iaload, 1) := by decide +kernel
theorem dL_law_220 : decode cL_law 220 = .ok (.aload_n 0, 1) := by decide +kernel
theorem dL_law_221 : decode cL_law 221 = .ok (.iload_n 3, 1) := by decide +kernel
theorem dL_law_222 : decode cL_law 222 = .ok (.iconst 5, 1) := by decide +kernel
theorem dL_law_223 : decode cL_law 223 = .ok (.iadd, 1) := by decide +kernel
theorem dL_law_224 : decode cL_law 224 = .ok (.iaload, 1) := by decide +kernel
theorem dL_law_225 : decode cL_law 225 = .ok (.invokevirtual 27, 3) := by decide +kernel
theorem dL_law_228 : decode cL_law 228 = .ok (.if_icmp .eq 388, 3) := by decide +kernel
theorem dL_law_231 : decode cL_law 231 = .ok (.iconst 0, 1) := by decide +kernel
theorem dL_law_232 : decode cL_law 232 = .ok (.ireturn, 1) := by decide +kernel
theorem dL_law_233 : decode cL_law 233 = .ok (.aload_n 1, 1) := by decide +kernel
theorem dL_law_234 : decode cL_law 234 = .ok (.invokevirtual 28, 3) := by decide +kernel
theorem dL_law_237 : decode cL_law 237 = .ok (.aload_n 2, 1) := by decide +kernel
theorem dL_law_238 : decode cL_law 238 = .ok (.invokevirtual 32, 3) := by decide +kernel
theorem dL_law_241 : decode cL_law 241 = .ok (.if_icmp .eq 375, 3) := by decide +kernel
theorem dL_law_244 : decode cL_law 244 = .ok (.iconst 0, 1) := by decide +kernel
theorem dL_law_245 : decode cL_law 245 = .ok (.ireturn, 1) := by decide +kernel
theorem dL_law_246 : decode cL_law 246 = .ok (.aload_n 1, 1) := by decide +kernel
theorem dL_law_247 : decode cL_law 247 = .ok (.aload_n 0, 1) := by decide +kernel
theorem dL_law_248 : decode cL_law 248 = .ok (.iload_n 3, 1) := by decide +kernel
theorem dL_law_249 : decode cL_law 249 = .ok (.iconst 1, 1) := by decide +kernel
theorem dL_law_250 : decode cL_law 250 = .ok (.iadd, 1) := by decide +kernel
theorem dL_law_251 : decode cL_law 251 = .ok (.iaload, 1) := by decide +kernel
theorem dL_law_252 : decode cL_law 252 = .ok (.aload_n 0, 1) := by decide +kernel
theorem dL_law_253 : decode cL_law 253 = .ok (.iload_n 3, 1) := by decide +kernel
theorem dL_law_254 : decode cL_law 254 = .ok (.iconst 2, 1) := by decide +kernel
theorem dL_law_255 : decode cL_law 255 = .ok (.iadd, 1) := by decide +kernel
theorem dL_law_256 : decode cL_law 256 = .ok (.iaload, 1) := by decide +kernel
theorem dL_law_257 : decode cL_law 257 = .ok (.invokevirtual 33, 3) := by decide +kernel
theorem dL_law_260 : decode cL_law 260 = .ok (.aload_n 2, 1) := by decide +kernel
theorem dL_law_261 : decode cL_law 261 = .ok (.aload_n 0, 1) := by decide +kernel
theorem dL_law_262 : decode cL_law 262 = .ok (.iload_n 3, 1) := by decide +kernel
theorem dL_law_263 : decode cL_law 263 = .ok (.iconst 1, 1) := by decide +kernel
theorem dL_law_264 : decode cL_law 264 = .ok (.iadd, 1) := by decide +kernel
theorem dL_law_265 : decode cL_law 265 = .ok (.iaload, 1) := by decide +kernel
theorem dL_law_266 : decode cL_law 266 = .ok (.aload_n 0, 1) := by decide +kernel
theorem dL_law_267 : decode cL_law 267 = .ok (.iload_n 3, 1) := by decide +kernel
theorem dL_law_268 : decode cL_law 268 = .ok (.iconst 2, 1) := by decide +kernel
theorem dL_law_269 : decode cL_law 269 = .ok (.iadd, 1) := by decide +kernel
theorem dL_law_270 : decode cL_law 270 = .ok (.iaload, 1) := by decide +kernel
theorem dL_law_271 : decode cL_law 271 = .ok (.invokevirtual 37, 3) := by decide +kernel
theorem dL_law_274 : decode cL_law 274 = .ok (.if_icmp .eq 342, 3) := by decide +kernel
theorem dL_law_277 : decode cL_law 277 = .ok (.iconst 0, 1) := by decide +kernel
theorem dL_law_278 : decode cL_law 278 = .ok (.ireturn, 1) := by decide +kernel
theorem dL_law_279 : decode cL_law 279 = .ok (.aload_n 1, 1) := by decide +kernel
theorem dL_law_280 : decode cL_law 280 = .ok (.aload_n 0, 1) := by decide +kernel
theorem dL_law_281 : decode cL_law 281 = .ok (.iload_n 3, 1) := by decide +kernel
theorem dL_law_282 : decode cL_law 282 = .ok (.iconst 1, 1) := by decide +kernel
theorem dL_law_283 : decode cL_law 283 = .ok (.iadd, 1) := by decide +kernel
theorem dL_law_284 : decode cL_law 284 = .ok (.iaload, 1) := by decide +kernel
theorem dL_law_285 : decode cL_law 285 = .ok (.aload_n 0, 1) := by decide +kernel
theorem dL_law_286 : decode cL_law 286 = .ok (.iload_n 3, 1) := by decide +kernel
theorem dL_law_287 : decode cL_law 287 = .ok (.iconst 2, 1) := by decide +kernel
theorem dL_law_288 : decode cL_law 288 = .ok (.iadd, 1) := by decide +kernel
theorem dL_law_289 : decode cL_law 289 = .ok (.iaload, 1) := by decide +kernel
theorem dL_law_290 : decode cL_law 290 = .ok (.invokevirtual 38, 3) := by decide +kernel
theorem dL_law_293 : decode cL_law 293 = .ok (.aload_n 2, 1) := by decide +kernel
theorem dL_law_294 : decode cL_law 294 = .ok (.aload_n 0, 1) := by decide +kernel
theorem dL_law_295 : decode cL_law 295 = .ok (.iload_n 3, 1) := by decide +kernel
theorem dL_law_296 : decode cL_law 296 = .ok (.iconst 1, 1) := by decide +kernel
theorem dL_law_297 : decode cL_law 297 = .ok (.iadd, 1) := by decide +kernel
theorem dL_law_298 : decode cL_law 298 = .ok (.iaload, 1) := by decide +kernel
theorem dL_law_299 : decode cL_law 299 = .ok (.aload_n 0, 1) := by decide +kernel
theorem dL_law_300 : decode cL_law 300 = .ok (.iload_n 3, 1) := by decide +kernel
theorem dL_law_301 : decode cL_law 301 = .ok (.iconst 2, 1) := by decide +kernel
theorem dL_law_302 : decode cL_law 302 = .ok (.iadd, 1) := by decide +kernel
theorem dL_law_303 : decode cL_law 303 = .ok (.iaload, 1) := by decide +kernel
theorem dL_law_304 : decode cL_law 304 = .ok (.invokevirtual 41, 3) := by decide +kernel
theorem dL_law_307 : decode cL_law 307 = .ok (.if_icmp .eq 309, 3) := by decide +kernel
theorem dL_law_310 : decode cL_law 310 = .ok (.iconst 0, 1) := by decide +kernel
theorem dL_law_311 : decode cL_law 311 = .ok (.ireturn, 1) := by decide +kernel
theorem dL_law_312 : decode cL_law 312 = .ok (.aload_n 1, 1) := by decide +kernel
theorem dL_law_313 : decode cL_law 313 = .ok (.aload_n 0, 1) := by decide +kernel
theorem dL_law_314 : decode cL_law 314 = .ok (.iload_n 3, 1) := by decide +kernel
theorem dL_law_315 : decode cL_law 315 = .ok (.iconst 1, 1) := by decide +kernel
theorem dL_law_316 : decode cL_law 316 = .ok (.iadd, 1) := by decide +kernel
theorem dL_law_317 : decode cL_law 317 = .ok (.iaload, 1) := by decide +kernel
theorem dL_law_318 : decode cL_law 318 = .ok (.aload_n 0, 1) := by decide +kernel
theorem dL_law_319 : decode cL_law 319 = .ok (.iload_n 3, 1) := by decide +kernel
theorem dL_law_320 : decode cL_law 320 = .ok (.iconst 2, 1) := by decide +kernel
theorem dL_law_321 : decode cL_law 321 = .ok (.iadd, 1) := by decide +kernel
theorem dL_law_322 : decode cL_law 322 = .ok (.iaload, 1) := by decide +kernel
theorem dL_law_323 : decode cL_law 323 = .ok (.aload_n 0, 1) := by decide +kernel
theorem dL_law_324 : decode cL_law 324 = .ok (.iload_n 3, 1) := by decide +kernel
theorem dL_law_325 : decode cL_law 325 = .ok (.iconst 3, 1) := by decide +kernel
theorem dL_law_326 : decode cL_law 326 = .ok (.iadd, 1) := by decide +kernel
theorem dL_law_327 : decode cL_law 327 = .ok (.iaload, 1) := by decide +kernel
theorem dL_law_328 : decode cL_law 328 = .ok (.invokevirtual 42, 3) := by decide +kernel
theorem dL_law_331 : decode cL_law 331 = .ok (.aload_n 2, 1) := by decide +kernel
theorem dL_law_332 : decode cL_law 332 = .ok (.aload_n 0, 1) := by decide +kernel
theorem dL_law_333 : decode cL_law 333 = .ok (.iload_n 3, 1) := by decide +kernel
theorem dL_law_334 : decode cL_law 334 = .ok (.iconst 1, 1) := by decide +kernel
theorem dL_law_335 : decode cL_law 335 = .ok (.iadd, 1) := by decide +kernel
theorem dL_law_336 : decode cL_law 336 = .ok (.iaload, 1) := by decide +kernel
theorem dL_law_337 : decode cL_law 337 = .ok (.aload_n 0, 1) := by decide +kernel
theorem dL_law_338 : decode cL_law 338 = .ok (.iload_n 3, 1) := by decide +kernel
theorem dL_law_339 : decode cL_law 339 = .ok (.iconst 2, 1) := by decide +kernel
theorem dL_law_340 : decode cL_law 340 = .ok (.iadd, 1) := by decide +kernel
theorem dL_law_341 : decode cL_law 341 = .ok (.iaload, 1) := by decide +kernel
theorem dL_law_342 : decode cL_law 342 = .ok (.aload_n 0, 1) := by decide +kernel
theorem dL_law_343 : decode cL_law 343 = .ok (.iload_n 3, 1) := by decide +kernel
theorem dL_law_344 : decode cL_law 344 = .ok (.iconst 3, 1) := by decide +kernel
theorem dL_law_345 : decode cL_law 345 = .ok (.iadd, 1) := by decide +kernel
theorem dL_law_346 : decode cL_law 346 = .ok (.iaload, 1) := by decide +kernel
theorem dL_law_347 : decode cL_law 347 = .ok (.invokevirtual 45, 3) := by decide +kernel
theorem dL_law_350 : decode cL_law 350 = .ok (.if_icmp .eq 266, 3) := by decide +kernel
theorem dL_law_353 : decode cL_law 353 = .ok (.iconst 0, 1) := by decide +kernel
theorem dL_law_354 : decode cL_law 354 = .ok (.ireturn, 1) := by decide +kernel
theorem dL_law_355 : decode cL_law 355 = .ok (.aload_n 1, 1) := by decide +kernel
theorem dL_law_356 : decode cL_law 356 = .ok (.aload_n 0, 1) := by decide +kernel
theorem dL_law_357 : decode cL_law 357 = .ok (.iload_n 3, 1) := by decide +kernel
theorem dL_law_358 : decode cL_law 358 = .ok (.iconst 1, 1) := by decide +kernel
theorem dL_law_359 : decode cL_law 359 = .ok (.iadd, 1) := by decide +kernel
theorem dL_law_360 : decode cL_law 360 = .ok (.iaload, 1) := by decide +kernel
theorem dL_law_361 : decode cL_law 361 = .ok (.aload_n 0, 1) := by decide +kernel
theorem dL_law_362 : decode cL_law 362 = .ok (.iload_n 3, 1) := by decide +kernel
theorem dL_law_363 : decode cL_law 363 = .ok (.iconst 2, 1) := by decide +kernel
theorem dL_law_364 : decode cL_law 364 = .ok (.iadd, 1) := by decide +kernel
theorem dL_law_365 : decode cL_law 365 = .ok (.iaload, 1) := by decide +kernel
theorem dL_law_366 : decode cL_law 366 = .ok (.aload_n 0, 1) := by decide +kernel
theorem dL_law_367 : decode cL_law 367 = .ok (.iload_n 3, 1) := by decide +kernel
theorem dL_law_368 : decode cL_law 368 = .ok (.iconst 3, 1) := by decide +kernel
theorem dL_law_369 : decode cL_law 369 = .ok (.iadd, 1) := by decide +kernel
theorem dL_law_370 : decode cL_law 370 = .ok (.iaload, 1) := by decide +kernel
theorem dL_law_371 : decode cL_law 371 = .ok (.invokevirtual 46, 3) := by decide +kernel
theorem dL_law_374 : decode cL_law 374 = .ok (.aload_n 2, 1) := by decide +kernel
theorem dL_law_375 : decode cL_law 375 = .ok (.aload_n 0, 1) := by decide +kernel
theorem dL_law_376 : decode cL_law 376 = .ok (.iload_n 3, 1) := by decide +kernel
theorem dL_law_377 : decode cL_law 377 = .ok (.iconst 1, 1) := by decide +kernel
theorem dL_law_378 : decode cL_law 378 = .ok (.iadd, 1) := by decide +kernel
theorem dL_law_379 : decode cL_law 379 = .ok (.iaload, 1) := by decide +kernel
theorem dL_law_380 : decode cL_law 380 = .ok (.aload_n 0, 1) := by decide +kernel
theorem dL_law_381 : decode cL_law 381 = .ok (.iload_n 3, 1) := by decide +kernel
theorem dL_law_382 : decode cL_law 382 = .ok (.iconst 2, 1) := by decide +kernel
theorem dL_law_383 : decode cL_law 383 = .ok (.iadd, 1) := by decide +kernel
theorem dL_law_384 : decode cL_law 384 = .ok (.iaload, 1) := by decide +kernel
theorem dL_law_385 : decode cL_law 385 = .ok (.aload_n 0, 1) := by decide +kernel
theorem dL_law_386 : decode cL_law 386 = .ok (.iload_n 3, 1) := by decide +kernel
theorem dL_law_387 : decode cL_law 387 = .ok (.iconst 3, 1) := by decide +kernel
theorem dL_law_388 : decode cL_law 388 = .ok (.iadd, 1) := by decide +kernel
theorem dL_law_389 : decode cL_law 389 = .ok (.iaload, 1) := by decide +kernel
theorem dL_law_390 : decode cL_law 390 = .ok (.invokevirtual 49, 3) := by decide +kernel
theorem dL_law_393 : decode cL_law 393 = .ok (.if_icmp .eq 223, 3) := by decide +kernel
theorem dL_law_396 : decode cL_law 396 = .ok (.iconst 0, 1) := by decide +kernel
theorem dL_law_397 : decode cL_law 397 = .ok (.ireturn, 1) := by decide +kernel
theorem dL_law_398 : decode cL_law 398 = .ok (.aload_n 1, 1) := by decide +kernel
theorem dL_law_399 : decode cL_law 399 = .ok (.aload_n 0, 1) := by decide +kernel
theorem dL_law_400 : decode cL_law 400 = .ok (.iload_n 3, 1) := by decide +kernel
theorem dL_law_401 : decode cL_law 401 = .ok (.iconst 1, 1) := by decide +kernel
theorem dL_law_402 : decode cL_law 402 = .ok (.iadd, 1) := by decide +kernel
theorem dL_law_403 : decode cL_law 403 = .ok (.iaload, 1) := by decide +kernel
theorem dL_law_404 : decode cL_law 404 = .ok (.aload_n 0, 1) := by decide +kernel
theorem dL_law_405 : decode cL_law 405 = .ok (.iload_n 3, 1) := by decide +kernel
theorem dL_law_406 : decode cL_law 406 = .ok (.iconst 2, 1) := by decide +kernel
theorem dL_law_407 : decode cL_law 407 = .ok (.iadd, 1) := by decide +kernel
theorem dL_law_408 : decode cL_law 408 = .ok (.iaload, 1) := by decide +kernel
theorem dL_law_409 : decode cL_law 409 = .ok (.aload_n 0, 1) := by decide +kernel
theorem dL_law_410 : decode cL_law 410 = .ok (.iload_n 3, 1) := by decide +kernel
theorem dL_law_411 : decode cL_law 411 = .ok (.iconst 3, 1) := by decide +kernel
theorem dL_law_412 : decode cL_law 412 = .ok (.iadd, 1) := by decide +kernel
theorem dL_law_413 : decode cL_law 413 = .ok (.iaload, 1) := by decide +kernel
theorem dL_law_414 : decode cL_law 414 = .ok (.aload_n 0, 1) := by decide +kernel
theorem dL_law_415 : decode cL_law 415 = .ok (.iload_n 3, 1) := by decide +kernel
theorem dL_law_416 : decode cL_law 416 = .ok (.iconst 4, 1) := by decide +kernel
theorem dL_law_417 : decode cL_law 417 = .ok (.iadd, 1) := by decide +kernel
theorem dL_law_418 : decode cL_law 418 = .ok (.iaload, 1) := by decide +kernel
theorem dL_law_419 : decode cL_law 419 = .ok (.aload_n 0, 1) := by decide +kernel
theorem dL_law_420 : decode cL_law 420 = .ok (.iload_n 3, 1) := by decide +kernel
theorem dL_law_421 : decode cL_law 421 = .ok (.iconst 5, 1) := by decide +kernel
theorem dL_law_422 : decode cL_law 422 = .ok (.iadd, 1) := by decide +kernel
theorem dL_law_423 : decode cL_law 423 = .ok (.iaload, 1) := by decide +kernel
theorem dL_law_424 : decode cL_law 424 = .ok (.invokevirtual 50, 3) := by decide +kernel
theorem dL_law_427 : decode cL_law 427 = .ok (.aload_n 2, 1) := by decide +kernel
theorem dL_law_428 : decode cL_law 428 = .ok (.aload_n 0, 1) := by decide +kernel
theorem dL_law_429 : decode cL_law 429 = .ok (.iload_n 3, 1) := by decide +kernel
theorem dL_law_430 : decode cL_law 430 = .ok (.iconst 1, 1) := by decide +kernel
theorem dL_law_431 : decode cL_law 431 = .ok (.iadd, 1) := by decide +kernel
theorem dL_law_432 : decode cL_law 432 = .ok (.iaload, 1) := by decide +kernel
theorem dL_law_433 : decode cL_law 433 = .ok (.aload_n 0, 1) := by decide +kernel
theorem dL_law_434 : decode cL_law 434 = .ok (.iload_n 3, 1) := by decide +kernel
theorem dL_law_435 : decode cL_law 435 = .ok (.iconst 2, 1) := by decide +kernel
theorem dL_law_436 : decode cL_law 436 = .ok (.iadd, 1) := by decide +kernel
theorem dL_law_437 : decode cL_law 437 = .ok (.iaload, 1) := by decide +kernel
theorem dL_law_438 : decode cL_law 438 = .ok (.aload_n 0, 1) := by decide +kernel
theorem dL_law_439 : decode cL_law 439 = .ok (.iload_n 3, 1) := by decide +kernel
theorem dL_law_440 : decode cL_law 440 = .ok (.iconst 3, 1) := by decide +kernel
theorem dL_law_441 : decode cL_law 441 = .ok (.iadd, 1) := by decide +kernel
theorem dL_law_442 : decode cL_law 442 = .ok (.iaload, 1) := by decide +kernel
theorem dL_law_443 : decode cL_law 443 = .ok (.aload_n 0, 1) := by decide +kernel
theorem dL_law_444 : decode cL_law 444 = .ok (.iload_n 3, 1) := by decide +kernel
theorem dL_law_445 : decode cL_law 445 = .ok (.iconst 4, 1) := by decide +kernel
theorem dL_law_446 : decode cL_law 446 = .ok (.iadd, 1) := by decide +kernel
theorem dL_law_447 : decode cL_law 447 = .ok (.iaload, 1) := by decide +kernel
theorem dL_law_448 : decode cL_law 448 = .ok (.aload_n 0, 1) := by decide +kernel
theorem dL_law_449 : decode cL_law 449 = .ok (.iload_n 3, 1) := by decide +kernel
theorem dL_law_450 : decode cL_law 450 = .ok (.iconst 5, 1) := by decide +kernel
theorem dL_law_451 : decode cL_law 451 = .ok (.iadd, 1) := by decide +kernel
theorem dL_law_452 : decode cL_law 452 = .ok (.iaload, 1) := by decide +kernel
theorem dL_law_453 : decode cL_law 453 = .ok (.invokevirtual 53, 3) := by decide +kernel
theorem dL_law_456 : decode cL_law 456 = .ok (.if_icmp .eq 160, 3) := by decide +kernel
theorem dL_law_459 : decode cL_law 459 = .ok (.iconst 0, 1) := by decide +kernel
theorem dL_law_460 : decode cL_law 460 = .ok (.ireturn, 1) := by decide +kernel
theorem dL_law_461 : decode cL_law 461 = .ok (.aload_n 1, 1) := by decide +kernel
theorem dL_law_462 : decode cL_law 462 = .ok (.aload_n 0, 1) := by decide +kernel
theorem dL_law_463 : decode cL_law 463 = .ok (.iload_n 3, 1) := by decide +kernel
theorem dL_law_464 : decode cL_law 464 = .ok (.iconst 1, 1) := by decide +kernel
theorem dL_law_465 : decode cL_law 465 = .ok (.iadd, 1) := by decide +kernel
theorem dL_law_466 : decode cL_law 466 = .ok (.iaload, 1) := by decide +kernel
theorem dL_law_467 : decode cL_law 467 = .ok (.aload_n 0, 1) := by decide +kernel
theorem dL_law_468 : decode cL_law 468 = .ok (.iload_n 3, 1) := by decide +kernel
theorem dL_law_469 : decode cL_law 469 = .ok (.iconst 2, 1) := by decide +kernel
theorem dL_law_470 : decode cL_law 470 = .ok (.iadd, 1) := by decide +kernel
theorem dL_law_471 : decode cL_law 471 = .ok (.iaload, 1) := by decide +kernel
theorem dL_law_472 : decode cL_law 472 = .ok (.invokevirtual 54, 3) := by decide +kernel
theorem dL_law_475 : decode cL_law 475 = .ok (.aload_n 2, 1) := by decide +kernel
theorem dL_law_476 : decode cL_law 476 = .ok (.aload_n 0, 1) := by decide +kernel
theorem dL_law_477 : decode cL_law 477 = .ok (.iload_n 3, 1) := by decide +kernel
theorem dL_law_478 : decode cL_law 478 = .ok (.iconst 1, 1) := by decide +kernel
theorem dL_law_479 : decode cL_law 479 = .ok (.iadd, 1) := by decide +kernel
theorem dL_law_480 : decode cL_law 480 = .ok (.iaload, 1) := by decide +kernel
theorem dL_law_481 : decode cL_law 481 = .ok (.aload_n 0, 1) := by decide +kernel
theorem dL_law_482 : decode cL_law 482 = .ok (.iload_n 3, 1) := by decide +kernel
theorem dL_law_483 : decode cL_law 483 = .ok (.iconst 2, 1) := by decide +kernel
theorem dL_law_484 : decode cL_law 484 = .ok (.iadd, 1) := by decide +kernel
theorem dL_law_485 : decode cL_law 485 = .ok (.iaload, 1) := by decide +kernel
theorem dL_law_486 : decode cL_law 486 = .ok (.invokevirtual 58, 3) := by decide +kernel
theorem dL_law_489 : decode cL_law 489 = .ok (.if_icmp .eq 127, 3) := by decide +kernel
theorem dL_law_492 : decode cL_law 492 = .ok (.iconst 0, 1) := by decide +kernel
theorem dL_law_493 : decode cL_law 493 = .ok (.ireturn, 1) := by decide +kernel
theorem dL_law_494 : decode cL_law 494 = .ok (.aload_n 1, 1) := by decide +kernel
theorem dL_law_495 : decode cL_law 495 = .ok (.aload_n 0, 1) := by decide +kernel
theorem dL_law_496 : decode cL_law 496 = .ok (.iload_n 3, 1) := by decide +kernel
theorem dL_law_497 : decode cL_law 497 = .ok (.iconst 1, 1) := by decide +kernel
theorem dL_law_498 : decode cL_law 498 = .ok (.iadd, 1) := by decide +kernel
theorem dL_law_499 : decode cL_law 499 = .ok (.iaload, 1) := by decide +kernel
theorem dL_law_500 : decode cL_law 500 = .ok (.aload_n 0, 1) := by decide +kernel
theorem dL_law_501 : decode cL_law 501 = .ok (.iload_n 3, 1) := by decide +kernel
theorem dL_law_502 : decode cL_law 502 = .ok (.iconst 2, 1) := by decide +kernel
theorem dL_law_503 : decode cL_law 503 = .ok (.iadd, 1) := by decide +kernel
theorem dL_law_504 : decode cL_law 504 = .ok (.iaload, 1) := by decide +kernel
theorem dL_law_505 : decode cL_law 505 = .ok (.aload_n 0, 1) := by decide +kernel
theorem dL_law_506 : decode cL_law 506 = .ok (.iload_n 3, 1) := by decide +kernel
theorem dL_law_507 : decode cL_law 507 = .ok (.iconst 3, 1) := by decide +kernel
theorem dL_law_508 : decode cL_law 508 = .ok (.iadd, 1) := by decide +kernel
theorem dL_law_509 : decode cL_law 509 = .ok (.iaload, 1) := by decide +kernel
theorem dL_law_510 : decode cL_law 510 = .ok (.invokevirtual 59, 3) := by decide +kernel
theorem dL_law_513 : decode cL_law 513 = .ok (.aload_n 2, 1) := by decide +kernel
theorem dL_law_514 : decode cL_law 514 = .ok (.aload_n 0, 1) := by decide +kernel
theorem dL_law_515 : decode cL_law 515 = .ok (.iload_n 3, 1) := by decide +kernel
theorem dL_law_516 : decode cL_law 516 = .ok (.iconst 1, 1) := by decide +kernel
theorem dL_law_517 : decode cL_law 517 = .ok (.iadd, 1) := by decide +kernel
theorem dL_law_518 : decode cL_law 518 = .ok (.iaload, 1) := by decide +kernel
theorem dL_law_519 : decode cL_law 519 = .ok (.aload_n 0, 1) := by decide +kernel
theorem dL_law_520 : decode cL_law 520 = .ok (.iload_n 3, 1) := by decide +kernel
theorem dL_law_521 : decode cL_law 521 = .ok (.iconst 2, 1) := by decide +kernel
theorem dL_law_522 : decode cL_law 522 = .ok (.iadd, 1) := by decide +kernel
theorem dL_law_523 : decode cL_law 523 = .ok (.iaload, 1) := by decide +kernel
theorem dL_law_524 : decode cL_law 524 = .ok (.aload_n 0, 1) := by decide +kernel
theorem dL_law_525 : decode cL_law 525 = .ok (.iload_n 3, 1) := by decide +kernel
theorem dL_law_526 : decode cL_law 526 = .ok (.iconst 3, 1) := by decide +kernel
theorem dL_law_527 : decode cL_law 527 = .ok (.iadd, 1) := by decide +kernel
theorem dL_law_528 : decode cL_law 528 = .ok (.iaload, 1) := by decide +kernel
theorem dL_law_529 : decode cL_law 529 = .ok (.invokevirtual 62, 3) := by decide +kernel
theorem dL_law_532 : decode cL_law 532 = .ok (.if_icmp .eq 84, 3) := by decide +kernel
theorem dL_law_535 : decode cL_law 535 = .ok (.iconst 0, 1) := by decide +kernel
theorem dL_law_536 : decode cL_law 536 = .ok (.ireturn, 1) := by decide +kernel
theorem dL_law_537 : decode cL_law 537 = .ok (.aload_n 1, 1) := by decide +kernel
theorem dL_law_538 : decode cL_law 538 = .ok (.aload_n 0, 1) := by decide +kernel
theorem dL_law_539 : decode cL_law 539 = .ok (.iload_n 3, 1) := by decide +kernel
theorem dL_law_540 : decode cL_law 540 = .ok (.iconst 1, 1) := by decide +kernel
theorem dL_law_541 : decode cL_law 541 = .ok (.iadd, 1) := by decide +kernel
theorem dL_law_542 : decode cL_law 542 = .ok (.iaload, 1) := by decide +kernel
theorem dL_law_543 : decode cL_law 543 = .ok (.aload_n 0, 1) := by decide +kernel
theorem dL_law_544 : decode cL_law 544 = .ok (.iload_n 3, 1) := by decide +kernel
theorem dL_law_545 : decode cL_law 545 = .ok (.iconst 2, 1) := by decide +kernel
theorem dL_law_546 : decode cL_law 546 = .ok (.iadd, 1) := by decide +kernel
theorem dL_law_547 : decode cL_law 547 = .ok (.iaload, 1) := by decide +kernel
theorem dL_law_548 : decode cL_law 548 = .ok (.aload_n 0, 1) := by decide +kernel
theorem dL_law_549 : decode cL_law 549 = .ok (.iload_n 3, 1) := by decide +kernel
theorem dL_law_550 : decode cL_law 550 = .ok (.iconst 3, 1) := by decide +kernel
theorem dL_law_551 : decode cL_law 551 = .ok (.iadd, 1) := by decide +kernel
theorem dL_law_552 : decode cL_law 552 = .ok (.iaload, 1) := by decide +kernel
theorem dL_law_553 : decode cL_law 553 = .ok (.invokevirtual 63, 3) := by decide +kernel
theorem dL_law_556 : decode cL_law 556 = .ok (.aload_n 2, 1) := by decide +kernel
theorem dL_law_557 : decode cL_law 557 = .ok (.aload_n 0, 1) := by decide +kernel
theorem dL_law_558 : decode cL_law 558 = .ok (.iload_n 3, 1) := by decide +kernel
theorem dL_law_559 : decode cL_law 559 = .ok (.iconst 1, 1) := by decide +kernel
theorem dL_law_560 : decode cL_law 560 = .ok (.iadd, 1) := by decide +kernel
theorem dL_law_561 : decode cL_law 561 = .ok (.iaload, 1) := by decide +kernel
theorem dL_law_562 : decode cL_law 562 = .ok (.aload_n 0, 1) := by decide +kernel
theorem dL_law_563 : decode cL_law 563 = .ok (.iload_n 3, 1) := by decide +kernel
theorem dL_law_564 : decode cL_law 564 = .ok (.iconst 2, 1) := by decide +kernel
theorem dL_law_565 : decode cL_law 565 = .ok (.iadd, 1) := by decide +kernel
theorem dL_law_566 : decode cL_law 566 = .ok (.iaload, 1) := by decide +kernel
theorem dL_law_567 : decode cL_law 567 = .ok (.aload_n 0, 1) := by decide +kernel
theorem dL_law_568 : decode cL_law 568 = .ok (.iload_n 3, 1) := by decide +kernel
theorem dL_law_569 : decode cL_law 569 = .ok (.iconst 3, 1) := by decide +kernel
theorem dL_law_570 : decode cL_law 570 = .ok (.iadd, 1) := by decide +kernel
theorem dL_law_571 : decode cL_law 571 = .ok (.iaload, 1) := by decide +kernel
theorem dL_law_572 : decode cL_law 572 = .ok (.invokevirtual 66, 3) := by decide +kernel
theorem dL_law_575 : decode cL_law 575 = .ok (.if_icmp .eq 41, 3) := by decide +kernel
theorem dL_law_578 : decode cL_law 578 = .ok (.iconst 0, 1) := by decide +kernel
theorem dL_law_579 : decode cL_law 579 = .ok (.ireturn, 1) := by decide +kernel
theorem dL_law_580 : decode cL_law 580 = .ok (.aload_n 1, 1) := by decide +kernel
theorem dL_law_581 : decode cL_law 581 = .ok (.invokevirtual 67, 3) := by decide +kernel
theorem dL_law_584 : decode cL_law 584 = .ok (.aload_n 2, 1) := by decide +kernel
theorem dL_law_585 : decode cL_law 585 = .ok (.invokevirtual 70, 3) := by decide +kernel
theorem dL_law_588 : decode cL_law 588 = .ok (.if_icmp .eq 28, 3) := by decide +kernel
theorem dL_law_591 : decode cL_law 591 = .ok (.iconst 0, 1) := by decide +kernel
theorem dL_law_592 : decode cL_law 592 = .ok (.ireturn, 1) := by decide +kernel
theorem dL_law_593 : decode cL_law 593 = .ok (.aload_n 1, 1) := by decide +kernel
theorem dL_law_594 : decode cL_law 594 = .ok (.aload_n 0, 1) := by decide +kernel
theorem dL_law_595 : decode cL_law 595 = .ok (.iload_n 3, 1) := by decide +kernel
theorem dL_law_596 : decode cL_law 596 = .ok (.iconst 1, 1) := by decide +kernel
theorem dL_law_597 : decode cL_law 597 = .ok (.iadd, 1) := by decide +kernel
theorem dL_law_598 : decode cL_law 598 = .ok (.iaload, 1) := by decide +kernel
theorem dL_law_599 : decode cL_law 599 = .ok (.invokevirtual 71, 3) := by decide +kernel
theorem dL_law_602 : decode cL_law 602 = .ok (.aload_n 2, 1) := by decide +kernel
theorem dL_law_603 : decode cL_law 603 = .ok (.aload_n 0, 1) := by decide +kernel
theorem dL_law_604 : decode cL_law 604 = .ok (.iload_n 3, 1) := by decide +kernel
theorem dL_law_605 : decode cL_law 605 = .ok (.iconst 1, 1) := by decide +kernel
theorem dL_law_606 : decode cL_law 606 = .ok (.iadd, 1) := by decide +kernel
theorem dL_law_607 : decode cL_law 607 = .ok (.iaload, 1) := by decide +kernel
theorem dL_law_608 : decode cL_law 608 = .ok (.invokevirtual 74, 3) := by decide +kernel
theorem dL_law_611 : decode cL_law 611 = .ok (.if_icmp .eq 5, 3) := by decide +kernel
theorem dL_law_614 : decode cL_law 614 = .ok (.iconst 0, 1) := by decide +kernel
theorem dL_law_615 : decode cL_law 615 = .ok (.ireturn, 1) := by decide +kernel
theorem dL_law_616 : decode cL_law 616 = .ok (.iinc 3 6, 3) := by decide +kernel
theorem dL_law_619 : decode cL_law 619 = .ok (.goto (-601), 3) := by decide +kernel
theorem dL_law_622 : decode cL_law 622 = .ok (.iconst 1, 1) := by decide +kernel
theorem dL_law_623 : decode cL_law 623 = .ok (.ireturn, 1) := by decide +kernel

