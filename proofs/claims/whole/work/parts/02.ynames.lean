def RY : String := "FamilyProbesModel"
def TY : u_T := fun k => match k with
  | 0 => ("FamilyProbesModel", "kind", "[I", true)
  | 1 => ("FamilyProbesModel", "n", "[I", true)
  | 2 => ("FamilyProbesModel", "inner", "[I", true)
  | 3 => ("FamilyProbesModel", "things", "I", false)
  | 4 => ("FamilyProbesModel", "slot", "[I", true)
  | 5 => ("FamilyProbesModel", "row", "[I", true)
  | 6 => ("FamilyProbesModel", "third", "[I", true)
  | 7 => ("FamilyProbesModel", "types", "[I", true)
  | 8 => ("FamilyProbesModel", "members", "[I", true)
  | 9 => ("FamilyProbesModel", "shadowCalls", "I", false)
  | 10 => ("FamilyProbesModel", "value", "I", false)
  | 11 => ("FamilyProbesModel", "event", "[I", true)
  | _ => ("FamilyProbesModel", "events", "I", false)
def tyY : Nat → FieldType := fun k => match k with
  | 0 => .array .int
  | 1 => .array .int
  | 2 => .array .int
  | 3 => .int
  | 4 => .array .int
  | 5 => .array .int
  | 6 => .array .int
  | 7 => .array .int
  | 8 => .array .int
  | 9 => .int
  | 10 => .int
  | 11 => .array .int
  | _ => .int
theorem nmY : ∀ a, a < 13 → ∀ b, b < 13 → a ≠ b → (TY a).2.1 ≠ (TY b).2.1 := by decide +kernel
theorem tyY_ok : ∀ k, k < 13 → parseFieldDescriptor (TY k).2.2.1 = some (tyY k) := by decide +kernel
abbrev vwCl : List vw_C := [(RX0, TX0, 6), (RX1, TX1, 9), (RY, TY, 13)]
/-- all words of the tables that stay -/
def yAll : List Cond := lw_tbl.filter goodWord
theorem yIn {i : Nat} {w : Cond} (h : lw_tbl[i]? = some w) (g : goodWord w = true) : w ∈ yAll := List.mem_filter.mpr ⟨List.mem_of_getElem? h, g⟩
abbrev cY_init : ByteArray := prog_4_method_1_code
def yY_init : MethodName := ⟨RY, "<init>", "()V"⟩
abbrev wY_init : List Cond := .code yY_init cY_init 2 (Option.none : Option Jvm.ClassFile.FieldType) :: yAll
abbrev cY_bits : ByteArray := prog_4_method_2_code
def yY_bits : MethodName := ⟨RY, "bits", "(IIII)I"⟩
abbrev wY_bits : List Cond := .code yY_bits cY_bits 4 (Option.some Jvm.ClassFile.FieldType.int) :: yAll
abbrev cY_make : ByteArray := prog_4_method_7_code
def yY_make : MethodName := ⟨RY, "make", "(III)I"⟩
abbrev wY_make : List Cond := .code yY_make cY_make 5 (Option.some Jvm.ClassFile.FieldType.int) :: yAll
abbrev cY_inn : ByteArray := prog_4_method_3_code
def yY_inn : MethodName := ⟨RY, "in", "(III)Z"⟩
abbrev wY_inn : List Cond := .code yY_inn cY_inn 3 (Option.some Jvm.ClassFile.FieldType.boolean) :: yAll
abbrev cY_depth : ByteArray := prog_4_method_6_code
def yY_depth : MethodName := ⟨RY, "depth", "(I)I"⟩
abbrev wY_depth : List Cond := .code yY_depth cY_depth 4 (Option.some Jvm.ClassFile.FieldType.int) :: yAll
abbrev cY_note : ByteArray := prog_4_method_4_code
def yY_note : MethodName := ⟨RY, "note", "(I)V"⟩
abbrev wY_note : List Cond := .code yY_note cY_note 3 (Option.none : Option Jvm.ClassFile.FieldType) :: yAll
abbrev cY_of : ByteArray := prog_4_method_5_code
def yY_of : MethodName := ⟨RY, "of", "(II)Z"⟩
abbrev wY_of : List Cond := .code yY_of cY_of 3 (Option.some Jvm.ClassFile.FieldType.boolean) :: yAll
abbrev cY_seed : ByteArray := prog_4_method_13_code
def yY_seed : MethodName := ⟨RY, "seed", "(I)I"⟩
abbrev wY_seed : List Cond := .code yY_seed cY_seed 2 (Option.some Jvm.ClassFile.FieldType.int) :: yAll
abbrev cY_drop : ByteArray := prog_4_method_8_code
def yY_drop : MethodName := ⟨RY, "drop", "(I)I"⟩
abbrev wY_drop : List Cond := .code yY_drop cY_drop 3 (Option.some Jvm.ClassFile.FieldType.int) :: yAll
abbrev cY_probe : ByteArray := prog_4_method_15_code
def yY_probe : MethodName := ⟨RY, "probe", "(IIIII)I"⟩
abbrev wY_probe : List Cond := .code yY_probe cY_probe 7 (Option.some Jvm.ClassFile.FieldType.int) :: yAll
abbrev cY_answer : ByteArray := prog_4_method_14_code
def yY_answer : MethodName := ⟨RY, "answer", "(IIII)I"⟩
abbrev wY_answer : List Cond := .code yY_answer cY_answer 5 (Option.some Jvm.ClassFile.FieldType.int) :: yAll
abbrev cY_call : ByteArray := prog_4_method_9_code
def yY_call : MethodName := ⟨RY, "call", "(II)I"⟩
abbrev wY_call : List Cond := .code yY_call cY_call 4 (Option.some Jvm.ClassFile.FieldType.int) :: yAll
abbrev cY_twice : ByteArray := prog_4_method_10_code
def yY_twice : MethodName := ⟨RY, "twice", "(II)I"⟩
abbrev wY_twice : List Cond := .code yY_twice cY_twice 4 (Option.some Jvm.ClassFile.FieldType.int) :: yAll
abbrev cY_volume : ByteArray := prog_4_method_11_code
def yY_volume : MethodName := ⟨RY, "volume", "(II)I"⟩
abbrev wY_volume : List Cond := .code yY_volume cY_volume 4 (Option.some Jvm.ClassFile.FieldType.int) :: yAll
abbrev cY_weight : ByteArray := prog_4_method_12_code
def yY_weight : MethodName := ⟨RY, "weight", "(I)I"⟩
abbrev wY_weight : List Cond := .code yY_weight cY_weight 2 (Option.some Jvm.ClassFile.FieldType.int) :: yAll
abbrev cY_value : ByteArray := prog_4_method_16_code
def yY_value : MethodName := ⟨RY, "value", "()I"⟩
abbrev wY_value : List Cond := .code yY_value cY_value 1 (Option.some Jvm.ClassFile.FieldType.int) :: yAll
abbrev cY_is_ : ByteArray := prog_4_method_17_code
def yY_is_ : MethodName := ⟨RY, "is", "(II)Z"⟩
abbrev wY_is_ : List Cond := .code yY_is_ cY_is_ 3 (Option.some Jvm.ClassFile.FieldType.boolean) :: yAll
abbrev cY_same : ByteArray := prog_4_method_18_code
def yY_same : MethodName := ⟨RY, "same", "(II)Z"⟩
abbrev wY_same : List Cond := .code yY_same cY_same 3 (Option.some Jvm.ClassFile.FieldType.boolean) :: yAll
abbrev cY_store : ByteArray := prog_4_method_20_code
def yY_store : MethodName := ⟨RY, "store", "(III)I"⟩
abbrev wY_store : List Cond := .code yY_store cY_store 4 (Option.some Jvm.ClassFile.FieldType.int) :: yAll
abbrev cY_fits : ByteArray := prog_4_method_19_code
def yY_fits : MethodName := ⟨RY, "fits", "(II)Z"⟩
abbrev wY_fits : List Cond := .code yY_fits cY_fits 3 (Option.some Jvm.ClassFile.FieldType.boolean) :: yAll
abbrev cY_load : ByteArray := prog_4_method_21_code
def yY_load : MethodName := ⟨RY, "load", "(III)I"⟩
abbrev wY_load : List Cond := .code yY_load cY_load 4 (Option.some Jvm.ClassFile.FieldType.int) :: yAll
abbrev cY_copy : ByteArray := prog_4_method_22_code
def yY_copy : MethodName := ⟨RY, "copy", "(IIIII)I"⟩
abbrev wY_copy : List Cond := .code yY_copy cY_copy 7 (Option.some Jvm.ClassFile.FieldType.int) :: yAll
abbrev cY_compare : ByteArray := prog_4_method_23_code
def yY_compare : MethodName := ⟨RY, "compare", "(II)I"⟩
abbrev wY_compare : List Cond := .code yY_compare cY_compare 5 (Option.some Jvm.ClassFile.FieldType.int) :: yAll
abbrev cY_flow : ByteArray := prog_4_method_27_code
def yY_flow : MethodName := ⟨RY, "flow", "(III)I"⟩
abbrev wY_flow : List Cond := .code yY_flow cY_flow 4 (Option.some Jvm.ClassFile.FieldType.int) :: yAll
abbrev cY_given : ByteArray := prog_4_method_24_code
def yY_given : MethodName := ⟨RY, "given", "(I)I"⟩
abbrev wY_given : List Cond := .code yY_given cY_given 2 (Option.some Jvm.ClassFile.FieldType.int) :: yAll
abbrev cY_turns : ByteArray := prog_4_method_25_code
def yY_turns : MethodName := ⟨RY, "turns", "(II)I"⟩
abbrev wY_turns : List Cond := .code yY_turns cY_turns 7 (Option.some Jvm.ClassFile.FieldType.int) :: yAll
abbrev cY_closings : ByteArray := prog_4_method_26_code
def yY_closings : MethodName := ⟨RY, "closings", "(II)I"⟩
abbrev wY_closings : List Cond := .code yY_closings cY_closings 6 (Option.some Jvm.ClassFile.FieldType.int) :: yAll
abbrev cY_number : ByteArray := prog_4_method_32_code
def yY_number : MethodName := ⟨RY, "number", "(III)I"⟩
abbrev wY_number : List Cond := .code yY_number cY_number 4 (Option.some Jvm.ClassFile.FieldType.int) :: yAll
abbrev cY_rounded : ByteArray := prog_4_method_28_code
def yY_rounded : MethodName := ⟨RY, "rounded", "(I)J"⟩
abbrev wY_rounded : List Cond := .code yY_rounded cY_rounded 9 (Option.some Jvm.ClassFile.FieldType.long) :: yAll
abbrev cY_held : ByteArray := prog_4_method_29_code
def yY_held : MethodName := ⟨RY, "held", "(J)I"⟩
abbrev wY_held : List Cond := .code yY_held cY_held 2 (Option.some Jvm.ClassFile.FieldType.int) :: yAll
abbrev cY_quotient : ByteArray := prog_4_method_30_code
def yY_quotient : MethodName := ⟨RY, "quotient", "(II)I"⟩
abbrev wY_quotient : List Cond := .code yY_quotient cY_quotient 2 (Option.some Jvm.ClassFile.FieldType.int) :: yAll
abbrev cY_decimals : ByteArray := prog_4_method_31_code
def yY_decimals : MethodName := ⟨RY, "decimals", "(I)I"⟩
abbrev wY_decimals : List Cond := .code yY_decimals cY_decimals 4 (Option.some Jvm.ClassFile.FieldType.int) :: yAll
abbrev cY_events : ByteArray := prog_4_method_33_code
def yY_events : MethodName := ⟨RY, "events", "()I"⟩
abbrev wY_events : List Cond := .code yY_events cY_events 1 (Option.some Jvm.ClassFile.FieldType.int) :: yAll
abbrev cY_event : ByteArray := prog_4_method_34_code
def yY_event : MethodName := ⟨RY, "event", "(I)I"⟩
abbrev wY_event : List Cond := .code yY_event cY_event 2 (Option.some Jvm.ClassFile.FieldType.int) :: yAll
set_option maxRecDepth 100000 in
theorem yini : .initialized RY ∈ yAll := yIn (i := 31) rfl rfl
set_option maxRecDepth 100000 in
theorem ymobj : .instanceMethod objectInit ∈ yAll := yIn (i := 38) rfl rfl
set_option maxRecDepth 100000 in
theorem ycobj : .code objectInit ⟨#[0xb1]⟩ 1 none ∈ yAll := yIn (i := 39) rfl rfl
set_option maxRecDepth 100000 in
theorem yarr : .arrayClass .int ∈ yAll := yIn (i := 98) rfl rfl
set_option maxRecDepth 100000 in
theorem ylcl : .classLink RL 10 RY ∈ yAll := yIn (i := 275) rfl rfl
set_option maxRecDepth 100000 in
theorem yinst : .instantiable RY 13 ∈ yAll := yIn (i := 276) rfl rfl
set_option maxRecDepth 100000 in
theorem ylL_12 : .methodLink RL 12 yY_init ∈ yAll := yIn (i := 277) rfl rfl
set_option maxRecDepth 100000 in
theorem ym_init : .instanceMethod yY_init ∈ yAll := yIn (i := 278) rfl rfl
set_option maxRecDepth 100000 in
theorem yc_init : .code yY_init cY_init 2 (Option.none : Option Jvm.ClassFile.FieldType) ∈ yAll := yIn (i := 279) rfl rfl
set_option maxRecDepth 100000 in
theorem ylobj : .methodLink RY 1 objectInit ∈ yAll := yIn (i := 280) rfl rfl
set_option maxRecDepth 100000 in
theorem ylY_41 : .methodLink RY 41 yY_bits ∈ yAll := yIn (i := 281) rfl rfl
set_option maxRecDepth 100000 in
theorem ym_bits : .static yY_bits ∈ yAll := yIn (i := 282) rfl rfl
set_option maxRecDepth 100000 in
theorem yc_bits : .code yY_bits cY_bits 4 (Option.some Jvm.ClassFile.FieldType.int) ∈ yAll := yIn (i := 283) rfl rfl
set_option maxRecDepth 100000 in
theorem yf_7 : .fieldLink RY 7 "FamilyProbesModel" "kind" "[I" ∈ yAll := yIn (i := 284) rfl rfl
set_option maxRecDepth 100000 in
theorem yf_13 : .fieldLink RY 13 "FamilyProbesModel" "n" "[I" ∈ yAll := yIn (i := 285) rfl rfl
set_option maxRecDepth 100000 in
theorem yf_16 : .fieldLink RY 16 "FamilyProbesModel" "inner" "[I" ∈ yAll := yIn (i := 286) rfl rfl
set_option maxRecDepth 100000 in
theorem yf_19 : .fieldLink RY 19 "FamilyProbesModel" "things" "I" ∈ yAll := yIn (i := 287) rfl rfl
set_option maxRecDepth 100000 in
theorem yf_23 : .fieldLink RY 23 "FamilyProbesModel" "slot" "[I" ∈ yAll := yIn (i := 288) rfl rfl
set_option maxRecDepth 100000 in
theorem yf_26 : .fieldLink RY 26 "FamilyProbesModel" "row" "[I" ∈ yAll := yIn (i := 289) rfl rfl
set_option maxRecDepth 100000 in
theorem yf_29 : .fieldLink RY 29 "FamilyProbesModel" "third" "[I" ∈ yAll := yIn (i := 290) rfl rfl
set_option maxRecDepth 100000 in
theorem yf_32 : .fieldLink RY 32 "FamilyProbesModel" "types" "[I" ∈ yAll := yIn (i := 291) rfl rfl
set_option maxRecDepth 100000 in
theorem yf_35 : .fieldLink RY 35 "FamilyProbesModel" "members" "[I" ∈ yAll := yIn (i := 292) rfl rfl
set_option maxRecDepth 100000 in
theorem yf_67 : .fieldLink RY 67 "FamilyProbesModel" "shadowCalls" "I" ∈ yAll := yIn (i := 293) rfl rfl
set_option maxRecDepth 100000 in
theorem yf_86 : .fieldLink RY 86 "FamilyProbesModel" "value" "I" ∈ yAll := yIn (i := 294) rfl rfl
set_option maxRecDepth 100000 in
theorem yf_38 : .fieldLink RY 38 "FamilyProbesModel" "event" "[I" ∈ yAll := yIn (i := 295) rfl rfl
set_option maxRecDepth 100000 in
theorem yf_45 : .fieldLink RY 45 "FamilyProbesModel" "events" "I" ∈ yAll := yIn (i := 296) rfl rfl
set_option maxRecDepth 100000 in
theorem yy_kind : .laysFinal RY "FamilyProbesModel" "kind" "[I" ∈ yAll := yIn (i := 297) rfl rfl
set_option maxRecDepth 100000 in
theorem yy_n : .laysFinal RY "FamilyProbesModel" "n" "[I" ∈ yAll := yIn (i := 299) rfl rfl
set_option maxRecDepth 100000 in
theorem yy_inner : .laysFinal RY "FamilyProbesModel" "inner" "[I" ∈ yAll := yIn (i := 301) rfl rfl
set_option maxRecDepth 100000 in
theorem yy_things : .lays RY "FamilyProbesModel" "things" "I" ∈ yAll := yIn (i := 303) rfl rfl
set_option maxRecDepth 100000 in
theorem yy_slot : .laysFinal RY "FamilyProbesModel" "slot" "[I" ∈ yAll := yIn (i := 305) rfl rfl
set_option maxRecDepth 100000 in
theorem yy_row : .laysFinal RY "FamilyProbesModel" "row" "[I" ∈ yAll := yIn (i := 307) rfl rfl
set_option maxRecDepth 100000 in
theorem yy_third : .laysFinal RY "FamilyProbesModel" "third" "[I" ∈ yAll := yIn (i := 309) rfl rfl
set_option maxRecDepth 100000 in
theorem yy_types : .laysFinal RY "FamilyProbesModel" "types" "[I" ∈ yAll := yIn (i := 311) rfl rfl
set_option maxRecDepth 100000 in
theorem yy_members : .laysFinal RY "FamilyProbesModel" "members" "[I" ∈ yAll := yIn (i := 313) rfl rfl
set_option maxRecDepth 100000 in
theorem yy_shadowCalls : .lays RY "FamilyProbesModel" "shadowCalls" "I" ∈ yAll := yIn (i := 315) rfl rfl
set_option maxRecDepth 100000 in
theorem yy_value : .lays RY "FamilyProbesModel" "value" "I" ∈ yAll := yIn (i := 317) rfl rfl
set_option maxRecDepth 100000 in
theorem yy_event : .laysFinal RY "FamilyProbesModel" "event" "[I" ∈ yAll := yIn (i := 319) rfl rfl
set_option maxRecDepth 100000 in
theorem yy_events : .lays RY "FamilyProbesModel" "events" "I" ∈ yAll := yIn (i := 321) rfl rfl
set_option maxRecDepth 100000 in
theorem ylL_17 : .methodLink RL 17 yY_make ∈ yAll := yIn (i := 324) rfl rfl
set_option maxRecDepth 100000 in
theorem ym_make : .instanceMethod yY_make ∈ yAll := yIn (i := 325) rfl rfl
set_option maxRecDepth 100000 in
theorem ys_make : .selects RY yY_make yY_make ∈ yAll := yIn (i := 326) rfl rfl
set_option maxRecDepth 100000 in
theorem yc_make : .code yY_make cY_make 5 (Option.some Jvm.ClassFile.FieldType.int) ∈ yAll := yIn (i := 327) rfl rfl
set_option maxRecDepth 100000 in
theorem ylY_48 : .methodLink RY 48 yY_inn ∈ yAll := yIn (i := 328) rfl rfl
set_option maxRecDepth 100000 in
theorem ym_inn : .static yY_inn ∈ yAll := yIn (i := 329) rfl rfl
set_option maxRecDepth 100000 in
theorem yc_inn : .code yY_inn cY_inn 3 (Option.some Jvm.ClassFile.FieldType.boolean) ∈ yAll := yIn (i := 330) rfl rfl
set_option maxRecDepth 100000 in
theorem ylY_52 : .methodLink RY 52 yY_depth ∈ yAll := yIn (i := 331) rfl rfl
set_option maxRecDepth 100000 in
theorem ym_depth : .instanceMethod yY_depth ∈ yAll := yIn (i := 333) rfl rfl
set_option maxRecDepth 100000 in
theorem yc_depth : .code yY_depth cY_depth 4 (Option.some Jvm.ClassFile.FieldType.int) ∈ yAll := yIn (i := 334) rfl rfl
set_option maxRecDepth 100000 in
theorem ylY_56 : .methodLink RY 56 yY_note ∈ yAll := yIn (i := 335) rfl rfl
set_option maxRecDepth 100000 in
theorem ym_note : .instanceMethod yY_note ∈ yAll := yIn (i := 337) rfl rfl
set_option maxRecDepth 100000 in
theorem yc_note : .code yY_note cY_note 3 (Option.none : Option Jvm.ClassFile.FieldType) ∈ yAll := yIn (i := 338) rfl rfl
set_option maxRecDepth 100000 in
theorem ylY_60 : .methodLink RY 60 yY_of ∈ yAll := yIn (i := 339) rfl rfl
set_option maxRecDepth 100000 in
theorem ym_of : .instanceMethod yY_of ∈ yAll := yIn (i := 341) rfl rfl
set_option maxRecDepth 100000 in
theorem yc_of : .code yY_of cY_of 3 (Option.some Jvm.ClassFile.FieldType.boolean) ∈ yAll := yIn (i := 342) rfl rfl
set_option maxRecDepth 100000 in
theorem ylY_64 : .methodLink RY 64 yY_seed ∈ yAll := yIn (i := 343) rfl rfl
set_option maxRecDepth 100000 in
theorem ym_seed : .instanceMethod yY_seed ∈ yAll := yIn (i := 345) rfl rfl
set_option maxRecDepth 100000 in
theorem yc_seed : .code yY_seed cY_seed 2 (Option.some Jvm.ClassFile.FieldType.int) ∈ yAll := yIn (i := 346) rfl rfl
set_option maxRecDepth 100000 in
theorem ylL_22 : .methodLink RL 22 yY_drop ∈ yAll := yIn (i := 347) rfl rfl
set_option maxRecDepth 100000 in
theorem ym_drop : .instanceMethod yY_drop ∈ yAll := yIn (i := 348) rfl rfl
set_option maxRecDepth 100000 in
theorem ys_drop : .selects RY yY_drop yY_drop ∈ yAll := yIn (i := 349) rfl rfl
set_option maxRecDepth 100000 in
theorem yc_drop : .code yY_drop cY_drop 3 (Option.some Jvm.ClassFile.FieldType.int) ∈ yAll := yIn (i := 350) rfl rfl
set_option maxRecDepth 100000 in
theorem ylL_27 : .methodLink RL 27 yY_probe ∈ yAll := yIn (i := 351) rfl rfl
set_option maxRecDepth 100000 in
theorem ym_probe : .instanceMethod yY_probe ∈ yAll := yIn (i := 352) rfl rfl
set_option maxRecDepth 100000 in
theorem ys_probe : .selects RY yY_probe yY_probe ∈ yAll := yIn (i := 353) rfl rfl
set_option maxRecDepth 100000 in
theorem yc_probe : .code yY_probe cY_probe 7 (Option.some Jvm.ClassFile.FieldType.int) ∈ yAll := yIn (i := 354) rfl rfl
set_option maxRecDepth 100000 in
theorem ylY_83 : .methodLink RY 83 yY_answer ∈ yAll := yIn (i := 355) rfl rfl
set_option maxRecDepth 100000 in
theorem ym_answer : .instanceMethod yY_answer ∈ yAll := yIn (i := 357) rfl rfl
set_option maxRecDepth 100000 in
theorem yc_answer : .code yY_answer cY_answer 5 (Option.some Jvm.ClassFile.FieldType.int) ∈ yAll := yIn (i := 358) rfl rfl
set_option maxRecDepth 100000 in
theorem ylY_70 : .methodLink RY 70 yY_call ∈ yAll := yIn (i := 359) rfl rfl
set_option maxRecDepth 100000 in
theorem ym_call : .instanceMethod yY_call ∈ yAll := yIn (i := 361) rfl rfl
set_option maxRecDepth 100000 in
theorem yc_call : .code yY_call cY_call 4 (Option.some Jvm.ClassFile.FieldType.int) ∈ yAll := yIn (i := 362) rfl rfl
set_option maxRecDepth 100000 in
theorem ylY_74 : .methodLink RY 74 yY_twice ∈ yAll := yIn (i := 363) rfl rfl
set_option maxRecDepth 100000 in
theorem ym_twice : .instanceMethod yY_twice ∈ yAll := yIn (i := 365) rfl rfl
set_option maxRecDepth 100000 in
theorem yc_twice : .code yY_twice cY_twice 4 (Option.some Jvm.ClassFile.FieldType.int) ∈ yAll := yIn (i := 366) rfl rfl
set_option maxRecDepth 100000 in
theorem ylY_77 : .methodLink RY 77 yY_volume ∈ yAll := yIn (i := 367) rfl rfl
set_option maxRecDepth 100000 in
theorem ym_volume : .instanceMethod yY_volume ∈ yAll := yIn (i := 369) rfl rfl
set_option maxRecDepth 100000 in
theorem yc_volume : .code yY_volume cY_volume 4 (Option.some Jvm.ClassFile.FieldType.int) ∈ yAll := yIn (i := 370) rfl rfl
set_option maxRecDepth 100000 in
theorem ylY_80 : .methodLink RY 80 yY_weight ∈ yAll := yIn (i := 371) rfl rfl
set_option maxRecDepth 100000 in
theorem ym_weight : .instanceMethod yY_weight ∈ yAll := yIn (i := 373) rfl rfl
set_option maxRecDepth 100000 in
theorem yc_weight : .code yY_weight cY_weight 2 (Option.some Jvm.ClassFile.FieldType.int) ∈ yAll := yIn (i := 374) rfl rfl
set_option maxRecDepth 100000 in
theorem ylL_32 : .methodLink RL 32 yY_value ∈ yAll := yIn (i := 375) rfl rfl
set_option maxRecDepth 100000 in
theorem ym_value : .instanceMethod yY_value ∈ yAll := yIn (i := 376) rfl rfl
set_option maxRecDepth 100000 in
theorem ys_value : .selects RY yY_value yY_value ∈ yAll := yIn (i := 377) rfl rfl
set_option maxRecDepth 100000 in
theorem yc_value : .code yY_value cY_value 1 (Option.some Jvm.ClassFile.FieldType.int) ∈ yAll := yIn (i := 378) rfl rfl
set_option maxRecDepth 100000 in
theorem ylL_37 : .methodLink RL 37 yY_is_ ∈ yAll := yIn (i := 379) rfl rfl
set_option maxRecDepth 100000 in
theorem ym_is_ : .instanceMethod yY_is_ ∈ yAll := yIn (i := 380) rfl rfl
set_option maxRecDepth 100000 in
theorem ys_is_ : .selects RY yY_is_ yY_is_ ∈ yAll := yIn (i := 381) rfl rfl
set_option maxRecDepth 100000 in
theorem yc_is_ : .code yY_is_ cY_is_ 3 (Option.some Jvm.ClassFile.FieldType.boolean) ∈ yAll := yIn (i := 382) rfl rfl
set_option maxRecDepth 100000 in
theorem ylL_41 : .methodLink RL 41 yY_same ∈ yAll := yIn (i := 383) rfl rfl
set_option maxRecDepth 100000 in
theorem ym_same : .instanceMethod yY_same ∈ yAll := yIn (i := 384) rfl rfl
set_option maxRecDepth 100000 in
theorem ys_same : .selects RY yY_same yY_same ∈ yAll := yIn (i := 385) rfl rfl
set_option maxRecDepth 100000 in
theorem yc_same : .code yY_same cY_same 3 (Option.some Jvm.ClassFile.FieldType.boolean) ∈ yAll := yIn (i := 386) rfl rfl
set_option maxRecDepth 100000 in
theorem ylL_45 : .methodLink RL 45 yY_store ∈ yAll := yIn (i := 387) rfl rfl
set_option maxRecDepth 100000 in
theorem ym_store : .instanceMethod yY_store ∈ yAll := yIn (i := 388) rfl rfl
set_option maxRecDepth 100000 in
theorem ys_store : .selects RY yY_store yY_store ∈ yAll := yIn (i := 389) rfl rfl
set_option maxRecDepth 100000 in
theorem yc_store : .code yY_store cY_store 4 (Option.some Jvm.ClassFile.FieldType.int) ∈ yAll := yIn (i := 390) rfl rfl
set_option maxRecDepth 100000 in
theorem ylY_89 : .methodLink RY 89 yY_fits ∈ yAll := yIn (i := 391) rfl rfl
set_option maxRecDepth 100000 in
theorem ym_fits : .instanceMethod yY_fits ∈ yAll := yIn (i := 393) rfl rfl
set_option maxRecDepth 100000 in
theorem yc_fits : .code yY_fits cY_fits 3 (Option.some Jvm.ClassFile.FieldType.boolean) ∈ yAll := yIn (i := 394) rfl rfl
set_option maxRecDepth 100000 in
theorem ylL_49 : .methodLink RL 49 yY_load ∈ yAll := yIn (i := 395) rfl rfl
set_option maxRecDepth 100000 in
theorem ym_load : .instanceMethod yY_load ∈ yAll := yIn (i := 396) rfl rfl
set_option maxRecDepth 100000 in
theorem ys_load : .selects RY yY_load yY_load ∈ yAll := yIn (i := 397) rfl rfl
set_option maxRecDepth 100000 in
theorem yc_load : .code yY_load cY_load 4 (Option.some Jvm.ClassFile.FieldType.int) ∈ yAll := yIn (i := 398) rfl rfl
set_option maxRecDepth 100000 in
theorem ylL_53 : .methodLink RL 53 yY_copy ∈ yAll := yIn (i := 399) rfl rfl
set_option maxRecDepth 100000 in
theorem ym_copy : .instanceMethod yY_copy ∈ yAll := yIn (i := 400) rfl rfl
set_option maxRecDepth 100000 in
theorem ys_copy : .selects RY yY_copy yY_copy ∈ yAll := yIn (i := 401) rfl rfl
set_option maxRecDepth 100000 in
theorem yc_copy : .code yY_copy cY_copy 7 (Option.some Jvm.ClassFile.FieldType.int) ∈ yAll := yIn (i := 402) rfl rfl
set_option maxRecDepth 100000 in
theorem yk_92 : .constantLong RY 92 4 ∈ yAll := yIn (i := 403) rfl rfl
set_option maxRecDepth 100000 in
theorem ylL_58 : .methodLink RL 58 yY_compare ∈ yAll := yIn (i := 404) rfl rfl
set_option maxRecDepth 100000 in
theorem ym_compare : .instanceMethod yY_compare ∈ yAll := yIn (i := 405) rfl rfl
set_option maxRecDepth 100000 in
theorem ys_compare : .selects RY yY_compare yY_compare ∈ yAll := yIn (i := 406) rfl rfl
set_option maxRecDepth 100000 in
theorem yc_compare : .code yY_compare cY_compare 5 (Option.some Jvm.ClassFile.FieldType.int) ∈ yAll := yIn (i := 407) rfl rfl
set_option maxRecDepth 100000 in
theorem ylL_62 : .methodLink RL 62 yY_flow ∈ yAll := yIn (i := 408) rfl rfl
set_option maxRecDepth 100000 in
theorem ym_flow : .instanceMethod yY_flow ∈ yAll := yIn (i := 409) rfl rfl
set_option maxRecDepth 100000 in
theorem ys_flow : .selects RY yY_flow yY_flow ∈ yAll := yIn (i := 410) rfl rfl
set_option maxRecDepth 100000 in
theorem yc_flow : .code yY_flow cY_flow 4 (Option.some Jvm.ClassFile.FieldType.int) ∈ yAll := yIn (i := 411) rfl rfl
set_option maxRecDepth 100000 in
theorem ylY_94 : .methodLink RY 94 yY_given ∈ yAll := yIn (i := 412) rfl rfl
set_option maxRecDepth 100000 in
theorem ym_given : .instanceMethod yY_given ∈ yAll := yIn (i := 414) rfl rfl
set_option maxRecDepth 100000 in
theorem yc_given : .code yY_given cY_given 2 (Option.some Jvm.ClassFile.FieldType.int) ∈ yAll := yIn (i := 415) rfl rfl
set_option maxRecDepth 100000 in
theorem ylY_97 : .methodLink RY 97 yY_turns ∈ yAll := yIn (i := 416) rfl rfl
set_option maxRecDepth 100000 in
theorem ym_turns : .instanceMethod yY_turns ∈ yAll := yIn (i := 418) rfl rfl
set_option maxRecDepth 100000 in
theorem yc_turns : .code yY_turns cY_turns 7 (Option.some Jvm.ClassFile.FieldType.int) ∈ yAll := yIn (i := 419) rfl rfl
set_option maxRecDepth 100000 in
theorem ylY_100 : .methodLink RY 100 yY_closings ∈ yAll := yIn (i := 420) rfl rfl
set_option maxRecDepth 100000 in
theorem ym_closings : .instanceMethod yY_closings ∈ yAll := yIn (i := 422) rfl rfl
set_option maxRecDepth 100000 in
theorem yc_closings : .code yY_closings cY_closings 6 (Option.some Jvm.ClassFile.FieldType.int) ∈ yAll := yIn (i := 423) rfl rfl
set_option maxRecDepth 100000 in
theorem yk_103 : .constant RY 103 250809 ∈ yAll := yIn (i := 424) rfl rfl
set_option maxRecDepth 100000 in
theorem yk_104 : .constant RY 104 72509 ∈ yAll := yIn (i := 425) rfl rfl
set_option maxRecDepth 100000 in
theorem ylL_66 : .methodLink RL 66 yY_number ∈ yAll := yIn (i := 426) rfl rfl
set_option maxRecDepth 100000 in
theorem ym_number : .instanceMethod yY_number ∈ yAll := yIn (i := 427) rfl rfl
set_option maxRecDepth 100000 in
theorem ys_number : .selects RY yY_number yY_number ∈ yAll := yIn (i := 428) rfl rfl
set_option maxRecDepth 100000 in
theorem yc_number : .code yY_number cY_number 4 (Option.some Jvm.ClassFile.FieldType.int) ∈ yAll := yIn (i := 429) rfl rfl
set_option maxRecDepth 100000 in
theorem ylY_123 : .methodLink RY 123 yY_rounded ∈ yAll := yIn (i := 430) rfl rfl
set_option maxRecDepth 100000 in
theorem ym_rounded : .static yY_rounded ∈ yAll := yIn (i := 431) rfl rfl
set_option maxRecDepth 100000 in
theorem yc_rounded : .code yY_rounded cY_rounded 9 (Option.some Jvm.ClassFile.FieldType.long) ∈ yAll := yIn (i := 432) rfl rfl
set_option maxRecDepth 100000 in
theorem yk_105 : .constantLong RY 105 16777216 ∈ yAll := yIn (i := 433) rfl rfl
set_option maxRecDepth 100000 in
theorem yk_107 : .constantLong RY 107 2 ∈ yAll := yIn (i := 434) rfl rfl
set_option maxRecDepth 100000 in
theorem ylY_115 : .methodLink RY 115 yY_held ∈ yAll := yIn (i := 435) rfl rfl
set_option maxRecDepth 100000 in
theorem ym_held : .static yY_held ∈ yAll := yIn (i := 436) rfl rfl
set_option maxRecDepth 100000 in
theorem yc_held : .code yY_held cY_held 2 (Option.some Jvm.ClassFile.FieldType.int) ∈ yAll := yIn (i := 437) rfl rfl
set_option maxRecDepth 100000 in
theorem yk_109 : .constantLong RY 109 2147483647 ∈ yAll := yIn (i := 438) rfl rfl
set_option maxRecDepth 100000 in
theorem yk_111 : .constant RY 111 2147483647 ∈ yAll := yIn (i := 439) rfl rfl
set_option maxRecDepth 100000 in
theorem yk_112 : .constantLong RY 112 (-2147483648) ∈ yAll := yIn (i := 440) rfl rfl
set_option maxRecDepth 100000 in
theorem yk_114 : .constant RY 114 (-2147483648) ∈ yAll := yIn (i := 441) rfl rfl
set_option maxRecDepth 100000 in
theorem ylY_127 : .methodLink RY 127 yY_quotient ∈ yAll := yIn (i := 442) rfl rfl
set_option maxRecDepth 100000 in
theorem ym_quotient : .static yY_quotient ∈ yAll := yIn (i := 443) rfl rfl
set_option maxRecDepth 100000 in
theorem yc_quotient : .code yY_quotient cY_quotient 2 (Option.some Jvm.ClassFile.FieldType.int) ∈ yAll := yIn (i := 444) rfl rfl
set_option maxRecDepth 100000 in
theorem yk_130 : .constant RY 130 65535 ∈ yAll := yIn (i := 445) rfl rfl
set_option maxRecDepth 100000 in
theorem yk_131 : .constantLong RY 131 3 ∈ yAll := yIn (i := 446) rfl rfl
set_option maxRecDepth 100000 in
theorem ylY_133 : .methodLink RY 133 yY_decimals ∈ yAll := yIn (i := 447) rfl rfl
set_option maxRecDepth 100000 in
theorem ym_decimals : .static yY_decimals ∈ yAll := yIn (i := 448) rfl rfl
set_option maxRecDepth 100000 in
theorem yc_decimals : .code yY_decimals cY_decimals 4 (Option.some Jvm.ClassFile.FieldType.int) ∈ yAll := yIn (i := 449) rfl rfl
set_option maxRecDepth 100000 in
theorem yk_119 : .constantLong RY 119 9 ∈ yAll := yIn (i := 450) rfl rfl
set_option maxRecDepth 100000 in
theorem yk_121 : .constantLong RY 121 10 ∈ yAll := yIn (i := 451) rfl rfl
set_option maxRecDepth 100000 in
theorem ylL_70 : .methodLink RL 70 yY_events ∈ yAll := yIn (i := 452) rfl rfl
set_option maxRecDepth 100000 in
theorem ym_events : .instanceMethod yY_events ∈ yAll := yIn (i := 453) rfl rfl
set_option maxRecDepth 100000 in
theorem ys_events : .selects RY yY_events yY_events ∈ yAll := yIn (i := 454) rfl rfl
set_option maxRecDepth 100000 in
theorem yc_events : .code yY_events cY_events 1 (Option.some Jvm.ClassFile.FieldType.int) ∈ yAll := yIn (i := 455) rfl rfl
set_option maxRecDepth 100000 in
theorem ylL_74 : .methodLink RL 74 yY_event ∈ yAll := yIn (i := 456) rfl rfl
set_option maxRecDepth 100000 in
theorem ym_event : .instanceMethod yY_event ∈ yAll := yIn (i := 457) rfl rfl
set_option maxRecDepth 100000 in
theorem ys_event : .selects RY yY_event yY_event ∈ yAll := yIn (i := 458) rfl rfl
set_option maxRecDepth 100000 in
theorem yc_event : .code yY_event cY_event 2 (Option.some Jvm.ClassFile.FieldType.int) ∈ yAll := yIn (i := 459) rfl rfl
set_option maxRecDepth 100000 in
theorem ys_depth : .selects RY yY_depth yY_depth ∈ yAll := yIn (i := 15) rfl rfl
set_option maxRecDepth 100000 in
theorem ys_note : .selects RY yY_note yY_note ∈ yAll := yIn (i := 16) rfl rfl
set_option maxRecDepth 100000 in
theorem ys_of : .selects RY yY_of yY_of ∈ yAll := yIn (i := 17) rfl rfl
set_option maxRecDepth 100000 in
theorem ys_seed : .selects RY yY_seed yY_seed ∈ yAll := yIn (i := 18) rfl rfl
set_option maxRecDepth 100000 in
theorem ys_answer : .selects RY yY_answer yY_answer ∈ yAll := yIn (i := 19) rfl rfl
set_option maxRecDepth 100000 in
theorem ys_call : .selects RY yY_call yY_call ∈ yAll := yIn (i := 20) rfl rfl
set_option maxRecDepth 100000 in
theorem ys_twice : .selects RY yY_twice yY_twice ∈ yAll := yIn (i := 21) rfl rfl
set_option maxRecDepth 100000 in
theorem ys_volume : .selects RY yY_volume yY_volume ∈ yAll := yIn (i := 22) rfl rfl
set_option maxRecDepth 100000 in
theorem ys_weight : .selects RY yY_weight yY_weight ∈ yAll := yIn (i := 23) rfl rfl
set_option maxRecDepth 100000 in
theorem ys_fits : .selects RY yY_fits yY_fits ∈ yAll := yIn (i := 24) rfl rfl
set_option maxRecDepth 100000 in
theorem ys_given : .selects RY yY_given yY_given ∈ yAll := yIn (i := 25) rfl rfl
set_option maxRecDepth 100000 in
theorem ys_turns : .selects RY yY_turns yY_turns ∈ yAll := yIn (i := 26) rfl rfl
set_option maxRecDepth 100000 in
theorem ys_closings : .selects RY yY_closings yY_closings ∈ yAll := yIn (i := 27) rfl rfl
theorem inY : ∀ w ∈ u_ws RY TY 13, w ∈ yAll := by
  intro w hw
  obtain ⟨k, hk, rfl⟩ := List.mem_map.mp hw
  have hk : k < 13 := List.mem_range.mp hk
  match k, hk with
  | 0, _ => exact yy_kind
  | 1, _ => exact yy_n
  | 2, _ => exact yy_inner
  | 3, _ => exact yy_things
  | 4, _ => exact yy_slot
  | 5, _ => exact yy_row
  | 6, _ => exact yy_third
  | 7, _ => exact yy_types
  | 8, _ => exact yy_members
  | 9, _ => exact yy_shadowCalls
  | 10, _ => exact yy_value
  | 11, _ => exact yy_event
  | 12, _ => exact yy_events
  | k + 13, h => omega
theorem yGood {a : Cond} {L : List Cond} (h : ∀ w ∈ L, w ∈ yAll) : GoodIn (a :: yAll) L := fun w hw => ⟨List.mem_cons_of_mem _ (h w hw), good_of_word (List.mem_filter.mp (h w hw)).2⟩
theorem yS {a : Cond} {idx : Nat} {y : MethodName} {b : ByteArray} {n : Nat} {r : Option FieldType} (h1 : Cond.methodLink RY idx y ∈ yAll) (h2 : Cond.static y ∈ yAll) (h3 : Cond.initialized y.cls ∈ yAll) (h4 : Cond.code y b n r ∈ yAll) : GoodIn (a :: yAll) (va_wsS RY idx y (Cond.code y b n r :: yAll)) := yGood (fun w hw => by
  rcases List.mem_append.mp hw with hw | hw
  · simp only [List.mem_cons, List.not_mem_nil, or_false] at hw
    rcases hw with rfl | rfl | rfl
    · exact h1
    · exact h2
    · exact h3
  · rcases List.mem_cons.mp hw with rfl | hw
    · exact h4
    · exact hw)
theorem yV {a : Cond} {idx : Nat} {y : MethodName} {b : ByteArray} {n : Nat} {r : Option FieldType} (h1 : Cond.methodLink RY idx y ∈ yAll) (h2 : Cond.instanceMethod y ∈ yAll) (h0 : Cond.selects RY y y ∈ yAll) (h4 : Cond.code y b n r ∈ yAll) : GoodIn (a :: yAll) (wsV RY idx RY y (Cond.code y b n r :: yAll)) := yGood (fun w hw => by
  rcases List.mem_append.mp hw with hw | hw
  · simp only [List.mem_cons, List.not_mem_nil, or_false] at hw
    rcases hw with rfl | rfl | rfl | rfl
    · exact h1
    · exact h2
    · exact h0
    · exact yini
  · rcases List.mem_cons.mp hw with rfl | hw
    · exact h4
    · exact hw)
abbrev cX1_events : ByteArray := prog_1_method_14_code
def yX1_events : MethodName := ⟨RX1, "events", "()I"⟩
def wsX1_events : List Cond := .code yX1_events cX1_events 1 (some .int) :: ([.fieldLink RX1 112 "FamilyProbes" "eventCount" "I"] ++ wsX10)
theorem dX1_events_0 : decode cX1_events 0 = .ok (.aload_n 0, 1) := by decide +kernel
theorem dX1_events_1 : decode cX1_events 1 = .ok (.getfield 112, 3) := by decide +kernel
theorem dX1_events_4 : decode cX1_events 4 = .ok (.ireturn, 1) := by decide +kernel
abbrev cX1_event : ByteArray := prog_1_method_15_code
def yX1_event : MethodName := ⟨RX1, "event", "(I)I"⟩
def wsX1_event : List Cond := .code yX1_event cX1_event 2 (some .int) :: ([.fieldLink RX1 112 "FamilyProbes" "eventCount" "I", .fieldLink RX1 31 "FamilyProbes" "lastEvents" "[I", .methodLink RX1 35 yX1_isBelow, .static yX1_isBelow, .initialized RX1, .code yX1_isBelow cX1_isBelow 2 (some .boolean)] ++ wsX10)
set_option maxRecDepth 20000 in
theorem gX1_event_X1_isBelow : GoodIn wsX1_event (va_wsS RX1 35 yX1_isBelow wsX1_isBelow) := goodIn_p _ [6] rfl (by decide +kernel)
theorem dX1_event_0 : decode cX1_event 0 = .ok (.iload_n 1, 1) := by decide +kernel
theorem dX1_event_1 : decode cX1_event 1 = .ok (.bipush 16, 2) := by decide +kernel
theorem dX1_event_3 : decode cX1_event 3 = .ok (.invokestatic 35, 3) := by decide +kernel
theorem dX1_event_6 : decode cX1_event 6 = .ok (.ifCond .eq 11, 3) := by decide +kernel
theorem dX1_event_9 : decode cX1_event 9 = .ok (.iload_n 1, 1) := by decide +kernel
theorem dX1_event_10 : decode cX1_event 10 = .ok (.aload_n 0, 1) := by decide +kernel
theorem dX1_event_11 : decode cX1_event 11 = .ok (.getfield 112, 3) := by decide +kernel
theorem dX1_event_14 : decode cX1_event 14 = .ok (.if_icmp .lt 5, 3) := by decide +kernel
theorem dX1_event_17 : decode cX1_event 17 = .ok (.iconst (-1), 1) := by decide +kernel
theorem dX1_event_18 : decode cX1_event 18 = .ok (.ireturn, 1) := by decide +kernel
theorem dX1_event_19 : decode cX1_event 19 = .ok (.aload_n 0, 1) := by decide +kernel
theorem dX1_event_20 : decode cX1_event 20 = .ok (.getfield 31, 3) := by decide +kernel
theorem dX1_event_23 : decode cX1_event 23 = .ok (.aload_n 0, 1) := by decide +kernel
theorem dX1_event_24 : decode cX1_event 24 = .ok (.getfield 112, 3) := by decide +kernel
theorem dX1_event_27 : decode cX1_event 27 = .ok (.iconst 1, 1) := by decide +kernel
theorem dX1_event_28 : decode cX1_event 28 = .ok (.isub, 1) := by decide +kernel
theorem dX1_event_29 : decode cX1_event 29 = .ok (.iload_n 1, 1) := by decide +kernel
theorem dX1_event_30 : decode cX1_event 30 = .ok (.isub, 1) := by decide +kernel
theorem dX1_event_31 : decode cX1_event 31 = .ok (.bipush 15, 2) := by decide +kernel
theorem dX1_event_33 : decode cX1_event 33 = .ok (.iand, 1) := by decide +kernel
theorem dX1_event_34 : decode cX1_event 34 = .ok (.iaload, 1) := by decide +kernel
theorem dX1_event_35 : decode cX1_event 35 = .ok (.ireturn, 1) := by decide +kernel
theorem dY_init_0 : decode cY_init 0 = .ok (.aload_n 0, 1) := by decide +kernel
theorem dY_init_1 : decode cY_init 1 = .ok (.invokespecial 1, 3) := by decide +kernel
theorem dY_init_4 : decode cY_init 4 = .ok (.aload_n 0, 1) := by decide +kernel
theorem dY_init_5 : decode cY_init 5 = .ok (.sipush 520, 3) := by decide +kernel
theorem dY_init_8 : decode cY_init 8 = .ok (.newarray .int, 2) := by decide +kernel
theorem dY_init_10 : decode cY_init 10 = .ok (.putfield 7, 3) := by decide +kernel
theorem dY_init_13 : decode cY_init 13 = .ok (.aload_n 0, 1) := by decide +kernel
theorem dY_init_14 : decode cY_init 14 = .ok (.sipush 520, 3) := by decide +kernel
theorem dY_init_17 : decode cY_init 17 = .ok (.newarray .int, 2) := by decide +kernel
theorem dY_init_19 : decode cY_init 19 = .ok (.putfield 13, 3) := by decide +kernel
theorem dY_init_22 : decode cY_init 22 = .ok (.aload_n 0, 1) := by decide +kernel
theorem dY_init_23 : decode cY_init 23 = .ok (.sipush 520, 3) := by decide +kernel
theorem dY_init_26 : decode cY_init 26 = .ok (.newarray .int, 2) := by decide +kernel
theorem dY_init_28 : decode cY_init 28 = .ok (.putfield 16, 3) := by decide +kernel
theorem dY_init_31 : decode cY_init 31 = .ok (.aload_n 0, 1) := by decide +kernel
theorem dY_init_32 : decode cY_init 32 = .ok (.iconst 2, 1) := by decide +kernel
theorem dY_init_33 : decode cY_init 33 = .ok (.putfield 19, 3) := by decide +kernel
theorem dY_init_36 : decode cY_init 36 = .ok (.aload_n 0, 1) := by decide +kernel
theorem dY_init_37 : decode cY_init 37 = .ok (.bipush 8, 2) := by decide +kernel
theorem dY_init_39 : decode cY_init 39 = .ok (.newarray .int, 2) := by decide +kernel
theorem dY_init_41 : decode cY_init 41 = .ok (.putfield 23, 3) := by decide +kernel
theorem dY_init_44 : decode cY_init 44 = .ok (.aload_n 0, 1) := by decide +kernel
theorem dY_init_45 : decode cY_init 45 = .ok (.bipush 16, 2) := by decide +kernel
theorem dY_init_47 : decode cY_init 47 = .ok (.newarray .int, 2) := by decide +kernel
theorem dY_init_49 : decode cY_init 49 = .ok (.putfield 26, 3) := by decide +kernel
theorem dY_init_52 : decode cY_init 52 = .ok (.aload_n 0, 1) := by decide +kernel
theorem dY_init_53 : decode cY_init 53 = .ok (.iconst 4, 1) := by decide +kernel
theorem dY_init_54 : decode cY_init 54 = .ok (.newarray .int, 2) := by decide +kernel
theorem dY_init_56 : decode cY_init 56 = .ok (.putfield 29, 3) := by decide +kernel
theorem dY_init_59 : decode cY_init 59 = .ok (.aload_n 0, 1) := by decide +kernel
theorem dY_init_60 : decode cY_init 60 = .ok (.bipush 10, 2) := by decide +kernel
theorem dY_init_62 : decode cY_init 62 = .ok (.newarray .int, 2) := by decide +kernel
theorem dY_init_64 : decode cY_init 64 = .ok (.putfield 32, 3) := by decide +kernel
theorem dY_init_67 : decode cY_init 67 = .ok (.aload_n 0, 1) := by decide +kernel
theorem dY_init_68 : decode cY_init 68 = .ok (.bipush 9, 2) := by decide +kernel
theorem dY_init_70 : decode cY_init 70 = .ok (.newarray .int, 2) := by decide +kernel
theorem dY_init_72 : decode cY_init 72 = .ok (.putfield 35, 3) := by decide +kernel
theorem dY_init_75 : decode cY_init 75 = .ok (.aload_n 0, 1) := by decide +kernel
theorem dY_init_76 : decode cY_init 76 = .ok (.bipush 16, 2) := by decide +kernel
theorem dY_init_78 : decode cY_init 78 = .ok (.newarray .int, 2) := by decide +kernel
theorem dY_init_80 : decode cY_init 80 = .ok (.putfield 38, 3) := by decide +kernel
theorem dY_init_83 : decode cY_init 83 = .ok (.aload_n 0, 1) := by decide +kernel
theorem dY_init_84 : decode cY_init 84 = .ok (.getfield 7, 3) := by decide +kernel
theorem dY_init_87 : decode cY_init 87 = .ok (.iconst 1, 1) := by decide +kernel
theorem dY_init_88 : decode cY_init 88 = .ok (.iconst 4, 1) := by decide +kernel
theorem dY_init_89 : decode cY_init 89 = .ok (.iastore, 1) := by decide +kernel
theorem dY_init_90 : decode cY_init 90 = .ok (.aload_n 0, 1) := by decide +kernel
theorem dY_init_91 : decode cY_init 91 = .ok (.getfield 13, 3) := by decide +kernel
theorem dY_init_94 : decode cY_init 94 = .ok (.iconst 1, 1) := by decide +kernel
theorem dY_init_95 : decode cY_init 95 = .ok (.iconst 2, 1) := by decide +kernel
theorem dY_init_96 : decode cY_init 96 = .ok (.iastore, 1) := by decide +kernel
theorem dY_init_97 : decode cY_init 97 = .ok (.aload_n 0, 1) := by decide +kernel
theorem dY_init_98 : decode cY_init 98 = .ok (.getfield 7, 3) := by decide +kernel
theorem dY_init_101 : decode cY_init 101 = .ok (.iconst 2, 1) := by decide +kernel
theorem dY_init_102 : decode cY_init 102 = .ok (.iconst 5, 1) := by decide +kernel
theorem dY_init_103 : decode cY_init 103 = .ok (.iastore, 1) := by decide +kernel
theorem dY_init_104 : decode cY_init 104 = .ok (.aload_n 0, 1) := by decide +kernel
theorem dY_init_105 : decode cY_init 105 = .ok (.getfield 13, 3) := by decide +kernel
theorem dY_init_108 : decode cY_init 108 = .ok (.iconst 2, 1) := by decide +kernel
theorem dY_init_109 : decode cY_init 109 = .ok (.bipush 9, 2) := by decide +kernel
theorem dY_init_111 : decode cY_init 111 = .ok (.iastore, 1) := by decide +kernel
theorem dY_init_112 : decode cY_init 112 = .ok (.aload_n 0, 1) := by decide +kernel
theorem dY_init_113 : decode cY_init 113 = .ok (.getfield 32, 3) := by decide +kernel
theorem dY_init_116 : decode cY_init 116 = .ok (.iconst 0, 1) := by decide +kernel
theorem dY_init_117 : decode cY_init 117 = .ok (.iconst 0, 1) := by decide +kernel
theorem dY_init_118 : decode cY_init 118 = .ok (.iconst 1, 1) := by decide +kernel
theorem dY_init_119 : decode cY_init 119 = .ok (.iconst 3, 1) := by decide +kernel
theorem dY_init_120 : decode cY_init 120 = .ok (.iconst 4, 1) := by decide +kernel
theorem dY_init_121 : decode cY_init 121 = .ok (.invokestatic 41, 3) := by decide +kernel
theorem dY_init_124 : decode cY_init 124 = .ok (.iastore, 1) := by decide +kernel
theorem dY_init_125 : decode cY_init 125 = .ok (.aload_n 0, 1) := by decide +kernel
theorem dY_init_126 : decode cY_init 126 = .ok (.getfield 32, 3) := by decide +kernel
theorem dY_init_129 : decode cY_init 129 = .ok (.iconst 1, 1) := by decide +kernel
theorem dY_init_130 : decode cY_init 130 = .ok (.iconst 0, 1) := by decide +kernel
theorem dY_init_131 : decode cY_init 131 = .ok (.iconst 2, 1) := by decide +kernel
theorem dY_init_132 : decode cY_init 132 = .ok (.iconst 3, 1) := by decide +kernel
theorem dY_init_133 : decode cY_init 133 = .ok (.iconst 5, 1) := by decide +kernel
theorem dY_init_134 : decode cY_init 134 = .ok (.invokestatic 41, 3) := by decide +kernel
theorem dY_init_137 : decode cY_init 137 = .ok (.iastore, 1) := by decide +kernel
theorem dY_init_138 : decode cY_init 138 = .ok (.aload_n 0, 1) := by decide +kernel
theorem dY_init_139 : decode cY_init 139 = .ok (.getfield 32, 3) := by decide +kernel
theorem dY_init_142 : decode cY_init 142 = .ok (.iconst 2, 1) := by decide +kernel
theorem dY_init_143 : decode cY_init 143 = .ok (.iconst 0, 1) := by decide +kernel
theorem dY_init_144 : decode cY_init 144 = .ok (.iconst 2, 1) := by decide +kernel
theorem dY_init_145 : decode cY_init 145 = .ok (.iconst 3, 1) := by decide +kernel
theorem dY_init_146 : decode cY_init 146 = .ok (.iconst 5, 1) := by decide +kernel
theorem dY_init_147 : decode cY_init 147 = .ok (.invokestatic 41, 3) := by decide +kernel
theorem dY_init_150 : decode cY_init 150 = .ok (.iconst 1, 1) := by decide +kernel
theorem dY_init_151 : decode cY_init 151 = .ok (.bipush 6, 2) := by decide +kernel
theorem dY_init_153 : decode cY_init 153 = .ok (.bipush 6, 2) := by decide +kernel
theorem dY_init_155 : decode cY_init 155 = .ok (.bipush 6, 2) := by decide +kernel
theorem dY_init_157 : decode cY_init 157 = .ok (.invokestatic 41, 3) := by decide +kernel
theorem dY_init_160 : decode cY_init 160 = .ok (.ior, 1) := by decide +kernel
theorem dY_init_161 : decode cY_init 161 = .ok (.iastore, 1) := by decide +kernel
theorem dY_init_162 : decode cY_init 162 = .ok (.aload_n 0, 1) := by decide +kernel
theorem dY_init_163 : decode cY_init 163 = .ok (.getfield 32, 3) := by decide +kernel
theorem dY_init_166 : decode cY_init 166 = .ok (.iconst 3, 1) := by decide +kernel
theorem dY_init_167 : decode cY_init 167 = .ok (.iconst 0, 1) := by decide +kernel
theorem dY_init_168 : decode cY_init 168 = .ok (.bipush 7, 2) := by decide +kernel
theorem dY_init_170 : decode cY_init 170 = .ok (.bipush 7, 2) := by decide +kernel
theorem dY_init_172 : decode cY_init 172 = .ok (.bipush 7, 2) := by decide +kernel
theorem dY_init_174 : decode cY_init 174 = .ok (.invokestatic 41, 3) := by decide +kernel
theorem dY_init_177 : decode cY_init 177 = .ok (.iastore, 1) := by decide +kernel
theorem dY_init_178 : decode cY_init 178 = .ok (.aload_n 0, 1) := by decide +kernel
theorem dY_init_179 : decode cY_init 179 = .ok (.getfield 32, 3) := by decide +kernel
theorem dY_init_182 : decode cY_init 182 = .ok (.iconst 4, 1) := by decide +kernel
theorem dY_init_183 : decode cY_init 183 = .ok (.iconst 0, 1) := by decide +kernel
theorem dY_init_184 : decode cY_init 184 = .ok (.iconst 1, 1) := by decide +kernel
theorem dY_init_185 : decode cY_init 185 = .ok (.bipush 8, 2) := by decide +kernel
theorem dY_init_187 : decode cY_init 187 = .ok (.bipush 8, 2) := by decide +kernel
theorem dY_init_189 : decode cY_init 189 = .ok (.invokestatic 41, 3) := by decide +kernel
theorem dY_init_192 : decode cY_init 192 = .ok (.iastore, 1) := by decide +kernel
theorem dY_init_193 : decode cY_init 193 = .ok (.aload_n 0, 1) := by decide +kernel
theorem dY_init_194 : decode cY_init 194 = .ok (.getfield 32, 3) := by decide +kernel
theorem dY_init_197 : decode cY_init 197 = .ok (.iconst 5, 1) := by decide +kernel
theorem dY_init_198 : decode cY_init 198 = .ok (.aload_n 0, 1) := by decide +kernel
theorem dY_init_199 : decode cY_init 199 = .ok (.getfield 32, 3) := by decide +kernel
theorem dY_init_202 : decode cY_init 202 = .ok (.iconst 4, 1) := by decide +kernel
theorem dY_init_203 : decode cY_init 203 = .ok (.iaload, 1) := by decide +kernel
theorem dY_init_204 : decode cY_init 204 = .ok (.iastore, 1) := by decide +kernel
theorem dY_init_205 : decode cY_init 205 = .ok (.aload_n 0, 1) := by decide +kernel
theorem dY_init_206 : decode cY_init 206 = .ok (.getfield 32, 3) := by decide +kernel
theorem dY_init_209 : decode cY_init 209 = .ok (.bipush 6, 2) := by decide +kernel
theorem dY_init_211 : decode cY_init 211 = .ok (.iconst 1, 1) := by decide +kernel
theorem dY_init_212 : decode cY_init 212 = .ok (.iastore, 1) := by decide +kernel
theorem dY_init_213 : decode cY_init 213 = .ok (.aload_n 0, 1) := by decide +kernel
theorem dY_init_214 : decode cY_init 214 = .ok (.getfield 32, 3) := by decide +kernel
theorem dY_init_217 : decode cY_init 217 = .ok (.bipush 7, 2) := by decide +kernel
theorem dY_init_219 : decode cY_init 219 = .ok (.iconst 1, 1) := by decide +kernel
theorem dY_init_220 : decode cY_init 220 = .ok (.iastore, 1) := by decide +kernel
theorem dY_init_221 : decode cY_init 221 = .ok (.aload_n 0, 1) := by decide +kernel
theorem dY_init_222 : decode cY_init 222 = .ok (.getfield 32, 3) := by decide +kernel
theorem dY_init_225 : decode cY_init 225 = .ok (.bipush 8, 2) := by decide +kernel
theorem dY_init_227 : decode cY_init 227 = .ok (.iconst 1, 1) := by decide +kernel
theorem dY_init_228 : decode cY_init 228 = .ok (.iastore, 1) := by decide +kernel
theorem dY_init_229 : decode cY_init 229 = .ok (.aload_n 0, 1) := by decide +kernel
theorem dY_init_230 : decode cY_init 230 = .ok (.getfield 32, 3) := by decide +kernel
theorem dY_init_233 : decode cY_init 233 = .ok (.bipush 9, 2) := by decide +kernel
theorem dY_init_235 : decode cY_init 235 = .ok (.aload_n 0, 1) := by decide +kernel
theorem dY_init_236 : decode cY_init 236 = .ok (.getfield 32, 3) := by decide +kernel
theorem dY_init_239 : decode cY_init 239 = .ok (.iconst 1, 1) := by decide +kernel
theorem dY_init_240 : decode cY_init 240 = .ok (.iaload, 1) := by decide +kernel
theorem dY_init_241 : decode cY_init 241 = .ok (.iastore, 1) := by decide +kernel
theorem dY_init_242 : decode cY_init 242 = .ok (.iconst 0, 1) := by decide +kernel
theorem dY_init_243 : decode cY_init 243 = .ok (.istore_n 1, 1) := by decide +kernel
theorem dY_init_244 : decode cY_init 244 = .ok (.iload_n 1, 1) := by decide +kernel
theorem dY_init_245 : decode cY_init 245 = .ok (.bipush 9, 2) := by decide +kernel
theorem dY_init_247 : decode cY_init 247 = .ok (.if_icmp .ge 16, 3) := by decide +kernel
theorem dY_init_250 : decode cY_init 250 = .ok (.aload_n 0, 1) := by decide +kernel
theorem dY_init_251 : decode cY_init 251 = .ok (.getfield 35, 3) := by decide +kernel
theorem dY_init_254 : decode cY_init 254 = .ok (.iload_n 1, 1) := by decide +kernel
theorem dY_init_255 : decode cY_init 255 = .ok (.iconst 3, 1) := by decide +kernel
theorem dY_init_256 : decode cY_init 256 = .ok (.iastore, 1) := by decide +kernel
theorem dY_init_257 : decode cY_init 257 = .ok (.iinc 1 1, 3) := by decide +kernel
theorem dY_init_260 : decode cY_init 260 = .ok (.goto (-16), 3) := by decide +kernel
theorem dY_init_263 : decode cY_init 263 = .ok (.aload_n 0, 1) := by decide +kernel
theorem dY_init_264 : decode cY_init 264 = .ok (.getfield 35, 3) := by decide +kernel
theorem dY_init_267 : decode cY_init 267 = .ok (.iconst 0, 1) := by decide +kernel
theorem dY_init_268 : decode cY_init 268 = .ok (.dup2, 1) := by decide +kernel
theorem dY_init_269 : decode cY_init 269 = .ok (.iaload, 1) := by decide +kernel
theorem dY_init_270 : decode cY_init 270 = .ok (.sipush 128, 3) := by decide +kernel
theorem dY_init_273 : decode cY_init 273 = .ok (.ior, 1) := by decide +kernel
theorem dY_init_274 : decode cY_init 274 = .ok (.iastore, 1) := by decide +kernel
theorem dY_init_275 : decode cY_init 275 = .ok (.aload_n 0, 1) := by decide +kernel
theorem dY_init_276 : decode cY_init 276 = .ok (.getfield 35, 3) := by decide +kernel
theorem dY_init_279 : decode cY_init 279 = .ok (.iconst 1, 1) := by decide +kernel
theorem dY_init_280 : decode cY_init 280 = .ok (.dup2, 1) := by decide +kernel
theorem dY_init_281 : decode cY_init 281 = .ok (.iaload, 1) := by decide +kernel
theorem dY_init_282 : decode cY_init 282 = .ok (.sipush 132, 3) := by decide +kernel
theorem dY_init_285 : decode cY_init 285 = .ok (.ior, 1) := by decide +kernel
theorem dY_init_286 : decode cY_init 286 = .ok (.iastore, 1) := by decide +kernel
theorem dY_init_287 : decode cY_init 287 = .ok (.aload_n 0, 1) := by decide +kernel
theorem dY_init_288 : decode cY_init 288 = .ok (.getfield 35, 3) := by decide +kernel
theorem dY_init_291 : decode cY_init 291 = .ok (.iconst 2, 1) := by decide +kernel
theorem dY_init_292 : decode cY_init 292 = .ok (.dup2, 1) := by decide +kernel
theorem dY_init_293 : decode cY_init 293 = .ok (.iaload, 1) := by decide +kernel
theorem dY_init_294 : decode cY_init 294 = .ok (.sipush 132, 3) := by decide +kernel
theorem dY_init_297 : decode cY_init 297 = .ok (.ior, 1) := by decide +kernel
theorem dY_init_298 : decode cY_init 298 = .ok (.iastore, 1) := by decide +kernel
theorem dY_init_299 : decode cY_init 299 = .ok (.aload_n 0, 1) := by decide +kernel
theorem dY_init_300 : decode cY_init 300 = .ok (.getfield 35, 3) := by decide +kernel
theorem dY_init_303 : decode cY_init 303 = .ok (.bipush 8, 2) := by decide +kernel
theorem dY_init_305 : decode cY_init 305 = .ok (.dup2, 1) := by decide +kernel
theorem dY_init_306 : decode cY_init 306 = .ok (.iaload, 1) := by decide +kernel
theorem dY_init_307 : decode cY_init 307 = .ok (.sipush 132, 3) := by decide +kernel
theorem dY_init_310 : decode cY_init 310 = .ok (.ior, 1) := by decide +kernel
theorem dY_init_311 : decode cY_init 311 = .ok (.iastore, 1) := by decide +kernel
theorem dY_init_312 : decode cY_init 312 = .ok (.iconst 3, 1) := by decide +kernel
theorem dY_init_313 : decode cY_init 313 = .ok (.istore_n 1, 1) := by decide +kernel
theorem dY_init_314 : decode cY_init 314 = .ok (.iload_n 1, 1) := by decide +kernel
theorem dY_init_315 : decode cY_init 315 = .ok (.bipush 7, 2) := by decide +kernel
theorem dY_init_317 : decode cY_init 317 = .ok (.if_icmp .ge 21, 3) := by decide +kernel
theorem dY_init_320 : decode cY_init 320 = .ok (.aload_n 0, 1) := by decide +kernel
theorem dY_init_321 : decode cY_init 321 = .ok (.getfield 35, 3) := by decide +kernel
theorem dY_init_324 : decode cY_init 324 = .ok (.iload_n 1, 1) := by decide +kernel
theorem dY_init_325 : decode cY_init 325 = .ok (.dup2, 1) := by decide +kernel
theorem dY_init_326 : decode cY_init 326 = .ok (.iaload, 1) := by decide +kernel
theorem dY_init_327 : decode cY_init 327 = .ok (.sipush 888, 3) := by decide +kernel
theorem dY_init_330 : decode cY_init 330 = .ok (.ior, 1) := by decide +kernel
theorem dY_init_331 : decode cY_init 331 = .ok (.iastore, 1) := by decide +kernel
theorem dY_init_332 : decode cY_init 332 = .ok (.iinc 1 1, 3) := by decide +kernel
theorem dY_init_335 : decode cY_init 335 = .ok (.goto (-21), 3) := by decide +kernel
theorem dY_init_338 : decode cY_init 338 = .ok (.aload_n 0, 1) := by decide +kernel
theorem dY_init_339 : decode cY_init 339 = .ok (.getfield 35, 3) := by decide +kernel
theorem dY_init_342 : decode cY_init 342 = .ok (.iconst 3, 1) := by decide +kernel
theorem dY_init_343 : decode cY_init 343 = .ok (.dup2, 1) := by decide +kernel
theorem dY_init_344 : decode cY_init 344 = .ok (.iaload, 1) := by decide +kernel
theorem dY_init_345 : decode cY_init 345 = .ok (.sipush 1024, 3) := by decide +kernel
theorem dY_init_348 : decode cY_init 348 = .ok (.ior, 1) := by decide +kernel
theorem dY_init_349 : decode cY_init 349 = .ok (.iastore, 1) := by decide +kernel
theorem dY_init_350 : decode cY_init 350 = .ok (.iconst 4, 1) := by decide +kernel
theorem dY_init_351 : decode cY_init 351 = .ok (.istore_n 1, 1) := by decide +kernel
theorem dY_init_352 : decode cY_init 352 = .ok (.iload_n 1, 1) := by decide +kernel
theorem dY_init_353 : decode cY_init 353 = .ok (.bipush 7, 2) := by decide +kernel
theorem dY_init_355 : decode cY_init 355 = .ok (.if_icmp .ge 19, 3) := by decide +kernel
theorem dY_init_358 : decode cY_init 358 = .ok (.aload_n 0, 1) := by decide +kernel
theorem dY_init_359 : decode cY_init 359 = .ok (.getfield 35, 3) := by decide +kernel
theorem dY_init_362 : decode cY_init 362 = .ok (.iload_n 1, 1) := by decide +kernel
theorem dY_init_363 : decode cY_init 363 = .ok (.dup2, 1) := by decide +kernel
theorem dY_init_364 : decode cY_init 364 = .ok (.iaload, 1) := by decide +kernel
theorem dY_init_365 : decode cY_init 365 = .ok (.iconst 4, 1) := by decide +kernel
theorem dY_init_366 : decode cY_init 366 = .ok (.ior, 1) := by decide +kernel
theorem dY_init_367 : decode cY_init 367 = .ok (.iastore, 1) := by decide +kernel
theorem dY_init_368 : decode cY_init 368 = .ok (.iinc 1 1, 3) := by decide +kernel
theorem dY_init_371 : decode cY_init 371 = .ok (.goto (-19), 3) := by decide +kernel
theorem dY_init_374 : decode cY_init 374 = .ok (.aload_n 0, 1) := by decide +kernel
theorem dY_init_375 : decode cY_init 375 = .ok (.getfield 35, 3) := by decide +kernel
theorem dY_init_378 : decode cY_init 378 = .ok (.bipush 7, 2) := by decide +kernel
theorem dY_init_380 : decode cY_init 380 = .ok (.dup2, 1) := by decide +kernel
theorem dY_init_381 : decode cY_init 381 = .ok (.iaload, 1) := by decide +kernel
theorem dY_init_382 : decode cY_init 382 = .ok (.sipush 1024, 3) := by decide +kernel
theorem dY_init_385 : decode cY_init 385 = .ok (.ior, 1) := by decide +kernel
theorem dY_init_386 : decode cY_init 386 = .ok (.iastore, 1) := by decide +kernel
theorem dY_init_387 : decode cY_init 387 = .ok (.aload_n 0, 1) := by decide +kernel
theorem dY_init_388 : decode cY_init 388 = .ok (.getfield 35, 3) := by decide +kernel
theorem dY_init_391 : decode cY_init 391 = .ok (.iconst 4, 1) := by decide +kernel
theorem dY_init_392 : decode cY_init 392 = .ok (.dup2, 1) := by decide +kernel
theorem dY_init_393 : decode cY_init 393 = .ok (.iaload, 1) := by decide +kernel
theorem dY_init_394 : decode cY_init 394 = .ok (.sipush 2048, 3) := by decide +kernel
theorem dY_init_397 : decode cY_init 397 = .ok (.ior, 1) := by decide +kernel
theorem dY_init_398 : decode cY_init 398 = .ok (.iastore, 1) := by decide +kernel
theorem dY_init_399 : decode cY_init 399 = .ok (.aload_n 0, 1) := by decide +kernel
theorem dY_init_400 : decode cY_init 400 = .ok (.getfield 35, 3) := by decide +kernel
theorem dY_init_403 : decode cY_init 403 = .ok (.bipush 6, 2) := by decide +kernel
theorem dY_init_405 : decode cY_init 405 = .ok (.dup2, 1) := by decide +kernel
theorem dY_init_406 : decode cY_init 406 = .ok (.iaload, 1) := by decide +kernel
theorem dY_init_407 : decode cY_init 407 = .ok (.sipush 2048, 3) := by decide +kernel
theorem dY_init_410 : decode cY_init 410 = .ok (.ior, 1) := by decide +kernel
theorem dY_init_411 : decode cY_init 411 = .ok (.iastore, 1) := by decide +kernel
theorem dY_init_412 : decode cY_init 412 = .ok (.return_, 1) := by decide +kernel
theorem dY_bits_0 : decode cY_bits 0 = .ok (.iconst 1, 1) := by decide +kernel
theorem dY_bits_1 : decode cY_bits 1 = .ok (.iload_n 0, 1) := by decide +kernel
theorem dY_bits_2 : decode cY_bits 2 = .ok (.ishl, 1) := by decide +kernel
theorem dY_bits_3 : decode cY_bits 3 = .ok (.iconst 1, 1) := by decide +kernel
theorem dY_bits_4 : decode cY_bits 4 = .ok (.iload_n 1, 1) := by decide +kernel
theorem dY_bits_5 : decode cY_bits 5 = .ok (.ishl, 1) := by decide +kernel
theorem dY_bits_6 : decode cY_bits 6 = .ok (.ior, 1) := by decide +kernel
theorem dY_bits_7 : decode cY_bits 7 = .ok (.iconst 1, 1) := by decide +kernel
theorem dY_bits_8 : decode cY_bits 8 = .ok (.iload_n 2, 1) := by decide +kernel
theorem dY_bits_9 : decode cY_bits 9 = .ok (.ishl, 1) := by decide +kernel
theorem dY_bits_10 : decode cY_bits 10 = .ok (.ior, 1) := by decide +kernel
theorem dY_bits_11 : decode cY_bits 11 = .ok (.iconst 1, 1) := by decide +kernel
theorem dY_bits_12 : decode cY_bits 12 = .ok (.iload_n 3, 1) := by decide +kernel
theorem dY_bits_13 : decode cY_bits 13 = .ok (.ishl, 1) := by decide +kernel
theorem dY_bits_14 : decode cY_bits 14 = .ok (.ior, 1) := by decide +kernel
theorem dY_bits_15 : decode cY_bits 15 = .ok (.ireturn, 1) := by decide +kernel
theorem dY_inn_0 : decode cY_inn 0 = .ok (.iload_n 0, 1) := by decide +kernel
theorem dY_inn_1 : decode cY_inn 1 = .ok (.iload_n 1, 1) := by decide +kernel
theorem dY_inn_2 : decode cY_inn 2 = .ok (.if_icmp .lt 12, 3) := by decide +kernel
theorem dY_inn_5 : decode cY_inn 5 = .ok (.iload_n 0, 1) := by decide +kernel
theorem dY_inn_6 : decode cY_inn 6 = .ok (.iload_n 2, 1) := by decide +kernel
theorem dY_inn_7 : decode cY_inn 7 = .ok (.if_icmp .gt 7, 3) := by decide +kernel
theorem dY_inn_10 : decode cY_inn 10 = .ok (.iconst 1, 1) := by decide +kernel
theorem dY_inn_11 : decode cY_inn 11 = .ok (.goto 4, 3) := by decide +kernel
theorem dY_inn_14 : decode cY_inn 14 = .ok (.iconst 0, 1) := by decide +kernel
theorem dY_inn_15 : decode cY_inn 15 = .ok (.ireturn, 1) := by decide +kernel
theorem dY_note_0 : decode cY_note 0 = .ok (.bipush 15, 2) := by decide +kernel
theorem dY_note_2 : decode cY_note 2 = .ok (.istore_n 2, 1) := by decide +kernel
theorem dY_note_3 : decode cY_note 3 = .ok (.iload_n 2, 1) := by decide +kernel
theorem dY_note_4 : decode cY_note 4 = .ok (.ifCond .le 23, 3) := by decide +kernel
theorem dY_note_7 : decode cY_note 7 = .ok (.aload_n 0, 1) := by decide +kernel
theorem dY_note_8 : decode cY_note 8 = .ok (.getfield 38, 3) := by decide +kernel
theorem dY_note_11 : decode cY_note 11 = .ok (.iload_n 2, 1) := by decide +kernel
theorem dY_note_12 : decode cY_note 12 = .ok (.aload_n 0, 1) := by decide +kernel
theorem dY_note_13 : decode cY_note 13 = .ok (.getfield 38, 3) := by decide +kernel
theorem dY_note_16 : decode cY_note 16 = .ok (.iload_n 2, 1) := by decide +kernel
theorem dY_note_17 : decode cY_note 17 = .ok (.iconst 1, 1) := by decide +kernel
theorem dY_note_18 : decode cY_note 18 = .ok (.isub, 1) := by decide +kernel
theorem dY_note_19 : decode cY_note 19 = .ok (.iaload, 1) := by decide +kernel
theorem dY_note_20 : decode cY_note 20 = .ok (.iastore, 1) := by decide +kernel
theorem dY_note_21 : decode cY_note 21 = .ok (.iinc 2 (-1), 3) := by decide +kernel
theorem dY_note_24 : decode cY_note 24 = .ok (.goto (-21), 3) := by decide +kernel
theorem dY_note_27 : decode cY_note 27 = .ok (.aload_n 0, 1) := by decide +kernel
theorem dY_note_28 : decode cY_note 28 = .ok (.getfield 38, 3) := by decide +kernel
theorem dY_note_31 : decode cY_note 31 = .ok (.iconst 0, 1) := by decide +kernel
theorem dY_note_32 : decode cY_note 32 = .ok (.iload_n 1, 1) := by decide +kernel
theorem dY_note_33 : decode cY_note 33 = .ok (.iastore, 1) := by decide +kernel
theorem dY_note_34 : decode cY_note 34 = .ok (.aload_n 0, 1) := by decide +kernel
theorem dY_note_35 : decode cY_note 35 = .ok (.dup, 1) := by decide +kernel
theorem dY_note_36 : decode cY_note 36 = .ok (.getfield 45, 3) := by decide +kernel
theorem dY_note_39 : decode cY_note 39 = .ok (.iconst 1, 1) := by decide +kernel
theorem dY_note_40 : decode cY_note 40 = .ok (.iadd, 1) := by decide +kernel
theorem dY_note_41 : decode cY_note 41 = .ok (.putfield 45, 3) := by decide +kernel
theorem dY_note_44 : decode cY_note 44 = .ok (.return_, 1) := by decide +kernel
theorem dY_of_0 : decode cY_of 0 = .ok (.iload_n 1, 1) := by decide +kernel
theorem dY_of_1 : decode cY_of 1 = .ok (.ifCond .le 25, 3) := by decide +kernel
theorem dY_of_4 : decode cY_of 4 = .ok (.aload_n 0, 1) := by decide +kernel
theorem dY_of_5 : decode cY_of 5 = .ok (.getfield 32, 3) := by decide +kernel
theorem dY_of_8 : decode cY_of 8 = .ok (.aload_n 0, 1) := by decide +kernel
theorem dY_of_9 : decode cY_of 9 = .ok (.getfield 7, 3) := by decide +kernel
theorem dY_of_12 : decode cY_of 12 = .ok (.iload_n 1, 1) := by decide +kernel
theorem dY_of_13 : decode cY_of 13 = .ok (.iaload, 1) := by decide +kernel
theorem dY_of_14 : decode cY_of 14 = .ok (.iaload, 1) := by decide +kernel
theorem dY_of_15 : decode cY_of 15 = .ok (.iload_n 2, 1) := by decide +kernel
theorem dY_of_16 : decode cY_of 16 = .ok (.ishr, 1) := by decide +kernel
theorem dY_of_17 : decode cY_of 17 = .ok (.iconst 1, 1) := by decide +kernel
theorem dY_of_18 : decode cY_of 18 = .ok (.iand, 1) := by decide +kernel
theorem dY_of_19 : decode cY_of 19 = .ok (.ifCond .eq 7, 3) := by decide +kernel
theorem dY_of_22 : decode cY_of 22 = .ok (.iconst 1, 1) := by decide +kernel
theorem dY_of_23 : decode cY_of 23 = .ok (.goto 4, 3) := by decide +kernel
theorem dY_of_26 : decode cY_of 26 = .ok (.iconst 0, 1) := by decide +kernel
theorem dY_of_27 : decode cY_of 27 = .ok (.ireturn, 1) := by decide +kernel
theorem dY_depth_0 : decode cY_depth 0 = .ok (.iconst 0, 1) := by decide +kernel
theorem dY_depth_1 : decode cY_depth 1 = .ok (.istore_n 2, 1) := by decide +kernel
theorem dY_depth_2 : decode cY_depth 2 = .ok (.iload_n 1, 1) := by decide +kernel
theorem dY_depth_3 : decode cY_depth 3 = .ok (.istore_n 3, 1) := by decide +kernel
theorem dY_depth_4 : decode cY_depth 4 = .ok (.aload_n 0, 1) := by decide +kernel
theorem dY_depth_5 : decode cY_depth 5 = .ok (.getfield 7, 3) := by decide +kernel
theorem dY_depth_8 : decode cY_depth 8 = .ok (.iload_n 3, 1) := by decide +kernel
theorem dY_depth_9 : decode cY_depth 9 = .ok (.iaload, 1) := by decide +kernel
theorem dY_depth_10 : decode cY_depth 10 = .ok (.bipush 8, 2) := by decide +kernel
theorem dY_depth_12 : decode cY_depth 12 = .ok (.if_icmp .ne 20, 3) := by decide +kernel
theorem dY_depth_15 : decode cY_depth 15 = .ok (.iload_n 3, 1) := by decide +kernel
theorem dY_depth_16 : decode cY_depth 16 = .ok (.ifCond .le 16, 3) := by decide +kernel
theorem dY_depth_19 : decode cY_depth 19 = .ok (.iinc 2 1, 3) := by decide +kernel
theorem dY_depth_22 : decode cY_depth 22 = .ok (.aload_n 0, 1) := by decide +kernel
theorem dY_depth_23 : decode cY_depth 23 = .ok (.getfield 16, 3) := by decide +kernel
theorem dY_depth_26 : decode cY_depth 26 = .ok (.iload_n 3, 1) := by decide +kernel
theorem dY_depth_27 : decode cY_depth 27 = .ok (.iaload, 1) := by decide +kernel
theorem dY_depth_28 : decode cY_depth 28 = .ok (.istore_n 3, 1) := by decide +kernel
theorem dY_depth_29 : decode cY_depth 29 = .ok (.goto (-25), 3) := by decide +kernel
theorem dY_depth_32 : decode cY_depth 32 = .ok (.iload_n 2, 1) := by decide +kernel
theorem dY_depth_33 : decode cY_depth 33 = .ok (.ireturn, 1) := by decide +kernel
theorem dY_make_0 : decode cY_make 0 = .ok (.iload_n 1, 1) := by decide +kernel
theorem dY_make_1 : decode cY_make 1 = .ok (.iconst 0, 1) := by decide +kernel
theorem dY_make_2 : decode cY_make 2 = .ok (.bipush 7, 2) := by decide +kernel
theorem dY_make_4 : decode cY_make 4 = .ok (.invokestatic 48, 3) := by decide +kernel
theorem dY_make_7 : decode cY_make 7 = .ok (.ifCond .eq 13, 3) := by decide +kernel
theorem dY_make_10 : decode cY_make 10 = .ok (.iload_n 2, 1) := by decide +kernel
theorem dY_make_11 : decode cY_make 11 = .ok (.iconst 0, 1) := by decide +kernel
theorem dY_make_12 : decode cY_make 12 = .ok (.bipush 9, 2) := by decide +kernel
theorem dY_make_14 : decode cY_make 14 = .ok (.invokestatic 48, 3) := by decide +kernel
theorem dY_make_17 : decode cY_make 17 = .ok (.ifCond .ne 5, 3) := by decide +kernel
theorem dY_make_20 : decode cY_make 20 = .ok (.iconst (-1), 1) := by decide +kernel
theorem dY_make_21 : decode cY_make 21 = .ok (.ireturn, 1) := by decide +kernel
theorem dY_make_22 : decode cY_make 22 = .ok (.iload_n 2, 1) := by decide +kernel
theorem dY_make_23 : decode cY_make 23 = .ok (.iconst 4, 1) := by decide +kernel
theorem dY_make_24 : decode cY_make 24 = .ok (.if_icmp .eq 8, 3) := by decide +kernel
theorem dY_make_27 : decode cY_make 27 = .ok (.iload_n 2, 1) := by decide +kernel
theorem dY_make_28 : decode cY_make 28 = .ok (.iconst 5, 1) := by decide +kernel
theorem dY_make_29 : decode cY_make 29 = .ok (.if_icmp .ne 21, 3) := by decide +kernel
theorem dY_make_32 : decode cY_make 32 = .ok (.aload_n 0, 1) := by decide +kernel
theorem dY_make_33 : decode cY_make 33 = .ok (.getfield 23, 3) := by decide +kernel
theorem dY_make_36 : decode cY_make 36 = .ok (.iload_n 1, 1) := by decide +kernel
theorem dY_make_37 : decode cY_make 37 = .ok (.iload_n 2, 1) := by decide +kernel
theorem dY_make_38 : decode cY_make 38 = .ok (.iconst 4, 1) := by decide +kernel
theorem dY_make_39 : decode cY_make 39 = .ok (.if_icmp .ne 7, 3) := by decide +kernel
theorem dY_make_42 : decode cY_make 42 = .ok (.iconst 1, 1) := by decide +kernel
theorem dY_make_43 : decode cY_make 43 = .ok (.goto 4, 3) := by decide +kernel
theorem dY_make_46 : decode cY_make 46 = .ok (.iconst 2, 1) := by decide +kernel
theorem dY_make_47 : decode cY_make 47 = .ok (.iastore, 1) := by decide +kernel
theorem dY_make_48 : decode cY_make 48 = .ok (.iconst 0, 1) := by decide +kernel
theorem dY_make_49 : decode cY_make 49 = .ok (.ireturn, 1) := by decide +kernel
theorem dY_make_50 : decode cY_make 50 = .ok (.aload_n 0, 1) := by decide +kernel
theorem dY_make_51 : decode cY_make 51 = .ok (.getfield 23, 3) := by decide +kernel
theorem dY_make_54 : decode cY_make 54 = .ok (.iload_n 3, 1) := by decide +kernel
theorem dY_make_55 : decode cY_make 55 = .ok (.bipush 7, 2) := by decide +kernel
theorem dY_make_57 : decode cY_make 57 = .ok (.iand, 1) := by decide +kernel
theorem dY_make_58 : decode cY_make 58 = .ok (.iaload, 1) := by decide +kernel
theorem dY_make_59 : decode cY_make 59 = .ok (.istore 4, 2) := by decide +kernel
theorem dY_make_61 : decode cY_make 61 = .ok (.iload_n 2, 1) := by decide +kernel
theorem dY_make_62 : decode cY_make 62 = .ok (.bipush 8, 2) := by decide +kernel
theorem dY_make_64 : decode cY_make 64 = .ok (.if_icmp .ne 10, 3) := by decide +kernel
theorem dY_make_67 : decode cY_make 67 = .ok (.iload 4, 2) := by decide +kernel
theorem dY_make_69 : decode cY_make 69 = .ok (.ifCond .ne 5, 3) := by decide +kernel
theorem dY_make_72 : decode cY_make 72 = .ok (.iconst 2, 1) := by decide +kernel
theorem dY_make_73 : decode cY_make 73 = .ok (.ireturn, 1) := by decide +kernel
theorem dY_make_74 : decode cY_make 74 = .ok (.iload_n 2, 1) := by decide +kernel
theorem dY_make_75 : decode cY_make 75 = .ok (.bipush 8, 2) := by decide +kernel
theorem dY_make_77 : decode cY_make 77 = .ok (.if_icmp .ne 15, 3) := by decide +kernel
theorem dY_make_80 : decode cY_make 80 = .ok (.aload_n 0, 1) := by decide +kernel
theorem dY_make_81 : decode cY_make 81 = .ok (.iload 4, 2) := by decide +kernel
theorem dY_make_83 : decode cY_make 83 = .ok (.invokevirtual 52, 3) := by decide +kernel
theorem dY_make_86 : decode cY_make 86 = .ok (.iconst 3, 1) := by decide +kernel
theorem dY_make_87 : decode cY_make 87 = .ok (.if_icmp .ne 5, 3) := by decide +kernel
theorem dY_make_90 : decode cY_make 90 = .ok (.iconst (-1), 1) := by decide +kernel
theorem dY_make_91 : decode cY_make 91 = .ok (.ireturn, 1) := by decide +kernel
theorem dY_make_92 : decode cY_make 92 = .ok (.aload_n 0, 1) := by decide +kernel
theorem dY_make_93 : decode cY_make 93 = .ok (.dup, 1) := by decide +kernel
theorem dY_make_94 : decode cY_make 94 = .ok (.getfield 19, 3) := by decide +kernel
theorem dY_make_97 : decode cY_make 97 = .ok (.iconst 1, 1) := by decide +kernel
theorem dY_make_98 : decode cY_make 98 = .ok (.iadd, 1) := by decide +kernel
theorem dY_make_99 : decode cY_make 99 = .ok (.putfield 19, 3) := by decide +kernel
theorem dY_make_102 : decode cY_make 102 = .ok (.aload_n 0, 1) := by decide +kernel
theorem dY_make_103 : decode cY_make 103 = .ok (.getfield 7, 3) := by decide +kernel
theorem dY_make_106 : decode cY_make 106 = .ok (.aload_n 0, 1) := by decide +kernel
theorem dY_make_107 : decode cY_make 107 = .ok (.getfield 19, 3) := by decide +kernel
theorem dY_make_110 : decode cY_make 110 = .ok (.iload_n 2, 1) := by decide +kernel
theorem dY_make_111 : decode cY_make 111 = .ok (.iastore, 1) := by decide +kernel
theorem dY_make_112 : decode cY_make 112 = .ok (.aload_n 0, 1) := by decide +kernel
theorem dY_make_113 : decode cY_make 113 = .ok (.getfield 13, 3) := by decide +kernel
theorem dY_make_116 : decode cY_make 116 = .ok (.aload_n 0, 1) := by decide +kernel
theorem dY_make_117 : decode cY_make 117 = .ok (.getfield 19, 3) := by decide +kernel
theorem dY_make_120 : decode cY_make 120 = .ok (.iload_n 3, 1) := by decide +kernel
theorem dY_make_121 : decode cY_make 121 = .ok (.iastore, 1) := by decide +kernel
theorem dY_make_122 : decode cY_make 122 = .ok (.aload_n 0, 1) := by decide +kernel
theorem dY_make_123 : decode cY_make 123 = .ok (.getfield 16, 3) := by decide +kernel
theorem dY_make_126 : decode cY_make 126 = .ok (.aload_n 0, 1) := by decide +kernel
theorem dY_make_127 : decode cY_make 127 = .ok (.getfield 19, 3) := by decide +kernel
theorem dY_make_130 : decode cY_make 130 = .ok (.iload 4, 2) := by decide +kernel
theorem dY_make_132 : decode cY_make 132 = .ok (.iastore, 1) := by decide +kernel
theorem dY_make_133 : decode cY_make 133 = .ok (.aload_n 0, 1) := by decide +kernel
theorem dY_make_134 : decode cY_make 134 = .ok (.getfield 23, 3) := by decide +kernel
theorem dY_make_137 : decode cY_make 137 = .ok (.iload_n 1, 1) := by decide +kernel
theorem dY_make_138 : decode cY_make 138 = .ok (.aload_n 0, 1) := by decide +kernel
theorem dY_make_139 : decode cY_make 139 = .ok (.getfield 19, 3) := by decide +kernel
theorem dY_make_142 : decode cY_make 142 = .ok (.iastore, 1) := by decide +kernel
theorem dY_make_143 : decode cY_make 143 = .ok (.iload_n 2, 1) := by decide +kernel
theorem dY_make_144 : decode cY_make 144 = .ok (.ifCond .ne 12, 3) := by decide +kernel
theorem dY_make_147 : decode cY_make 147 = .ok (.aload_n 0, 1) := by decide +kernel
theorem dY_make_148 : decode cY_make 148 = .ok (.bipush 20, 2) := by decide +kernel
theorem dY_make_150 : decode cY_make 150 = .ok (.invokevirtual 56, 3) := by decide +kernel
theorem dY_make_153 : decode cY_make 153 = .ok (.goto 27, 3) := by decide +kernel
theorem dY_make_156 : decode cY_make 156 = .ok (.aload_n 0, 1) := by decide +kernel
theorem dY_make_157 : decode cY_make 157 = .ok (.aload_n 0, 1) := by decide +kernel
theorem dY_make_158 : decode cY_make 158 = .ok (.getfield 19, 3) := by decide +kernel
theorem dY_make_161 : decode cY_make 161 = .ok (.iconst 3, 1) := by decide +kernel
theorem dY_make_162 : decode cY_make 162 = .ok (.invokevirtual 60, 3) := by decide +kernel
theorem dY_make_165 : decode cY_make 165 = .ok (.ifCond .eq 15, 3) := by decide +kernel
theorem dY_make_168 : decode cY_make 168 = .ok (.aload_n 0, 1) := by decide +kernel
theorem dY_make_169 : decode cY_make 169 = .ok (.aload_n 0, 1) := by decide +kernel
theorem dY_make_170 : decode cY_make 170 = .ok (.aload_n 0, 1) := by decide +kernel
theorem dY_make_171 : decode cY_make 171 = .ok (.getfield 19, 3) := by decide +kernel
theorem dY_make_174 : decode cY_make 174 = .ok (.invokevirtual 64, 3) := by decide +kernel
theorem dY_make_177 : decode cY_make 177 = .ok (.invokevirtual 56, 3) := by decide +kernel
theorem dY_make_180 : decode cY_make 180 = .ok (.iload_n 2, 1) := by decide +kernel
theorem dY_make_181 : decode cY_make 181 = .ok (.bipush 9, 2) := by decide +kernel
theorem dY_make_183 : decode cY_make 183 = .ok (.if_icmp .ne 10, 3) := by decide +kernel
theorem dY_make_186 : decode cY_make 186 = .ok (.aload_n 0, 1) := by decide +kernel
theorem dY_make_187 : decode cY_make 187 = .ok (.iload_n 3, 1) := by decide +kernel
theorem dY_make_188 : decode cY_make 188 = .ok (.iconst 1, 1) := by decide +kernel
theorem dY_make_189 : decode cY_make 189 = .ok (.iadd, 1) := by decide +kernel
theorem dY_make_190 : decode cY_make 190 = .ok (.invokevirtual 56, 3) := by decide +kernel
theorem dY_make_193 : decode cY_make 193 = .ok (.iconst 0, 1) := by decide +kernel
theorem dY_make_194 : decode cY_make 194 = .ok (.ireturn, 1) := by decide +kernel
theorem dY_drop_0 : decode cY_drop 0 = .ok (.iload_n 1, 1) := by decide +kernel
theorem dY_drop_1 : decode cY_drop 1 = .ok (.iconst 0, 1) := by decide +kernel
theorem dY_drop_2 : decode cY_drop 2 = .ok (.bipush 7, 2) := by decide +kernel
theorem dY_drop_4 : decode cY_drop 4 = .ok (.invokestatic 48, 3) := by decide +kernel
theorem dY_drop_7 : decode cY_drop 7 = .ok (.ifCond .ne 5, 3) := by decide +kernel
theorem dY_drop_10 : decode cY_drop 10 = .ok (.iconst (-1), 1) := by decide +kernel
theorem dY_drop_11 : decode cY_drop 11 = .ok (.ireturn, 1) := by decide +kernel
theorem dY_drop_12 : decode cY_drop 12 = .ok (.aload_n 0, 1) := by decide +kernel
theorem dY_drop_13 : decode cY_drop 13 = .ok (.getfield 23, 3) := by decide +kernel
theorem dY_drop_16 : decode cY_drop 16 = .ok (.iload_n 1, 1) := by decide +kernel
theorem dY_drop_17 : decode cY_drop 17 = .ok (.iaload, 1) := by decide +kernel
theorem dY_drop_18 : decode cY_drop 18 = .ok (.istore_n 2, 1) := by decide +kernel
theorem dY_drop_19 : decode cY_drop 19 = .ok (.aload_n 0, 1) := by decide +kernel
theorem dY_drop_20 : decode cY_drop 20 = .ok (.getfield 23, 3) := by decide +kernel
theorem dY_drop_23 : decode cY_drop 23 = .ok (.iload_n 1, 1) := by decide +kernel
theorem dY_drop_24 : decode cY_drop 24 = .ok (.iconst 0, 1) := by decide +kernel
theorem dY_drop_25 : decode cY_drop 25 = .ok (.iastore, 1) := by decide +kernel
theorem dY_drop_26 : decode cY_drop 26 = .ok (.iload_n 2, 1) := by decide +kernel
theorem dY_drop_27 : decode cY_drop 27 = .ok (.ifCond .ne 7, 3) := by decide +kernel
theorem dY_drop_30 : decode cY_drop 30 = .ok (.iconst 2, 1) := by decide +kernel
theorem dY_drop_31 : decode cY_drop 31 = .ok (.goto 4, 3) := by decide +kernel
theorem dY_drop_34 : decode cY_drop 34 = .ok (.iconst 0, 1) := by decide +kernel
theorem dY_drop_35 : decode cY_drop 35 = .ok (.ireturn, 1) := by decide +kernel
theorem dY_call_0 : decode cY_call 0 = .ok (.iload_n 1, 1) := by decide +kernel
theorem dY_call_1 : decode cY_call 1 = .ok (.istore_n 3, 1) := by decide +kernel
theorem dY_call_2 : decode cY_call 2 = .ok (.aload_n 0, 1) := by decide +kernel
theorem dY_call_3 : decode cY_call 3 = .ok (.getfield 7, 3) := by decide +kernel
theorem dY_call_6 : decode cY_call 6 = .ok (.iload_n 3, 1) := by decide +kernel
theorem dY_call_7 : decode cY_call 7 = .ok (.iaload, 1) := by decide +kernel
theorem dY_call_8 : decode cY_call 8 = .ok (.bipush 8, 2) := by decide +kernel
theorem dY_call_10 : decode cY_call 10 = .ok (.if_icmp .ne 13, 3) := by decide +kernel
theorem dY_call_13 : decode cY_call 13 = .ok (.aload_n 0, 1) := by decide +kernel
theorem dY_call_14 : decode cY_call 14 = .ok (.getfield 16, 3) := by decide +kernel
theorem dY_call_17 : decode cY_call 17 = .ok (.iload_n 3, 1) := by decide +kernel
theorem dY_call_18 : decode cY_call 18 = .ok (.iaload, 1) := by decide +kernel
theorem dY_call_19 : decode cY_call 19 = .ok (.istore_n 3, 1) := by decide +kernel
theorem dY_call_20 : decode cY_call 20 = .ok (.goto (-18), 3) := by decide +kernel
theorem dY_call_23 : decode cY_call 23 = .ok (.aload_n 0, 1) := by decide +kernel
theorem dY_call_24 : decode cY_call 24 = .ok (.getfield 7, 3) := by decide +kernel
theorem dY_call_27 : decode cY_call 27 = .ok (.iload_n 3, 1) := by decide +kernel
theorem dY_call_28 : decode cY_call 28 = .ok (.iaload, 1) := by decide +kernel
theorem dY_call_29 : decode cY_call 29 = .ok (.tableswitch 126 0 9 #[55, 64, 73, 126, 84, 88, 93, 117, 126, 64], 55) := by decide +kernel
theorem dY_call_84 : decode cY_call 84 = .ok (.iload_n 2, 1) := by decide +kernel
theorem dY_call_85 : decode cY_call 85 = .ok (.aload_n 0, 1) := by decide +kernel
theorem dY_call_86 : decode cY_call 86 = .ok (.getfield 13, 3) := by decide +kernel
theorem dY_call_89 : decode cY_call 89 = .ok (.iload_n 3, 1) := by decide +kernel
theorem dY_call_90 : decode cY_call 90 = .ok (.iaload, 1) := by decide +kernel
theorem dY_call_91 : decode cY_call 91 = .ok (.iadd, 1) := by decide +kernel
theorem dY_call_92 : decode cY_call 92 = .ok (.ireturn, 1) := by decide +kernel
theorem dY_call_93 : decode cY_call 93 = .ok (.iload_n 2, 1) := by decide +kernel
theorem dY_call_94 : decode cY_call 94 = .ok (.aload_n 0, 1) := by decide +kernel
theorem dY_call_95 : decode cY_call 95 = .ok (.getfield 13, 3) := by decide +kernel
theorem dY_call_98 : decode cY_call 98 = .ok (.iload_n 3, 1) := by decide +kernel
theorem dY_call_99 : decode cY_call 99 = .ok (.iaload, 1) := by decide +kernel
theorem dY_call_100 : decode cY_call 100 = .ok (.isub, 1) := by decide +kernel
theorem dY_call_101 : decode cY_call 101 = .ok (.ireturn, 1) := by decide +kernel
theorem dY_call_102 : decode cY_call 102 = .ok (.iconst 2, 1) := by decide +kernel
theorem dY_call_103 : decode cY_call 103 = .ok (.iload_n 2, 1) := by decide +kernel
theorem dY_call_104 : decode cY_call 104 = .ok (.aload_n 0, 1) := by decide +kernel
theorem dY_call_105 : decode cY_call 105 = .ok (.getfield 13, 3) := by decide +kernel
theorem dY_call_108 : decode cY_call 108 = .ok (.iload_n 3, 1) := by decide +kernel
theorem dY_call_109 : decode cY_call 109 = .ok (.iaload, 1) := by decide +kernel
theorem dY_call_110 : decode cY_call 110 = .ok (.isub, 1) := by decide +kernel
theorem dY_call_111 : decode cY_call 111 = .ok (.imul, 1) := by decide +kernel
theorem dY_call_112 : decode cY_call 112 = .ok (.ireturn, 1) := by decide +kernel
theorem dY_call_113 : decode cY_call 113 = .ok (.iload_n 2, 1) := by decide +kernel
theorem dY_call_114 : decode cY_call 114 = .ok (.iconst 2, 1) := by decide +kernel
theorem dY_call_115 : decode cY_call 115 = .ok (.iadd, 1) := by decide +kernel
theorem dY_call_116 : decode cY_call 116 = .ok (.ireturn, 1) := by decide +kernel
theorem dY_call_117 : decode cY_call 117 = .ok (.bipush 9, 2) := by decide +kernel
theorem dY_call_119 : decode cY_call 119 = .ok (.iload_n 2, 1) := by decide +kernel
theorem dY_call_120 : decode cY_call 120 = .ok (.imul, 1) := by decide +kernel
theorem dY_call_121 : decode cY_call 121 = .ok (.ireturn, 1) := by decide +kernel
theorem dY_call_122 : decode cY_call 122 = .ok (.aload_n 0, 1) := by decide +kernel
theorem dY_call_123 : decode cY_call 123 = .ok (.dup, 1) := by decide +kernel
theorem dY_call_124 : decode cY_call 124 = .ok (.getfield 67, 3) := by decide +kernel
theorem dY_call_127 : decode cY_call 127 = .ok (.iconst 1, 1) := by decide +kernel
theorem dY_call_128 : decode cY_call 128 = .ok (.iadd, 1) := by decide +kernel
theorem dY_call_129 : decode cY_call 129 = .ok (.putfield 67, 3) := by decide +kernel
theorem dY_call_132 : decode cY_call 132 = .ok (.iload_n 2, 1) := by decide +kernel
theorem dY_call_133 : decode cY_call 133 = .ok (.aload_n 0, 1) := by decide +kernel
theorem dY_call_134 : decode cY_call 134 = .ok (.getfield 13, 3) := by decide +kernel
theorem dY_call_137 : decode cY_call 137 = .ok (.iload_n 3, 1) := by decide +kernel
theorem dY_call_138 : decode cY_call 138 = .ok (.iaload, 1) := by decide +kernel
theorem dY_call_139 : decode cY_call 139 = .ok (.iadd, 1) := by decide +kernel
theorem dY_call_140 : decode cY_call 140 = .ok (.aload_n 0, 1) := by decide +kernel
theorem dY_call_141 : decode cY_call 141 = .ok (.getfield 67, 3) := by decide +kernel
theorem dY_call_144 : decode cY_call 144 = .ok (.iadd, 1) := by decide +kernel
theorem dY_call_145 : decode cY_call 145 = .ok (.ireturn, 1) := by decide +kernel
theorem dY_call_146 : decode cY_call 146 = .ok (.iload_n 2, 1) := by decide +kernel
theorem dY_call_147 : decode cY_call 147 = .ok (.aload_n 0, 1) := by decide +kernel
theorem dY_call_148 : decode cY_call 148 = .ok (.getfield 13, 3) := by decide +kernel
theorem dY_call_151 : decode cY_call 151 = .ok (.iload_n 3, 1) := by decide +kernel
theorem dY_call_152 : decode cY_call 152 = .ok (.iaload, 1) := by decide +kernel
theorem dY_call_153 : decode cY_call 153 = .ok (.imul, 1) := by decide +kernel
theorem dY_call_154 : decode cY_call 154 = .ok (.ireturn, 1) := by decide +kernel
theorem dY_call_155 : decode cY_call 155 = .ok (.iload_n 2, 1) := by decide +kernel
theorem dY_call_156 : decode cY_call 156 = .ok (.ireturn, 1) := by decide +kernel
theorem dY_twice_0 : decode cY_twice 0 = .ok (.aload_n 0, 1) := by decide +kernel
theorem dY_twice_1 : decode cY_twice 1 = .ok (.getfield 7, 3) := by decide +kernel
theorem dY_twice_4 : decode cY_twice 4 = .ok (.iload_n 1, 1) := by decide +kernel
theorem dY_twice_5 : decode cY_twice 5 = .ok (.iaload, 1) := by decide +kernel
theorem dY_twice_6 : decode cY_twice 6 = .ok (.tableswitch 83 0 9 #[54, 63, 72, 83, 54, 54, 83, 83, 83, 63], 54) := by decide +kernel
theorem dY_twice_60 : decode cY_twice 60 = .ok (.iconst 2, 1) := by decide +kernel
theorem dY_twice_61 : decode cY_twice 61 = .ok (.aload_n 0, 1) := by decide +kernel
theorem dY_twice_62 : decode cY_twice 62 = .ok (.iload_n 1, 1) := by decide +kernel
theorem dY_twice_63 : decode cY_twice 63 = .ok (.iload_n 2, 1) := by decide +kernel
theorem dY_twice_64 : decode cY_twice 64 = .ok (.invokevirtual 70, 3) := by decide +kernel
theorem dY_twice_67 : decode cY_twice 67 = .ok (.imul, 1) := by decide +kernel
theorem dY_twice_68 : decode cY_twice 68 = .ok (.ireturn, 1) := by decide +kernel
theorem dY_twice_69 : decode cY_twice 69 = .ok (.aload_n 0, 1) := by decide +kernel
theorem dY_twice_70 : decode cY_twice 70 = .ok (.iload_n 1, 1) := by decide +kernel
theorem dY_twice_71 : decode cY_twice 71 = .ok (.iload_n 2, 1) := by decide +kernel
theorem dY_twice_72 : decode cY_twice 72 = .ok (.invokevirtual 70, 3) := by decide +kernel
theorem dY_twice_75 : decode cY_twice 75 = .ok (.iconst 1, 1) := by decide +kernel
theorem dY_twice_76 : decode cY_twice 76 = .ok (.isub, 1) := by decide +kernel
theorem dY_twice_77 : decode cY_twice 77 = .ok (.ireturn, 1) := by decide +kernel
theorem dY_twice_78 : decode cY_twice 78 = .ok (.iconst 3, 1) := by decide +kernel
theorem dY_twice_79 : decode cY_twice 79 = .ok (.aload_n 0, 1) := by decide +kernel
theorem dY_twice_80 : decode cY_twice 80 = .ok (.iload_n 1, 1) := by decide +kernel
theorem dY_twice_81 : decode cY_twice 81 = .ok (.iload_n 2, 1) := by decide +kernel
theorem dY_twice_82 : decode cY_twice 82 = .ok (.invokevirtual 70, 3) := by decide +kernel
theorem dY_twice_85 : decode cY_twice 85 = .ok (.imul, 1) := by decide +kernel
theorem dY_twice_86 : decode cY_twice 86 = .ok (.iconst 1, 1) := by decide +kernel
theorem dY_twice_87 : decode cY_twice 87 = .ok (.isub, 1) := by decide +kernel
theorem dY_twice_88 : decode cY_twice 88 = .ok (.ireturn, 1) := by decide +kernel
theorem dY_twice_89 : decode cY_twice 89 = .ok (.aload_n 0, 1) := by decide +kernel
theorem dY_twice_90 : decode cY_twice 90 = .ok (.iload_n 1, 1) := by decide +kernel
theorem dY_twice_91 : decode cY_twice 91 = .ok (.iload_n 2, 1) := by decide +kernel
theorem dY_twice_92 : decode cY_twice 92 = .ok (.invokevirtual 70, 3) := by decide +kernel
theorem dY_twice_95 : decode cY_twice 95 = .ok (.istore_n 3, 1) := by decide +kernel
theorem dY_twice_96 : decode cY_twice 96 = .ok (.aload_n 0, 1) := by decide +kernel
theorem dY_twice_97 : decode cY_twice 97 = .ok (.iload_n 1, 1) := by decide +kernel
theorem dY_twice_98 : decode cY_twice 98 = .ok (.iload_n 3, 1) := by decide +kernel
theorem dY_twice_99 : decode cY_twice 99 = .ok (.invokevirtual 70, 3) := by decide +kernel
theorem dY_twice_102 : decode cY_twice 102 = .ok (.ireturn, 1) := by decide +kernel
theorem dY_volume_0 : decode cY_volume 0 = .ok (.aload_n 0, 1) := by decide +kernel
theorem dY_volume_1 : decode cY_volume 1 = .ok (.getfield 7, 3) := by decide +kernel
theorem dY_volume_4 : decode cY_volume 4 = .ok (.iload_n 1, 1) := by decide +kernel
theorem dY_volume_5 : decode cY_volume 5 = .ok (.iaload, 1) := by decide +kernel
theorem dY_volume_6 : decode cY_volume 6 = .ok (.istore_n 3, 1) := by decide +kernel
theorem dY_volume_7 : decode cY_volume 7 = .ok (.iload_n 3, 1) := by decide +kernel
theorem dY_volume_8 : decode cY_volume 8 = .ok (.iconst 2, 1) := by decide +kernel
theorem dY_volume_9 : decode cY_volume 9 = .ok (.if_icmp .ne 12, 3) := by decide +kernel
theorem dY_volume_12 : decode cY_volume 12 = .ok (.iconst 3, 1) := by decide +kernel
theorem dY_volume_13 : decode cY_volume 13 = .ok (.iload_n 2, 1) := by decide +kernel
theorem dY_volume_14 : decode cY_volume 14 = .ok (.bipush 10, 2) := by decide +kernel
theorem dY_volume_16 : decode cY_volume 16 = .ok (.iadd, 1) := by decide +kernel
theorem dY_volume_17 : decode cY_volume 17 = .ok (.imul, 1) := by decide +kernel
theorem dY_volume_18 : decode cY_volume 18 = .ok (.goto 25, 3) := by decide +kernel
theorem dY_volume_21 : decode cY_volume 21 = .ok (.iload_n 3, 1) := by decide +kernel
theorem dY_volume_22 : decode cY_volume 22 = .ok (.iconst 1, 1) := by decide +kernel
theorem dY_volume_23 : decode cY_volume 23 = .ok (.if_icmp .eq 9, 3) := by decide +kernel
theorem dY_volume_26 : decode cY_volume 26 = .ok (.iload_n 3, 1) := by decide +kernel
theorem dY_volume_27 : decode cY_volume 27 = .ok (.bipush 9, 2) := by decide +kernel
theorem dY_volume_29 : decode cY_volume 29 = .ok (.if_icmp .ne 10, 3) := by decide +kernel
theorem dY_volume_32 : decode cY_volume 32 = .ok (.iload_n 2, 1) := by decide +kernel
theorem dY_volume_33 : decode cY_volume 33 = .ok (.bipush 10, 2) := by decide +kernel
theorem dY_volume_35 : decode cY_volume 35 = .ok (.isub, 1) := by decide +kernel
theorem dY_volume_36 : decode cY_volume 36 = .ok (.goto 7, 3) := by decide +kernel
theorem dY_volume_39 : decode cY_volume 39 = .ok (.iload_n 2, 1) := by decide +kernel
theorem dY_volume_40 : decode cY_volume 40 = .ok (.bipush 10, 2) := by decide +kernel
theorem dY_volume_42 : decode cY_volume 42 = .ok (.iadd, 1) := by decide +kernel
theorem dY_volume_43 : decode cY_volume 43 = .ok (.ireturn, 1) := by decide +kernel
theorem dY_weight_0 : decode cY_weight 0 = .ok (.aload_n 0, 1) := by decide +kernel
theorem dY_weight_1 : decode cY_weight 1 = .ok (.getfield 7, 3) := by decide +kernel
theorem dY_weight_4 : decode cY_weight 4 = .ok (.iload_n 1, 1) := by decide +kernel
theorem dY_weight_5 : decode cY_weight 5 = .ok (.iaload, 1) := by decide +kernel
theorem dY_weight_6 : decode cY_weight 6 = .ok (.tableswitch 56 0 2 #[26, 37, 46], 26) := by decide +kernel
theorem dY_weight_32 : decode cY_weight 32 = .ok (.iconst 2, 1) := by decide +kernel
theorem dY_weight_33 : decode cY_weight 33 = .ok (.aload_n 0, 1) := by decide +kernel
theorem dY_weight_34 : decode cY_weight 34 = .ok (.getfield 13, 3) := by decide +kernel
theorem dY_weight_37 : decode cY_weight 37 = .ok (.iload_n 1, 1) := by decide +kernel
theorem dY_weight_38 : decode cY_weight 38 = .ok (.iaload, 1) := by decide +kernel
theorem dY_weight_39 : decode cY_weight 39 = .ok (.imul, 1) := by decide +kernel
theorem dY_weight_40 : decode cY_weight 40 = .ok (.iconst 1, 1) := by decide +kernel
theorem dY_weight_41 : decode cY_weight 41 = .ok (.iadd, 1) := by decide +kernel
theorem dY_weight_42 : decode cY_weight 42 = .ok (.ireturn, 1) := by decide +kernel
theorem dY_weight_43 : decode cY_weight 43 = .ok (.iconst 3, 1) := by decide +kernel
theorem dY_weight_44 : decode cY_weight 44 = .ok (.aload_n 0, 1) := by decide +kernel
theorem dY_weight_45 : decode cY_weight 45 = .ok (.getfield 13, 3) := by decide +kernel
theorem dY_weight_48 : decode cY_weight 48 = .ok (.iload_n 1, 1) := by decide +kernel
theorem dY_weight_49 : decode cY_weight 49 = .ok (.iaload, 1) := by decide +kernel
theorem dY_weight_50 : decode cY_weight 50 = .ok (.imul, 1) := by decide +kernel
theorem dY_weight_51 : decode cY_weight 51 = .ok (.ireturn, 1) := by decide +kernel
theorem dY_weight_52 : decode cY_weight 52 = .ok (.bipush 6, 2) := by decide +kernel
theorem dY_weight_54 : decode cY_weight 54 = .ok (.aload_n 0, 1) := by decide +kernel
theorem dY_weight_55 : decode cY_weight 55 = .ok (.getfield 13, 3) := by decide +kernel
theorem dY_weight_58 : decode cY_weight 58 = .ok (.iload_n 1, 1) := by decide +kernel
theorem dY_weight_59 : decode cY_weight 59 = .ok (.iaload, 1) := by decide +kernel
theorem dY_weight_60 : decode cY_weight 60 = .ok (.imul, 1) := by decide +kernel
theorem dY_weight_61 : decode cY_weight 61 = .ok (.ireturn, 1) := by decide +kernel
theorem dY_weight_62 : decode cY_weight 62 = .ok (.iconst 4, 1) := by decide +kernel
theorem dY_weight_63 : decode cY_weight 63 = .ok (.aload_n 0, 1) := by decide +kernel
theorem dY_weight_64 : decode cY_weight 64 = .ok (.getfield 13, 3) := by decide +kernel
theorem dY_weight_67 : decode cY_weight 67 = .ok (.iload_n 1, 1) := by decide +kernel
theorem dY_weight_68 : decode cY_weight 68 = .ok (.iaload, 1) := by decide +kernel
theorem dY_weight_69 : decode cY_weight 69 = .ok (.imul, 1) := by decide +kernel
theorem dY_weight_70 : decode cY_weight 70 = .ok (.iconst 1, 1) := by decide +kernel
theorem dY_weight_71 : decode cY_weight 71 = .ok (.iadd, 1) := by decide +kernel
theorem dY_weight_72 : decode cY_weight 72 = .ok (.ireturn, 1) := by decide +kernel
theorem dY_seed_0 : decode cY_seed 0 = .ok (.aload_n 0, 1) := by decide +kernel
theorem dY_seed_1 : decode cY_seed 1 = .ok (.getfield 7, 3) := by decide +kernel
theorem dY_seed_4 : decode cY_seed 4 = .ok (.iload_n 1, 1) := by decide +kernel
theorem dY_seed_5 : decode cY_seed 5 = .ok (.iaload, 1) := by decide +kernel
theorem dY_seed_6 : decode cY_seed 6 = .ok (.ifCond .ne 8, 3) := by decide +kernel
theorem dY_seed_9 : decode cY_seed 9 = .ok (.bipush 24, 2) := by decide +kernel
theorem dY_seed_11 : decode cY_seed 11 = .ok (.goto 26, 3) := by decide +kernel
theorem dY_seed_14 : decode cY_seed 14 = .ok (.aload_n 0, 1) := by decide +kernel
theorem dY_seed_15 : decode cY_seed 15 = .ok (.getfield 7, 3) := by decide +kernel
theorem dY_seed_18 : decode cY_seed 18 = .ok (.iload_n 1, 1) := by decide +kernel
theorem dY_seed_19 : decode cY_seed 19 = .ok (.iaload, 1) := by decide +kernel
theorem dY_seed_20 : decode cY_seed 20 = .ok (.iconst 2, 1) := by decide +kernel
theorem dY_seed_21 : decode cY_seed 21 = .ok (.if_icmp .ne 15, 3) := by decide +kernel
theorem dY_seed_24 : decode cY_seed 24 = .ok (.bipush 30, 2) := by decide +kernel
theorem dY_seed_26 : decode cY_seed 26 = .ok (.aload_n 0, 1) := by decide +kernel
theorem dY_seed_27 : decode cY_seed 27 = .ok (.getfield 13, 3) := by decide +kernel
theorem dY_seed_30 : decode cY_seed 30 = .ok (.iload_n 1, 1) := by decide +kernel
theorem dY_seed_31 : decode cY_seed 31 = .ok (.iaload, 1) := by decide +kernel
theorem dY_seed_32 : decode cY_seed 32 = .ok (.iadd, 1) := by decide +kernel
theorem dY_seed_33 : decode cY_seed 33 = .ok (.goto 4, 3) := by decide +kernel
theorem dY_seed_36 : decode cY_seed 36 = .ok (.iconst 1, 1) := by decide +kernel
theorem dY_seed_37 : decode cY_seed 37 = .ok (.ireturn, 1) := by decide +kernel
theorem dY_answer_0 : decode cY_answer 0 = .ok (.iload_n 3, 1) := by decide +kernel
theorem dY_answer_1 : decode cY_answer 1 = .ok (.tableswitch 178 0 10 #[59, 67, 75, 83, 89, 98, 104, 124, 140, 165, 171], 59) := by decide +kernel
theorem dY_answer_60 : decode cY_answer 60 = .ok (.aload_n 0, 1) := by decide +kernel
theorem dY_answer_61 : decode cY_answer 61 = .ok (.iload_n 1, 1) := by decide +kernel
theorem dY_answer_62 : decode cY_answer 62 = .ok (.iload 4, 2) := by decide +kernel
theorem dY_answer_64 : decode cY_answer 64 = .ok (.invokevirtual 70, 3) := by decide +kernel
theorem dY_answer_67 : decode cY_answer 67 = .ok (.ireturn, 1) := by decide +kernel
theorem dY_answer_68 : decode cY_answer 68 = .ok (.aload_n 0, 1) := by decide +kernel
theorem dY_answer_69 : decode cY_answer 69 = .ok (.iload_n 1, 1) := by decide +kernel
theorem dY_answer_70 : decode cY_answer 70 = .ok (.iload 4, 2) := by decide +kernel
theorem dY_answer_72 : decode cY_answer 72 = .ok (.invokevirtual 74, 3) := by decide +kernel
theorem dY_answer_75 : decode cY_answer 75 = .ok (.ireturn, 1) := by decide +kernel
theorem dY_answer_76 : decode cY_answer 76 = .ok (.aload_n 0, 1) := by decide +kernel
theorem dY_answer_77 : decode cY_answer 77 = .ok (.iload_n 1, 1) := by decide +kernel
theorem dY_answer_78 : decode cY_answer 78 = .ok (.iload 4, 2) := by decide +kernel
theorem dY_answer_80 : decode cY_answer 80 = .ok (.invokevirtual 77, 3) := by decide +kernel
theorem dY_answer_83 : decode cY_answer 83 = .ok (.ireturn, 1) := by decide +kernel
theorem dY_answer_84 : decode cY_answer 84 = .ok (.aload_n 0, 1) := by decide +kernel
theorem dY_answer_85 : decode cY_answer 85 = .ok (.iload_n 1, 1) := by decide +kernel
theorem dY_answer_86 : decode cY_answer 86 = .ok (.invokevirtual 80, 3) := by decide +kernel
theorem dY_answer_89 : decode cY_answer 89 = .ok (.ireturn, 1) := by decide +kernel
theorem dY_answer_90 : decode cY_answer 90 = .ok (.aload_n 0, 1) := by decide +kernel
theorem dY_answer_91 : decode cY_answer 91 = .ok (.iload_n 1, 1) := by decide +kernel
theorem dY_answer_92 : decode cY_answer 92 = .ok (.invokevirtual 80, 3) := by decide +kernel
theorem dY_answer_95 : decode cY_answer 95 = .ok (.bipush 100, 2) := by decide +kernel
theorem dY_answer_97 : decode cY_answer 97 = .ok (.iadd, 1) := by decide +kernel
theorem dY_answer_98 : decode cY_answer 98 = .ok (.ireturn, 1) := by decide +kernel
theorem dY_answer_99 : decode cY_answer 99 = .ok (.iload 4, 2) := by decide +kernel
theorem dY_answer_101 : decode cY_answer 101 = .ok (.bipush 100, 2) := by decide +kernel
theorem dY_answer_103 : decode cY_answer 103 = .ok (.iadd, 1) := by decide +kernel
theorem dY_answer_104 : decode cY_answer 104 = .ok (.ireturn, 1) := by decide +kernel
theorem dY_answer_105 : decode cY_answer 105 = .ok (.iload_n 2, 1) := by decide +kernel
theorem dY_answer_106 : decode cY_answer 106 = .ok (.iconst 3, 1) := by decide +kernel
theorem dY_answer_107 : decode cY_answer 107 = .ok (.if_icmp .ne 7, 3) := by decide +kernel
theorem dY_answer_110 : decode cY_answer 110 = .ok (.iconst 1, 1) := by decide +kernel
theorem dY_answer_111 : decode cY_answer 111 = .ok (.goto 13, 3) := by decide +kernel
theorem dY_answer_114 : decode cY_answer 114 = .ok (.iload_n 2, 1) := by decide +kernel
theorem dY_answer_115 : decode cY_answer 115 = .ok (.iconst 4, 1) := by decide +kernel
theorem dY_answer_116 : decode cY_answer 116 = .ok (.if_icmp .ne 7, 3) := by decide +kernel
theorem dY_answer_119 : decode cY_answer 119 = .ok (.iconst 2, 1) := by decide +kernel
theorem dY_answer_120 : decode cY_answer 120 = .ok (.goto 4, 3) := by decide +kernel
theorem dY_answer_123 : decode cY_answer 123 = .ok (.iconst 3, 1) := by decide +kernel
theorem dY_answer_124 : decode cY_answer 124 = .ok (.ireturn, 1) := by decide +kernel
theorem dY_answer_125 : decode cY_answer 125 = .ok (.iload_n 2, 1) := by decide +kernel
theorem dY_answer_126 : decode cY_answer 126 = .ok (.ifCond .eq 8, 3) := by decide +kernel
theorem dY_answer_129 : decode cY_answer 129 = .ok (.iload_n 2, 1) := by decide +kernel
theorem dY_answer_130 : decode cY_answer 130 = .ok (.iconst 2, 1) := by decide +kernel
theorem dY_answer_131 : decode cY_answer 131 = .ok (.if_icmp .ne 7, 3) := by decide +kernel
theorem dY_answer_134 : decode cY_answer 134 = .ok (.iconst 5, 1) := by decide +kernel
theorem dY_answer_135 : decode cY_answer 135 = .ok (.goto 5, 3) := by decide +kernel
theorem dY_answer_138 : decode cY_answer 138 = .ok (.bipush 7, 2) := by decide +kernel
theorem dY_answer_140 : decode cY_answer 140 = .ok (.ireturn, 1) := by decide +kernel
theorem dY_answer_141 : decode cY_answer 141 = .ok (.iload 4, 2) := by decide +kernel
theorem dY_answer_143 : decode cY_answer 143 = .ok (.iload_n 2, 1) := by decide +kernel
theorem dY_answer_144 : decode cY_answer 144 = .ok (.iconst 4, 1) := by decide +kernel
theorem dY_answer_145 : decode cY_answer 145 = .ok (.if_icmp .ne 7, 3) := by decide +kernel
theorem dY_answer_148 : decode cY_answer 148 = .ok (.iconst 2, 1) := by decide +kernel
theorem dY_answer_149 : decode cY_answer 149 = .ok (.goto 15, 3) := by decide +kernel
theorem dY_answer_152 : decode cY_answer 152 = .ok (.iload_n 2, 1) := by decide +kernel
theorem dY_answer_153 : decode cY_answer 153 = .ok (.bipush 6, 2) := by decide +kernel
theorem dY_answer_155 : decode cY_answer 155 = .ok (.if_icmp .ne 8, 3) := by decide +kernel
theorem dY_answer_158 : decode cY_answer 158 = .ok (.bipush 6, 2) := by decide +kernel
theorem dY_answer_160 : decode cY_answer 160 = .ok (.goto 4, 3) := by decide +kernel
theorem dY_answer_163 : decode cY_answer 163 = .ok (.iconst 1, 1) := by decide +kernel
theorem dY_answer_164 : decode cY_answer 164 = .ok (.iadd, 1) := by decide +kernel
theorem dY_answer_165 : decode cY_answer 165 = .ok (.ireturn, 1) := by decide +kernel
theorem dY_answer_166 : decode cY_answer 166 = .ok (.aload_n 0, 1) := by decide +kernel
theorem dY_answer_167 : decode cY_answer 167 = .ok (.iload_n 1, 1) := by decide +kernel
theorem dY_answer_168 : decode cY_answer 168 = .ok (.invokevirtual 64, 3) := by decide +kernel
theorem dY_answer_171 : decode cY_answer 171 = .ok (.ireturn, 1) := by decide +kernel
theorem dY_answer_172 : decode cY_answer 172 = .ok (.aload_n 0, 1) := by decide +kernel
theorem dY_answer_173 : decode cY_answer 173 = .ok (.getfield 13, 3) := by decide +kernel
theorem dY_answer_176 : decode cY_answer 176 = .ok (.iload_n 1, 1) := by decide +kernel
theorem dY_answer_177 : decode cY_answer 177 = .ok (.iaload, 1) := by decide +kernel
theorem dY_answer_178 : decode cY_answer 178 = .ok (.ireturn, 1) := by decide +kernel
theorem dY_answer_179 : decode cY_answer 179 = .ok (.aload_n 0, 1) := by decide +kernel
theorem dY_answer_180 : decode cY_answer 180 = .ok (.getfield 7, 3) := by decide +kernel
theorem dY_answer_183 : decode cY_answer 183 = .ok (.iload_n 1, 1) := by decide +kernel
theorem dY_answer_184 : decode cY_answer 184 = .ok (.iaload, 1) := by decide +kernel
theorem dY_answer_185 : decode cY_answer 185 = .ok (.ifCond .ne 14, 3) := by decide +kernel
theorem dY_answer_188 : decode cY_answer 188 = .ok (.iconst 2, 1) := by decide +kernel
theorem dY_answer_189 : decode cY_answer 189 = .ok (.aload_n 0, 1) := by decide +kernel
theorem dY_answer_190 : decode cY_answer 190 = .ok (.getfield 13, 3) := by decide +kernel
theorem dY_answer_193 : decode cY_answer 193 = .ok (.iload_n 1, 1) := by decide +kernel
theorem dY_answer_194 : decode cY_answer 194 = .ok (.iaload, 1) := by decide +kernel
theorem dY_answer_195 : decode cY_answer 195 = .ok (.imul, 1) := by decide +kernel
theorem dY_answer_196 : decode cY_answer 196 = .ok (.goto 11, 3) := by decide +kernel
theorem dY_answer_199 : decode cY_answer 199 = .ok (.iconst 3, 1) := by decide +kernel
theorem dY_answer_200 : decode cY_answer 200 = .ok (.aload_n 0, 1) := by decide +kernel
theorem dY_answer_201 : decode cY_answer 201 = .ok (.getfield 13, 3) := by decide +kernel
theorem dY_answer_204 : decode cY_answer 204 = .ok (.iload_n 1, 1) := by decide +kernel
theorem dY_answer_205 : decode cY_answer 205 = .ok (.iaload, 1) := by decide +kernel
theorem dY_answer_206 : decode cY_answer 206 = .ok (.imul, 1) := by decide +kernel
theorem dY_answer_207 : decode cY_answer 207 = .ok (.ireturn, 1) := by decide +kernel
theorem dY_probe_0 : decode cY_probe 0 = .ok (.iload_n 1, 1) := by decide +kernel
theorem dY_probe_1 : decode cY_probe 1 = .ok (.iconst 0, 1) := by decide +kernel
theorem dY_probe_2 : decode cY_probe 2 = .ok (.bipush 7, 2) := by decide +kernel
theorem dY_probe_4 : decode cY_probe 4 = .ok (.invokestatic 48, 3) := by decide +kernel
theorem dY_probe_7 : decode cY_probe 7 = .ok (.ifCond .eq 46, 3) := by decide +kernel
theorem dY_probe_10 : decode cY_probe 10 = .ok (.iload_n 2, 1) := by decide +kernel
theorem dY_probe_11 : decode cY_probe 11 = .ok (.iconst 0, 1) := by decide +kernel
theorem dY_probe_12 : decode cY_probe 12 = .ok (.bipush 8, 2) := by decide +kernel
theorem dY_probe_14 : decode cY_probe 14 = .ok (.invokestatic 48, 3) := by decide +kernel
theorem dY_probe_17 : decode cY_probe 17 = .ok (.ifCond .eq 36, 3) := by decide +kernel
theorem dY_probe_20 : decode cY_probe 20 = .ok (.iload_n 3, 1) := by decide +kernel
theorem dY_probe_21 : decode cY_probe 21 = .ok (.iconst 0, 1) := by decide +kernel
theorem dY_probe_22 : decode cY_probe 22 = .ok (.bipush 11, 2) := by decide +kernel
theorem dY_probe_24 : decode cY_probe 24 = .ok (.invokestatic 48, 3) := by decide +kernel
theorem dY_probe_27 : decode cY_probe 27 = .ok (.ifCond .eq 26, 3) := by decide +kernel
theorem dY_probe_30 : decode cY_probe 30 = .ok (.iload 5, 2) := by decide +kernel
theorem dY_probe_32 : decode cY_probe 32 = .ok (.iconst 0, 1) := by decide +kernel
theorem dY_probe_33 : decode cY_probe 33 = .ok (.iconst 3, 1) := by decide +kernel
theorem dY_probe_34 : decode cY_probe 34 = .ok (.invokestatic 48, 3) := by decide +kernel
theorem dY_probe_37 : decode cY_probe 37 = .ok (.ifCond .eq 16, 3) := by decide +kernel
theorem dY_probe_40 : decode cY_probe 40 = .ok (.aload_n 0, 1) := by decide +kernel
theorem dY_probe_41 : decode cY_probe 41 = .ok (.getfield 35, 3) := by decide +kernel
theorem dY_probe_44 : decode cY_probe 44 = .ok (.iload_n 2, 1) := by decide +kernel
theorem dY_probe_45 : decode cY_probe 45 = .ok (.iaload, 1) := by decide +kernel
theorem dY_probe_46 : decode cY_probe 46 = .ok (.iload_n 3, 1) := by decide +kernel
theorem dY_probe_47 : decode cY_probe 47 = .ok (.ishr, 1) := by decide +kernel
theorem dY_probe_48 : decode cY_probe 48 = .ok (.iconst 1, 1) := by decide +kernel
theorem dY_probe_49 : decode cY_probe 49 = .ok (.iand, 1) := by decide +kernel
theorem dY_probe_50 : decode cY_probe 50 = .ok (.ifCond .ne 5, 3) := by decide +kernel
theorem dY_probe_53 : decode cY_probe 53 = .ok (.iconst (-1), 1) := by decide +kernel
theorem dY_probe_54 : decode cY_probe 54 = .ok (.ireturn, 1) := by decide +kernel
theorem dY_probe_55 : decode cY_probe 55 = .ok (.iload_n 3, 1) := by decide +kernel
theorem dY_probe_56 : decode cY_probe 56 = .ok (.bipush 7, 2) := by decide +kernel
theorem dY_probe_58 : decode cY_probe 58 = .ok (.if_icmp .eq 13, 3) := by decide +kernel
theorem dY_probe_61 : decode cY_probe 61 = .ok (.iload_n 3, 1) := by decide +kernel
theorem dY_probe_62 : decode cY_probe 62 = .ok (.bipush 8, 2) := by decide +kernel
theorem dY_probe_64 : decode cY_probe 64 = .ok (.if_icmp .eq 7, 3) := by decide +kernel
theorem dY_probe_67 : decode cY_probe 67 = .ok (.iconst 1, 1) := by decide +kernel
theorem dY_probe_68 : decode cY_probe 68 = .ok (.goto 4, 3) := by decide +kernel
theorem dY_probe_71 : decode cY_probe 71 = .ok (.iconst 0, 1) := by decide +kernel
theorem dY_probe_72 : decode cY_probe 72 = .ok (.istore 6, 2) := by decide +kernel
theorem dY_probe_74 : decode cY_probe 74 = .ok (.iload 6, 2) := by decide +kernel
theorem dY_probe_76 : decode cY_probe 76 = .ok (.ifCond .eq 14, 3) := by decide +kernel
theorem dY_probe_79 : decode cY_probe 79 = .ok (.aload_n 0, 1) := by decide +kernel
theorem dY_probe_80 : decode cY_probe 80 = .ok (.getfield 23, 3) := by decide +kernel
theorem dY_probe_83 : decode cY_probe 83 = .ok (.iload_n 1, 1) := by decide +kernel
theorem dY_probe_84 : decode cY_probe 84 = .ok (.iaload, 1) := by decide +kernel
theorem dY_probe_85 : decode cY_probe 85 = .ok (.ifCond .ne 5, 3) := by decide +kernel
theorem dY_probe_88 : decode cY_probe 88 = .ok (.iconst 2, 1) := by decide +kernel
theorem dY_probe_89 : decode cY_probe 89 = .ok (.ireturn, 1) := by decide +kernel
theorem dY_probe_90 : decode cY_probe 90 = .ok (.iload 6, 2) := by decide +kernel
theorem dY_probe_92 : decode cY_probe 92 = .ok (.ifCond .eq 19, 3) := by decide +kernel
theorem dY_probe_95 : decode cY_probe 95 = .ok (.aload_n 0, 1) := by decide +kernel
theorem dY_probe_96 : decode cY_probe 96 = .ok (.aload_n 0, 1) := by decide +kernel
theorem dY_probe_97 : decode cY_probe 97 = .ok (.getfield 23, 3) := by decide +kernel
theorem dY_probe_100 : decode cY_probe 100 = .ok (.iload_n 1, 1) := by decide +kernel
theorem dY_probe_101 : decode cY_probe 101 = .ok (.iaload, 1) := by decide +kernel
theorem dY_probe_102 : decode cY_probe 102 = .ok (.iload_n 2, 1) := by decide +kernel
theorem dY_probe_103 : decode cY_probe 103 = .ok (.invokevirtual 60, 3) := by decide +kernel
theorem dY_probe_106 : decode cY_probe 106 = .ok (.ifCond .ne 5, 3) := by decide +kernel
theorem dY_probe_109 : decode cY_probe 109 = .ok (.iconst 1, 1) := by decide +kernel
theorem dY_probe_110 : decode cY_probe 110 = .ok (.ireturn, 1) := by decide +kernel
theorem dY_probe_111 : decode cY_probe 111 = .ok (.aload_n 0, 1) := by decide +kernel
theorem dY_probe_112 : decode cY_probe 112 = .ok (.aload_n 0, 1) := by decide +kernel
theorem dY_probe_113 : decode cY_probe 113 = .ok (.aload_n 0, 1) := by decide +kernel
theorem dY_probe_114 : decode cY_probe 114 = .ok (.getfield 23, 3) := by decide +kernel
theorem dY_probe_117 : decode cY_probe 117 = .ok (.iload_n 1, 1) := by decide +kernel
theorem dY_probe_118 : decode cY_probe 118 = .ok (.iaload, 1) := by decide +kernel
theorem dY_probe_119 : decode cY_probe 119 = .ok (.iload_n 2, 1) := by decide +kernel
theorem dY_probe_120 : decode cY_probe 120 = .ok (.iload_n 3, 1) := by decide +kernel
theorem dY_probe_121 : decode cY_probe 121 = .ok (.iload 4, 2) := by decide +kernel
theorem dY_probe_123 : decode cY_probe 123 = .ok (.invokevirtual 83, 3) := by decide +kernel
theorem dY_probe_126 : decode cY_probe 126 = .ok (.putfield 86, 3) := by decide +kernel
theorem dY_probe_129 : decode cY_probe 129 = .ok (.iconst 0, 1) := by decide +kernel
theorem dY_probe_130 : decode cY_probe 130 = .ok (.ireturn, 1) := by decide +kernel
theorem dY_value_0 : decode cY_value 0 = .ok (.aload_n 0, 1) := by decide +kernel
theorem dY_value_1 : decode cY_value 1 = .ok (.getfield 86, 3) := by decide +kernel
theorem dY_value_4 : decode cY_value 4 = .ok (.ireturn, 1) := by decide +kernel
theorem dY_is__0 : decode cY_is_ 0 = .ok (.iload_n 1, 1) := by decide +kernel
theorem dY_is__1 : decode cY_is_ 1 = .ok (.iconst 0, 1) := by decide +kernel
theorem dY_is__2 : decode cY_is_ 2 = .ok (.bipush 7, 2) := by decide +kernel
theorem dY_is__4 : decode cY_is_ 4 = .ok (.invokestatic 48, 3) := by decide +kernel
theorem dY_is__7 : decode cY_is_ 7 = .ok (.ifCond .eq 31, 3) := by decide +kernel
theorem dY_is__10 : decode cY_is_ 10 = .ok (.iload_n 2, 1) := by decide +kernel
theorem dY_is__11 : decode cY_is_ 11 = .ok (.iconst 0, 1) := by decide +kernel
theorem dY_is__12 : decode cY_is_ 12 = .ok (.bipush 8, 2) := by decide +kernel
theorem dY_is__14 : decode cY_is_ 14 = .ok (.invokestatic 48, 3) := by decide +kernel
theorem dY_is__17 : decode cY_is_ 17 = .ok (.ifCond .eq 21, 3) := by decide +kernel
theorem dY_is__20 : decode cY_is_ 20 = .ok (.aload_n 0, 1) := by decide +kernel
theorem dY_is__21 : decode cY_is_ 21 = .ok (.aload_n 0, 1) := by decide +kernel
theorem dY_is__22 : decode cY_is_ 22 = .ok (.getfield 23, 3) := by decide +kernel
theorem dY_is__25 : decode cY_is_ 25 = .ok (.iload_n 1, 1) := by decide +kernel
theorem dY_is__26 : decode cY_is_ 26 = .ok (.iaload, 1) := by decide +kernel
theorem dY_is__27 : decode cY_is_ 27 = .ok (.iload_n 2, 1) := by decide +kernel
theorem dY_is__28 : decode cY_is_ 28 = .ok (.invokevirtual 60, 3) := by decide +kernel
theorem dY_is__31 : decode cY_is_ 31 = .ok (.ifCond .eq 7, 3) := by decide +kernel
theorem dY_is__34 : decode cY_is_ 34 = .ok (.iconst 1, 1) := by decide +kernel
theorem dY_is__35 : decode cY_is_ 35 = .ok (.goto 4, 3) := by decide +kernel
theorem dY_is__38 : decode cY_is_ 38 = .ok (.iconst 0, 1) := by decide +kernel
theorem dY_is__39 : decode cY_is_ 39 = .ok (.ireturn, 1) := by decide +kernel
theorem dY_same_0 : decode cY_same 0 = .ok (.iload_n 1, 1) := by decide +kernel
theorem dY_same_1 : decode cY_same 1 = .ok (.iconst 0, 1) := by decide +kernel
theorem dY_same_2 : decode cY_same 2 = .ok (.bipush 7, 2) := by decide +kernel
theorem dY_same_4 : decode cY_same 4 = .ok (.invokestatic 48, 3) := by decide +kernel
theorem dY_same_7 : decode cY_same 7 = .ok (.ifCond .eq 32, 3) := by decide +kernel
theorem dY_same_10 : decode cY_same 10 = .ok (.iload_n 2, 1) := by decide +kernel
theorem dY_same_11 : decode cY_same 11 = .ok (.iconst 0, 1) := by decide +kernel
theorem dY_same_12 : decode cY_same 12 = .ok (.bipush 7, 2) := by decide +kernel
theorem dY_same_14 : decode cY_same 14 = .ok (.invokestatic 48, 3) := by decide +kernel
theorem dY_same_17 : decode cY_same 17 = .ok (.ifCond .eq 22, 3) := by decide +kernel
theorem dY_same_20 : decode cY_same 20 = .ok (.aload_n 0, 1) := by decide +kernel
theorem dY_same_21 : decode cY_same 21 = .ok (.getfield 23, 3) := by decide +kernel
theorem dY_same_24 : decode cY_same 24 = .ok (.iload_n 1, 1) := by decide +kernel
theorem dY_same_25 : decode cY_same 25 = .ok (.iaload, 1) := by decide +kernel
theorem dY_same_26 : decode cY_same 26 = .ok (.aload_n 0, 1) := by decide +kernel
theorem dY_same_27 : decode cY_same 27 = .ok (.getfield 23, 3) := by decide +kernel
theorem dY_same_30 : decode cY_same 30 = .ok (.iload_n 2, 1) := by decide +kernel
theorem dY_same_31 : decode cY_same 31 = .ok (.iaload, 1) := by decide +kernel
theorem dY_same_32 : decode cY_same 32 = .ok (.if_icmp .ne 7, 3) := by decide +kernel
theorem dY_same_35 : decode cY_same 35 = .ok (.iconst 1, 1) := by decide +kernel
theorem dY_same_36 : decode cY_same 36 = .ok (.goto 4, 3) := by decide +kernel
theorem dY_same_39 : decode cY_same 39 = .ok (.iconst 0, 1) := by decide +kernel
theorem dY_same_40 : decode cY_same 40 = .ok (.ireturn, 1) := by decide +kernel
theorem dY_fits_0 : decode cY_fits 0 = .ok (.iload_n 1, 1) := by decide +kernel
theorem dY_fits_1 : decode cY_fits 1 = .ok (.ifCond .eq 38, 3) := by decide +kernel
theorem dY_fits_4 : decode cY_fits 4 = .ok (.aload_n 0, 1) := by decide +kernel
theorem dY_fits_5 : decode cY_fits 5 = .ok (.iload_n 1, 1) := by decide +kernel
theorem dY_fits_6 : decode cY_fits 6 = .ok (.iload_n 2, 1) := by decide +kernel
theorem dY_fits_7 : decode cY_fits 7 = .ok (.ifCond .ne 7, 3) := by decide +kernel
theorem dY_fits_10 : decode cY_fits 10 = .ok (.iconst 0, 1) := by decide +kernel
theorem dY_fits_11 : decode cY_fits 11 = .ok (.goto 22, 3) := by decide +kernel
theorem dY_fits_14 : decode cY_fits 14 = .ok (.iload_n 2, 1) := by decide +kernel
theorem dY_fits_15 : decode cY_fits 15 = .ok (.iconst 1, 1) := by decide +kernel
theorem dY_fits_16 : decode cY_fits 16 = .ok (.if_icmp .ne 7, 3) := by decide +kernel
theorem dY_fits_19 : decode cY_fits 19 = .ok (.iconst 3, 1) := by decide +kernel
theorem dY_fits_20 : decode cY_fits 20 = .ok (.goto 13, 3) := by decide +kernel
theorem dY_fits_23 : decode cY_fits 23 = .ok (.iload_n 2, 1) := by decide +kernel
theorem dY_fits_24 : decode cY_fits 24 = .ok (.iconst 2, 1) := by decide +kernel
theorem dY_fits_25 : decode cY_fits 25 = .ok (.if_icmp .ne 7, 3) := by decide +kernel
theorem dY_fits_28 : decode cY_fits 28 = .ok (.iconst 5, 1) := by decide +kernel
theorem dY_fits_29 : decode cY_fits 29 = .ok (.goto 4, 3) := by decide +kernel
theorem dY_fits_32 : decode cY_fits 32 = .ok (.iconst 4, 1) := by decide +kernel
theorem dY_fits_33 : decode cY_fits 33 = .ok (.invokevirtual 60, 3) := by decide +kernel
theorem dY_fits_36 : decode cY_fits 36 = .ok (.ifCond .eq 7, 3) := by decide +kernel
theorem dY_fits_39 : decode cY_fits 39 = .ok (.iconst 1, 1) := by decide +kernel
theorem dY_fits_40 : decode cY_fits 40 = .ok (.goto 4, 3) := by decide +kernel
theorem dY_fits_43 : decode cY_fits 43 = .ok (.iconst 0, 1) := by decide +kernel
theorem dY_fits_44 : decode cY_fits 44 = .ok (.ireturn, 1) := by decide +kernel
theorem dY_store_0 : decode cY_store 0 = .ok (.iload_n 1, 1) := by decide +kernel
theorem dY_store_1 : decode cY_store 1 = .ok (.iconst 0, 1) := by decide +kernel
theorem dY_store_2 : decode cY_store 2 = .ok (.iconst 3, 1) := by decide +kernel
theorem dY_store_3 : decode cY_store 3 = .ok (.invokestatic 48, 3) := by decide +kernel
theorem dY_store_6 : decode cY_store 6 = .ok (.ifCond .eq 13, 3) := by decide +kernel
theorem dY_store_9 : decode cY_store 9 = .ok (.iload_n 3, 1) := by decide +kernel
theorem dY_store_10 : decode cY_store 10 = .ok (.iconst 0, 1) := by decide +kernel
theorem dY_store_11 : decode cY_store 11 = .ok (.bipush 7, 2) := by decide +kernel
theorem dY_store_13 : decode cY_store 13 = .ok (.invokestatic 48, 3) := by decide +kernel
theorem dY_store_16 : decode cY_store 16 = .ok (.ifCond .ne 5, 3) := by decide +kernel
theorem dY_store_19 : decode cY_store 19 = .ok (.iconst (-1), 1) := by decide +kernel
theorem dY_store_20 : decode cY_store 20 = .ok (.ireturn, 1) := by decide +kernel
theorem dY_store_21 : decode cY_store 21 = .ok (.iload_n 2, 1) := by decide +kernel
theorem dY_store_22 : decode cY_store 22 = .ok (.iconst 0, 1) := by decide +kernel
theorem dY_store_23 : decode cY_store 23 = .ok (.iconst 3, 1) := by decide +kernel
theorem dY_store_24 : decode cY_store 24 = .ok (.invokestatic 48, 3) := by decide +kernel
theorem dY_store_27 : decode cY_store 27 = .ok (.ifCond .ne 5, 3) := by decide +kernel
theorem dY_store_30 : decode cY_store 30 = .ok (.iconst 4, 1) := by decide +kernel
theorem dY_store_31 : decode cY_store 31 = .ok (.ireturn, 1) := by decide +kernel
theorem dY_store_32 : decode cY_store 32 = .ok (.aload_n 0, 1) := by decide +kernel
theorem dY_store_33 : decode cY_store 33 = .ok (.aload_n 0, 1) := by decide +kernel
theorem dY_store_34 : decode cY_store 34 = .ok (.getfield 23, 3) := by decide +kernel
theorem dY_store_37 : decode cY_store 37 = .ok (.iload_n 3, 1) := by decide +kernel
theorem dY_store_38 : decode cY_store 38 = .ok (.iaload, 1) := by decide +kernel
theorem dY_store_39 : decode cY_store 39 = .ok (.iload_n 1, 1) := by decide +kernel
theorem dY_store_40 : decode cY_store 40 = .ok (.invokevirtual 89, 3) := by decide +kernel
theorem dY_store_43 : decode cY_store 43 = .ok (.ifCond .ne 5, 3) := by decide +kernel
theorem dY_store_46 : decode cY_store 46 = .ok (.iconst 3, 1) := by decide +kernel
theorem dY_store_47 : decode cY_store 47 = .ok (.ireturn, 1) := by decide +kernel
theorem dY_store_48 : decode cY_store 48 = .ok (.aload_n 0, 1) := by decide +kernel
theorem dY_store_49 : decode cY_store 49 = .ok (.getfield 26, 3) := by decide +kernel
theorem dY_store_52 : decode cY_store 52 = .ok (.iconst 4, 1) := by decide +kernel
theorem dY_store_53 : decode cY_store 53 = .ok (.iload_n 1, 1) := by decide +kernel
theorem dY_store_54 : decode cY_store 54 = .ok (.imul, 1) := by decide +kernel
theorem dY_store_55 : decode cY_store 55 = .ok (.iload_n 2, 1) := by decide +kernel
theorem dY_store_56 : decode cY_store 56 = .ok (.iadd, 1) := by decide +kernel
theorem dY_store_57 : decode cY_store 57 = .ok (.aload_n 0, 1) := by decide +kernel
theorem dY_store_58 : decode cY_store 58 = .ok (.getfield 23, 3) := by decide +kernel
theorem dY_store_61 : decode cY_store 61 = .ok (.iload_n 3, 1) := by decide +kernel
theorem dY_store_62 : decode cY_store 62 = .ok (.iaload, 1) := by decide +kernel
theorem dY_store_63 : decode cY_store 63 = .ok (.iastore, 1) := by decide +kernel
theorem dY_store_64 : decode cY_store 64 = .ok (.iconst 0, 1) := by decide +kernel
theorem dY_store_65 : decode cY_store 65 = .ok (.ireturn, 1) := by decide +kernel
theorem dY_load_0 : decode cY_load 0 = .ok (.iload_n 1, 1) := by decide +kernel
theorem dY_load_1 : decode cY_load 1 = .ok (.iconst 0, 1) := by decide +kernel
theorem dY_load_2 : decode cY_load 2 = .ok (.iconst 3, 1) := by decide +kernel
theorem dY_load_3 : decode cY_load 3 = .ok (.invokestatic 48, 3) := by decide +kernel
theorem dY_load_6 : decode cY_load 6 = .ok (.ifCond .eq 13, 3) := by decide +kernel
theorem dY_load_9 : decode cY_load 9 = .ok (.iload_n 3, 1) := by decide +kernel
theorem dY_load_10 : decode cY_load 10 = .ok (.iconst 0, 1) := by decide +kernel
theorem dY_load_11 : decode cY_load 11 = .ok (.bipush 7, 2) := by decide +kernel
theorem dY_load_13 : decode cY_load 13 = .ok (.invokestatic 48, 3) := by decide +kernel
theorem dY_load_16 : decode cY_load 16 = .ok (.ifCond .ne 5, 3) := by decide +kernel
theorem dY_load_19 : decode cY_load 19 = .ok (.iconst (-1), 1) := by decide +kernel
theorem dY_load_20 : decode cY_load 20 = .ok (.ireturn, 1) := by decide +kernel
theorem dY_load_21 : decode cY_load 21 = .ok (.iload_n 2, 1) := by decide +kernel
theorem dY_load_22 : decode cY_load 22 = .ok (.iconst 0, 1) := by decide +kernel
theorem dY_load_23 : decode cY_load 23 = .ok (.iconst 3, 1) := by decide +kernel
theorem dY_load_24 : decode cY_load 24 = .ok (.invokestatic 48, 3) := by decide +kernel
theorem dY_load_27 : decode cY_load 27 = .ok (.ifCond .ne 5, 3) := by decide +kernel
theorem dY_load_30 : decode cY_load 30 = .ok (.iconst 4, 1) := by decide +kernel
theorem dY_load_31 : decode cY_load 31 = .ok (.ireturn, 1) := by decide +kernel
theorem dY_load_32 : decode cY_load 32 = .ok (.aload_n 0, 1) := by decide +kernel
theorem dY_load_33 : decode cY_load 33 = .ok (.getfield 23, 3) := by decide +kernel
theorem dY_load_36 : decode cY_load 36 = .ok (.iload_n 3, 1) := by decide +kernel
theorem dY_load_37 : decode cY_load 37 = .ok (.aload_n 0, 1) := by decide +kernel
theorem dY_load_38 : decode cY_load 38 = .ok (.getfield 26, 3) := by decide +kernel
theorem dY_load_41 : decode cY_load 41 = .ok (.iconst 4, 1) := by decide +kernel
theorem dY_load_42 : decode cY_load 42 = .ok (.iload_n 1, 1) := by decide +kernel
theorem dY_load_43 : decode cY_load 43 = .ok (.imul, 1) := by decide +kernel
theorem dY_load_44 : decode cY_load 44 = .ok (.iload_n 2, 1) := by decide +kernel
theorem dY_load_45 : decode cY_load 45 = .ok (.iadd, 1) := by decide +kernel
theorem dY_load_46 : decode cY_load 46 = .ok (.iaload, 1) := by decide +kernel
theorem dY_load_47 : decode cY_load 47 = .ok (.iastore, 1) := by decide +kernel
theorem dY_load_48 : decode cY_load 48 = .ok (.iconst 0, 1) := by decide +kernel
theorem dY_load_49 : decode cY_load 49 = .ok (.ireturn, 1) := by decide +kernel
theorem dY_copy_0 : decode cY_copy 0 = .ok (.iload_n 1, 1) := by decide +kernel
theorem dY_copy_1 : decode cY_copy 1 = .ok (.iconst 0, 1) := by decide +kernel
theorem dY_copy_2 : decode cY_copy 2 = .ok (.iconst 3, 1) := by decide +kernel
theorem dY_copy_3 : decode cY_copy 3 = .ok (.invokestatic 48, 3) := by decide +kernel
theorem dY_copy_6 : decode cY_copy 6 = .ok (.ifCond .eq 12, 3) := by decide +kernel
theorem dY_copy_9 : decode cY_copy 9 = .ok (.iload_n 3, 1) := by decide +kernel
theorem dY_copy_10 : decode cY_copy 10 = .ok (.iconst 0, 1) := by decide +kernel
theorem dY_copy_11 : decode cY_copy 11 = .ok (.iconst 3, 1) := by decide +kernel
theorem dY_copy_12 : decode cY_copy 12 = .ok (.invokestatic 48, 3) := by decide +kernel
theorem dY_copy_15 : decode cY_copy 15 = .ok (.ifCond .ne 5, 3) := by decide +kernel
theorem dY_copy_18 : decode cY_copy 18 = .ok (.iconst (-1), 1) := by decide +kernel
theorem dY_copy_19 : decode cY_copy 19 = .ok (.ireturn, 1) := by decide +kernel
theorem dY_copy_20 : decode cY_copy 20 = .ok (.iload_n 2, 1) := by decide +kernel
theorem dY_copy_21 : decode cY_copy 21 = .ok (.ifCond .lt 40, 3) := by decide +kernel
theorem dY_copy_24 : decode cY_copy 24 = .ok (.iload 4, 2) := by decide +kernel
theorem dY_copy_26 : decode cY_copy 26 = .ok (.ifCond .lt 35, 3) := by decide +kernel
theorem dY_copy_29 : decode cY_copy 29 = .ok (.iload 5, 2) := by decide +kernel
theorem dY_copy_31 : decode cY_copy 31 = .ok (.ifCond .lt 30, 3) := by decide +kernel
theorem dY_copy_34 : decode cY_copy 34 = .ok (.iload_n 2, 1) := by decide +kernel
theorem dY_copy_35 : decode cY_copy 35 = .ok (.i2l, 1) := by decide +kernel
theorem dY_copy_36 : decode cY_copy 36 = .ok (.iload 5, 2) := by decide +kernel
theorem dY_copy_38 : decode cY_copy 38 = .ok (.i2l, 1) := by decide +kernel
theorem dY_copy_39 : decode cY_copy 39 = .ok (.ladd, 1) := by decide +kernel
theorem dY_copy_40 : decode cY_copy 40 = .ok (.ldc2_w 92, 3) := by decide +kernel
theorem dY_copy_43 : decode cY_copy 43 = .ok (.lcmp, 1) := by decide +kernel
theorem dY_copy_44 : decode cY_copy 44 = .ok (.ifCond .gt 17, 3) := by decide +kernel
theorem dY_copy_47 : decode cY_copy 47 = .ok (.iload 4, 2) := by decide +kernel
theorem dY_copy_49 : decode cY_copy 49 = .ok (.i2l, 1) := by decide +kernel
theorem dY_copy_50 : decode cY_copy 50 = .ok (.iload 5, 2) := by decide +kernel
theorem dY_copy_52 : decode cY_copy 52 = .ok (.i2l, 1) := by decide +kernel
theorem dY_copy_53 : decode cY_copy 53 = .ok (.ladd, 1) := by decide +kernel
theorem dY_copy_54 : decode cY_copy 54 = .ok (.ldc2_w 92, 3) := by decide +kernel
theorem dY_copy_57 : decode cY_copy 57 = .ok (.lcmp, 1) := by decide +kernel
theorem dY_copy_58 : decode cY_copy 58 = .ok (.ifCond .le 5, 3) := by decide +kernel
theorem dY_copy_61 : decode cY_copy 61 = .ok (.iconst 4, 1) := by decide +kernel
theorem dY_copy_62 : decode cY_copy 62 = .ok (.ireturn, 1) := by decide +kernel
theorem dY_copy_63 : decode cY_copy 63 = .ok (.iconst 0, 1) := by decide +kernel
theorem dY_copy_64 : decode cY_copy 64 = .ok (.istore 6, 2) := by decide +kernel
theorem dY_copy_66 : decode cY_copy 66 = .ok (.iload 6, 2) := by decide +kernel
theorem dY_copy_68 : decode cY_copy 68 = .ok (.iconst 4, 1) := by decide +kernel
theorem dY_copy_69 : decode cY_copy 69 = .ok (.if_icmp .ge 27, 3) := by decide +kernel
theorem dY_copy_72 : decode cY_copy 72 = .ok (.aload_n 0, 1) := by decide +kernel
theorem dY_copy_73 : decode cY_copy 73 = .ok (.getfield 29, 3) := by decide +kernel
theorem dY_copy_76 : decode cY_copy 76 = .ok (.iload 6, 2) := by decide +kernel
theorem dY_copy_78 : decode cY_copy 78 = .ok (.aload_n 0, 1) := by decide +kernel
theorem dY_copy_79 : decode cY_copy 79 = .ok (.getfield 26, 3) := by decide +kernel
theorem dY_copy_82 : decode cY_copy 82 = .ok (.iconst 4, 1) := by decide +kernel
theorem dY_copy_83 : decode cY_copy 83 = .ok (.iload_n 1, 1) := by decide +kernel
theorem dY_copy_84 : decode cY_copy 84 = .ok (.imul, 1) := by decide +kernel
theorem dY_copy_85 : decode cY_copy 85 = .ok (.iload 6, 2) := by decide +kernel
theorem dY_copy_87 : decode cY_copy 87 = .ok (.iadd, 1) := by decide +kernel
theorem dY_copy_88 : decode cY_copy 88 = .ok (.iaload, 1) := by decide +kernel
theorem dY_copy_89 : decode cY_copy 89 = .ok (.iastore, 1) := by decide +kernel
theorem dY_copy_90 : decode cY_copy 90 = .ok (.iinc 6 1, 3) := by decide +kernel
theorem dY_copy_93 : decode cY_copy 93 = .ok (.goto (-27), 3) := by decide +kernel
theorem dY_copy_96 : decode cY_copy 96 = .ok (.iconst 0, 1) := by decide +kernel
theorem dY_copy_97 : decode cY_copy 97 = .ok (.istore 6, 2) := by decide +kernel
theorem dY_copy_99 : decode cY_copy 99 = .ok (.iload 6, 2) := by decide +kernel
theorem dY_copy_101 : decode cY_copy 101 = .ok (.iload 5, 2) := by decide +kernel
theorem dY_copy_103 : decode cY_copy 103 = .ok (.if_icmp .ge 51, 3) := by decide +kernel
theorem dY_copy_106 : decode cY_copy 106 = .ok (.aload_n 0, 1) := by decide +kernel
theorem dY_copy_107 : decode cY_copy 107 = .ok (.aload_n 0, 1) := by decide +kernel
theorem dY_copy_108 : decode cY_copy 108 = .ok (.getfield 29, 3) := by decide +kernel
theorem dY_copy_111 : decode cY_copy 111 = .ok (.iload_n 2, 1) := by decide +kernel
theorem dY_copy_112 : decode cY_copy 112 = .ok (.iload 6, 2) := by decide +kernel
theorem dY_copy_114 : decode cY_copy 114 = .ok (.iadd, 1) := by decide +kernel
theorem dY_copy_115 : decode cY_copy 115 = .ok (.iaload, 1) := by decide +kernel
theorem dY_copy_116 : decode cY_copy 116 = .ok (.iload_n 3, 1) := by decide +kernel
theorem dY_copy_117 : decode cY_copy 117 = .ok (.invokevirtual 89, 3) := by decide +kernel
theorem dY_copy_120 : decode cY_copy 120 = .ok (.ifCond .ne 5, 3) := by decide +kernel
theorem dY_copy_123 : decode cY_copy 123 = .ok (.iconst 3, 1) := by decide +kernel
theorem dY_copy_124 : decode cY_copy 124 = .ok (.ireturn, 1) := by decide +kernel
theorem dY_copy_125 : decode cY_copy 125 = .ok (.aload_n 0, 1) := by decide +kernel
theorem dY_copy_126 : decode cY_copy 126 = .ok (.getfield 26, 3) := by decide +kernel
theorem dY_copy_129 : decode cY_copy 129 = .ok (.iconst 4, 1) := by decide +kernel
theorem dY_copy_130 : decode cY_copy 130 = .ok (.iload_n 3, 1) := by decide +kernel
theorem dY_copy_131 : decode cY_copy 131 = .ok (.imul, 1) := by decide +kernel
theorem dY_copy_132 : decode cY_copy 132 = .ok (.iload 4, 2) := by decide +kernel
theorem dY_copy_134 : decode cY_copy 134 = .ok (.iadd, 1) := by decide +kernel
theorem dY_copy_135 : decode cY_copy 135 = .ok (.iload 6, 2) := by decide +kernel
theorem dY_copy_137 : decode cY_copy 137 = .ok (.iadd, 1) := by decide +kernel
theorem dY_copy_138 : decode cY_copy 138 = .ok (.aload_n 0, 1) := by decide +kernel
theorem dY_copy_139 : decode cY_copy 139 = .ok (.getfield 29, 3) := by decide +kernel
theorem dY_copy_142 : decode cY_copy 142 = .ok (.iload_n 2, 1) := by decide +kernel
theorem dY_copy_143 : decode cY_copy 143 = .ok (.iload 6, 2) := by decide +kernel
theorem dY_copy_145 : decode cY_copy 145 = .ok (.iadd, 1) := by decide +kernel
theorem dY_copy_146 : decode cY_copy 146 = .ok (.iaload, 1) := by decide +kernel
theorem dY_copy_147 : decode cY_copy 147 = .ok (.iastore, 1) := by decide +kernel
theorem dY_copy_148 : decode cY_copy 148 = .ok (.iinc 6 1, 3) := by decide +kernel
theorem dY_copy_151 : decode cY_copy 151 = .ok (.goto (-52), 3) := by decide +kernel
theorem dY_copy_154 : decode cY_copy 154 = .ok (.iconst 0, 1) := by decide +kernel
theorem dY_copy_155 : decode cY_copy 155 = .ok (.ireturn, 1) := by decide +kernel
theorem dY_compare_0 : decode cY_compare 0 = .ok (.iload_n 1, 1) := by decide +kernel
theorem dY_compare_1 : decode cY_compare 1 = .ok (.iconst 0, 1) := by decide +kernel
theorem dY_compare_2 : decode cY_compare 2 = .ok (.bipush 7, 2) := by decide +kernel
theorem dY_compare_4 : decode cY_compare 4 = .ok (.invokestatic 48, 3) := by decide +kernel
theorem dY_compare_7 : decode cY_compare 7 = .ok (.ifCond .eq 13, 3) := by decide +kernel
theorem dY_compare_10 : decode cY_compare 10 = .ok (.iload_n 2, 1) := by decide +kernel
theorem dY_compare_11 : decode cY_compare 11 = .ok (.iconst 0, 1) := by decide +kernel
theorem dY_compare_12 : decode cY_compare 12 = .ok (.bipush 7, 2) := by decide +kernel
theorem dY_compare_14 : decode cY_compare 14 = .ok (.invokestatic 48, 3) := by decide +kernel
theorem dY_compare_17 : decode cY_compare 17 = .ok (.ifCond .ne 5, 3) := by decide +kernel
theorem dY_compare_20 : decode cY_compare 20 = .ok (.iconst (-1), 1) := by decide +kernel
theorem dY_compare_21 : decode cY_compare 21 = .ok (.ireturn, 1) := by decide +kernel
theorem dY_compare_22 : decode cY_compare 22 = .ok (.aload_n 0, 1) := by decide +kernel
theorem dY_compare_23 : decode cY_compare 23 = .ok (.getfield 23, 3) := by decide +kernel
theorem dY_compare_26 : decode cY_compare 26 = .ok (.iload_n 1, 1) := by decide +kernel
theorem dY_compare_27 : decode cY_compare 27 = .ok (.iaload, 1) := by decide +kernel
theorem dY_compare_28 : decode cY_compare 28 = .ok (.ifCond .eq 12, 3) := by decide +kernel
theorem dY_compare_31 : decode cY_compare 31 = .ok (.aload_n 0, 1) := by decide +kernel
theorem dY_compare_32 : decode cY_compare 32 = .ok (.getfield 23, 3) := by decide +kernel
theorem dY_compare_35 : decode cY_compare 35 = .ok (.iload_n 2, 1) := by decide +kernel
theorem dY_compare_36 : decode cY_compare 36 = .ok (.iaload, 1) := by decide +kernel
theorem dY_compare_37 : decode cY_compare 37 = .ok (.ifCond .ne 5, 3) := by decide +kernel
theorem dY_compare_40 : decode cY_compare 40 = .ok (.iconst 2, 1) := by decide +kernel
theorem dY_compare_41 : decode cY_compare 41 = .ok (.ireturn, 1) := by decide +kernel
theorem dY_compare_42 : decode cY_compare 42 = .ok (.aload_n 0, 1) := by decide +kernel
theorem dY_compare_43 : decode cY_compare 43 = .ok (.aload_n 0, 1) := by decide +kernel
theorem dY_compare_44 : decode cY_compare 44 = .ok (.getfield 23, 3) := by decide +kernel
theorem dY_compare_47 : decode cY_compare 47 = .ok (.iload_n 1, 1) := by decide +kernel
theorem dY_compare_48 : decode cY_compare 48 = .ok (.iaload, 1) := by decide +kernel
theorem dY_compare_49 : decode cY_compare 49 = .ok (.iconst 3, 1) := by decide +kernel
theorem dY_compare_50 : decode cY_compare 50 = .ok (.invokevirtual 60, 3) := by decide +kernel
theorem dY_compare_53 : decode cY_compare 53 = .ok (.ifCond .eq 17, 3) := by decide +kernel
theorem dY_compare_56 : decode cY_compare 56 = .ok (.aload_n 0, 1) := by decide +kernel
theorem dY_compare_57 : decode cY_compare 57 = .ok (.aload_n 0, 1) := by decide +kernel
theorem dY_compare_58 : decode cY_compare 58 = .ok (.getfield 23, 3) := by decide +kernel
theorem dY_compare_61 : decode cY_compare 61 = .ok (.iload_n 2, 1) := by decide +kernel
theorem dY_compare_62 : decode cY_compare 62 = .ok (.iaload, 1) := by decide +kernel
theorem dY_compare_63 : decode cY_compare 63 = .ok (.iconst 3, 1) := by decide +kernel
theorem dY_compare_64 : decode cY_compare 64 = .ok (.invokevirtual 60, 3) := by decide +kernel
theorem dY_compare_67 : decode cY_compare 67 = .ok (.ifCond .ne 5, 3) := by decide +kernel
theorem dY_compare_70 : decode cY_compare 70 = .ok (.iconst 1, 1) := by decide +kernel
theorem dY_compare_71 : decode cY_compare 71 = .ok (.ireturn, 1) := by decide +kernel
theorem dY_compare_72 : decode cY_compare 72 = .ok (.aload_n 0, 1) := by decide +kernel
theorem dY_compare_73 : decode cY_compare 73 = .ok (.getfield 13, 3) := by decide +kernel
theorem dY_compare_76 : decode cY_compare 76 = .ok (.aload_n 0, 1) := by decide +kernel
theorem dY_compare_77 : decode cY_compare 77 = .ok (.getfield 23, 3) := by decide +kernel
theorem dY_compare_80 : decode cY_compare 80 = .ok (.iload_n 1, 1) := by decide +kernel
theorem dY_compare_81 : decode cY_compare 81 = .ok (.iaload, 1) := by decide +kernel
theorem dY_compare_82 : decode cY_compare 82 = .ok (.iaload, 1) := by decide +kernel
theorem dY_compare_83 : decode cY_compare 83 = .ok (.istore_n 3, 1) := by decide +kernel
theorem dY_compare_84 : decode cY_compare 84 = .ok (.aload_n 0, 1) := by decide +kernel
theorem dY_compare_85 : decode cY_compare 85 = .ok (.getfield 13, 3) := by decide +kernel
theorem dY_compare_88 : decode cY_compare 88 = .ok (.aload_n 0, 1) := by decide +kernel
theorem dY_compare_89 : decode cY_compare 89 = .ok (.getfield 23, 3) := by decide +kernel
theorem dY_compare_92 : decode cY_compare 92 = .ok (.iload_n 2, 1) := by decide +kernel
theorem dY_compare_93 : decode cY_compare 93 = .ok (.iaload, 1) := by decide +kernel
theorem dY_compare_94 : decode cY_compare 94 = .ok (.iaload, 1) := by decide +kernel
theorem dY_compare_95 : decode cY_compare 95 = .ok (.istore 4, 2) := by decide +kernel
theorem dY_compare_97 : decode cY_compare 97 = .ok (.aload_n 0, 1) := by decide +kernel
theorem dY_compare_98 : decode cY_compare 98 = .ok (.iload_n 3, 1) := by decide +kernel
theorem dY_compare_99 : decode cY_compare 99 = .ok (.iload 4, 2) := by decide +kernel
theorem dY_compare_101 : decode cY_compare 101 = .ok (.if_icmp .ge 7, 3) := by decide +kernel
theorem dY_compare_104 : decode cY_compare 104 = .ok (.iconst (-1), 1) := by decide +kernel
theorem dY_compare_105 : decode cY_compare 105 = .ok (.goto 14, 3) := by decide +kernel
theorem dY_compare_108 : decode cY_compare 108 = .ok (.iload_n 3, 1) := by decide +kernel
theorem dY_compare_109 : decode cY_compare 109 = .ok (.iload 4, 2) := by decide +kernel
theorem dY_compare_111 : decode cY_compare 111 = .ok (.if_icmp .le 7, 3) := by decide +kernel
theorem dY_compare_114 : decode cY_compare 114 = .ok (.iconst 1, 1) := by decide +kernel
theorem dY_compare_115 : decode cY_compare 115 = .ok (.goto 4, 3) := by decide +kernel
theorem dY_compare_118 : decode cY_compare 118 = .ok (.iconst 0, 1) := by decide +kernel
theorem dY_compare_119 : decode cY_compare 119 = .ok (.putfield 86, 3) := by decide +kernel
theorem dY_compare_122 : decode cY_compare 122 = .ok (.iconst 0, 1) := by decide +kernel
theorem dY_compare_123 : decode cY_compare 123 = .ok (.ireturn, 1) := by decide +kernel
theorem dY_given_0 : decode cY_given 0 = .ok (.aload_n 0, 1) := by decide +kernel
theorem dY_given_1 : decode cY_given 1 = .ok (.iload_n 1, 1) := by decide +kernel
theorem dY_given_2 : decode cY_given 2 = .ok (.putfield 86, 3) := by decide +kernel
theorem dY_given_5 : decode cY_given 5 = .ok (.iconst 0, 1) := by decide +kernel
theorem dY_given_6 : decode cY_given 6 = .ok (.ireturn, 1) := by decide +kernel
theorem dY_turns_0 : decode cY_turns 0 = .ok (.iconst 0, 1) := by decide +kernel
theorem dY_turns_1 : decode cY_turns 1 = .ok (.istore_n 3, 1) := by decide +kernel
theorem dY_turns_2 : decode cY_turns 2 = .ok (.iconst 1, 1) := by decide +kernel
theorem dY_turns_3 : decode cY_turns 3 = .ok (.istore 4, 2) := by decide +kernel
theorem dY_turns_5 : decode cY_turns 5 = .ok (.iload 4, 2) := by decide +kernel
theorem dY_turns_7 : decode cY_turns 7 = .ok (.bipush 6, 2) := by decide +kernel
theorem dY_turns_9 : decode cY_turns 9 = .ok (.if_icmp .ge 72, 3) := by decide +kernel
theorem dY_turns_12 : decode cY_turns 12 = .ok (.iload 4, 2) := by decide +kernel
theorem dY_turns_14 : decode cY_turns 14 = .ok (.iload_n 1, 1) := by decide +kernel
theorem dY_turns_15 : decode cY_turns 15 = .ok (.bipush 7, 2) := by decide +kernel
theorem dY_turns_17 : decode cY_turns 17 = .ok (.iand, 1) := by decide +kernel
theorem dY_turns_18 : decode cY_turns 18 = .ok (.if_icmp .ne 7, 3) := by decide +kernel
theorem dY_turns_21 : decode cY_turns 21 = .ok (.iconst 1, 1) := by decide +kernel
theorem dY_turns_22 : decode cY_turns 22 = .ok (.goto 4, 3) := by decide +kernel
theorem dY_turns_25 : decode cY_turns 25 = .ok (.iconst 0, 1) := by decide +kernel
theorem dY_turns_26 : decode cY_turns 26 = .ok (.istore 5, 2) := by decide +kernel
theorem dY_turns_28 : decode cY_turns 28 = .ok (.iload 5, 2) := by decide +kernel
theorem dY_turns_30 : decode cY_turns 30 = .ok (.ifCond .ne 16, 3) := by decide +kernel
theorem dY_turns_33 : decode cY_turns 33 = .ok (.iload 4, 2) := by decide +kernel
theorem dY_turns_35 : decode cY_turns 35 = .ok (.iload_n 2, 1) := by decide +kernel
theorem dY_turns_36 : decode cY_turns 36 = .ok (.bipush 7, 2) := by decide +kernel
theorem dY_turns_38 : decode cY_turns 38 = .ok (.iand, 1) := by decide +kernel
theorem dY_turns_39 : decode cY_turns 39 = .ok (.if_icmp .ne 7, 3) := by decide +kernel
theorem dY_turns_42 : decode cY_turns 42 = .ok (.iconst 1, 1) := by decide +kernel
theorem dY_turns_43 : decode cY_turns 43 = .ok (.goto 4, 3) := by decide +kernel
theorem dY_turns_46 : decode cY_turns 46 = .ok (.iconst 0, 1) := by decide +kernel
theorem dY_turns_47 : decode cY_turns 47 = .ok (.istore 6, 2) := by decide +kernel
theorem dY_turns_49 : decode cY_turns 49 = .ok (.iload 5, 2) := by decide +kernel
theorem dY_turns_51 : decode cY_turns 51 = .ok (.ifCond .ne 11, 3) := by decide +kernel
theorem dY_turns_54 : decode cY_turns 54 = .ok (.iload 6, 2) := by decide +kernel
theorem dY_turns_56 : decode cY_turns 56 = .ok (.ifCond .ne 6, 3) := by decide +kernel
theorem dY_turns_59 : decode cY_turns 59 = .ok (.iinc 3 1, 3) := by decide +kernel
theorem dY_turns_62 : decode cY_turns 62 = .ok (.aload_n 0, 1) := by decide +kernel
theorem dY_turns_63 : decode cY_turns 63 = .ok (.iload 4, 2) := by decide +kernel
theorem dY_turns_65 : decode cY_turns 65 = .ok (.invokevirtual 56, 3) := by decide +kernel
theorem dY_turns_68 : decode cY_turns 68 = .ok (.iload 6, 2) := by decide +kernel
theorem dY_turns_70 : decode cY_turns 70 = .ok (.ifCond .eq 5, 3) := by decide +kernel
theorem dY_turns_73 : decode cY_turns 73 = .ok (.iload_n 3, 1) := by decide +kernel
theorem dY_turns_74 : decode cY_turns 74 = .ok (.ireturn, 1) := by decide +kernel
theorem dY_turns_75 : decode cY_turns 75 = .ok (.iinc 4 1, 3) := by decide +kernel
theorem dY_turns_78 : decode cY_turns 78 = .ok (.goto (-73), 3) := by decide +kernel
theorem dY_turns_81 : decode cY_turns 81 = .ok (.iload_n 3, 1) := by decide +kernel
theorem dY_turns_82 : decode cY_turns 82 = .ok (.ireturn, 1) := by decide +kernel
theorem dY_closings_0 : decode cY_closings 0 = .ok (.iload_n 1, 1) := by decide +kernel
theorem dY_closings_1 : decode cY_closings 1 = .ok (.iconst 1, 1) := by decide +kernel
theorem dY_closings_2 : decode cY_closings 2 = .ok (.iand, 1) := by decide +kernel
theorem dY_closings_3 : decode cY_closings 3 = .ok (.ifCond .ne 7, 3) := by decide +kernel
theorem dY_closings_6 : decode cY_closings 6 = .ok (.iconst 1, 1) := by decide +kernel
theorem dY_closings_7 : decode cY_closings 7 = .ok (.goto 4, 3) := by decide +kernel
theorem dY_closings_10 : decode cY_closings 10 = .ok (.iconst 0, 1) := by decide +kernel
theorem dY_closings_11 : decode cY_closings 11 = .ok (.istore_n 3, 1) := by decide +kernel
theorem dY_closings_12 : decode cY_closings 12 = .ok (.iload_n 3, 1) := by decide +kernel
theorem dY_closings_13 : decode cY_closings 13 = .ok (.ifCond .eq 7, 3) := by decide +kernel
theorem dY_closings_16 : decode cY_closings 16 = .ok (.iconst 0, 1) := by decide +kernel
theorem dY_closings_17 : decode cY_closings 17 = .ok (.goto 4, 3) := by decide +kernel
theorem dY_closings_20 : decode cY_closings 20 = .ok (.iconst 1, 1) := by decide +kernel
theorem dY_closings_21 : decode cY_closings 21 = .ok (.istore 4, 2) := by decide +kernel
theorem dY_closings_23 : decode cY_closings 23 = .ok (.iconst 0, 1) := by decide +kernel
theorem dY_closings_24 : decode cY_closings 24 = .ok (.istore 5, 2) := by decide +kernel
theorem dY_closings_26 : decode cY_closings 26 = .ok (.aload_n 0, 1) := by decide +kernel
theorem dY_closings_27 : decode cY_closings 27 = .ok (.bipush 10, 2) := by decide +kernel
theorem dY_closings_29 : decode cY_closings 29 = .ok (.invokevirtual 56, 3) := by decide +kernel
theorem dY_closings_32 : decode cY_closings 32 = .ok (.aload_n 0, 1) := by decide +kernel
theorem dY_closings_33 : decode cY_closings 33 = .ok (.bipush 11, 2) := by decide +kernel
theorem dY_closings_35 : decode cY_closings 35 = .ok (.invokevirtual 56, 3) := by decide +kernel
theorem dY_closings_38 : decode cY_closings 38 = .ok (.iload_n 3, 1) := by decide +kernel
theorem dY_closings_39 : decode cY_closings 39 = .ok (.ifCond .eq 50, 3) := by decide +kernel
theorem dY_closings_42 : decode cY_closings 42 = .ok (.aload_n 0, 1) := by decide +kernel
theorem dY_closings_43 : decode cY_closings 43 = .ok (.bipush 12, 2) := by decide +kernel
theorem dY_closings_45 : decode cY_closings 45 = .ok (.invokevirtual 56, 3) := by decide +kernel
theorem dY_closings_48 : decode cY_closings 48 = .ok (.iload_n 1, 1) := by decide +kernel
theorem dY_closings_49 : decode cY_closings 49 = .ok (.iconst 2, 1) := by decide +kernel
theorem dY_closings_50 : decode cY_closings 50 = .ok (.iand, 1) := by decide +kernel
theorem dY_closings_51 : decode cY_closings 51 = .ok (.ifCond .eq 6, 3) := by decide +kernel
theorem dY_closings_54 : decode cY_closings 54 = .ok (.iconst 2, 1) := by decide +kernel
theorem dY_closings_55 : decode cY_closings 55 = .ok (.istore 4, 2) := by decide +kernel
theorem dY_closings_57 : decode cY_closings 57 = .ok (.aload_n 0, 1) := by decide +kernel
theorem dY_closings_58 : decode cY_closings 58 = .ok (.bipush 21, 2) := by decide +kernel
theorem dY_closings_60 : decode cY_closings 60 = .ok (.invokevirtual 56, 3) := by decide +kernel
theorem dY_closings_63 : decode cY_closings 63 = .ok (.iload_n 2, 1) := by decide +kernel
theorem dY_closings_64 : decode cY_closings 64 = .ok (.iconst 1, 1) := by decide +kernel
theorem dY_closings_65 : decode cY_closings 65 = .ok (.iand, 1) := by decide +kernel
theorem dY_closings_66 : decode cY_closings 66 = .ok (.ifCond .eq 14, 3) := by decide +kernel
theorem dY_closings_69 : decode cY_closings 69 = .ok (.iload 4, 2) := by decide +kernel
theorem dY_closings_71 : decode cY_closings 71 = .ok (.ifCond .le 9, 3) := by decide +kernel
theorem dY_closings_74 : decode cY_closings 74 = .ok (.iinc 5 1, 3) := by decide +kernel
theorem dY_closings_77 : decode cY_closings 77 = .ok (.goto 12, 3) := by decide +kernel
theorem dY_closings_80 : decode cY_closings 80 = .ok (.iload_n 2, 1) := by decide +kernel
theorem dY_closings_81 : decode cY_closings 81 = .ok (.iconst 1, 1) := by decide +kernel
theorem dY_closings_82 : decode cY_closings 82 = .ok (.iand, 1) := by decide +kernel
theorem dY_closings_83 : decode cY_closings 83 = .ok (.ifCond .eq 6, 3) := by decide +kernel
theorem dY_closings_86 : decode cY_closings 86 = .ok (.iconst 3, 1) := by decide +kernel
theorem dY_closings_87 : decode cY_closings 87 = .ok (.istore 4, 2) := by decide +kernel
theorem dY_closings_89 : decode cY_closings 89 = .ok (.aload_n 0, 1) := by decide +kernel
theorem dY_closings_90 : decode cY_closings 90 = .ok (.bipush 20, 2) := by decide +kernel
theorem dY_closings_92 : decode cY_closings 92 = .ok (.invokevirtual 56, 3) := by decide +kernel
theorem dY_closings_95 : decode cY_closings 95 = .ok (.iload_n 2, 1) := by decide +kernel
theorem dY_closings_96 : decode cY_closings 96 = .ok (.iconst 2, 1) := by decide +kernel
theorem dY_closings_97 : decode cY_closings 97 = .ok (.iand, 1) := by decide +kernel
theorem dY_closings_98 : decode cY_closings 98 = .ok (.ifCond .eq 14, 3) := by decide +kernel
theorem dY_closings_101 : decode cY_closings 101 = .ok (.iload 4, 2) := by decide +kernel
theorem dY_closings_103 : decode cY_closings 103 = .ok (.ifCond .le 9, 3) := by decide +kernel
theorem dY_closings_106 : decode cY_closings 106 = .ok (.iinc 5 1, 3) := by decide +kernel
theorem dY_closings_109 : decode cY_closings 109 = .ok (.goto 12, 3) := by decide +kernel
theorem dY_closings_112 : decode cY_closings 112 = .ok (.iload_n 2, 1) := by decide +kernel
theorem dY_closings_113 : decode cY_closings 113 = .ok (.iconst 2, 1) := by decide +kernel
theorem dY_closings_114 : decode cY_closings 114 = .ok (.iand, 1) := by decide +kernel
theorem dY_closings_115 : decode cY_closings 115 = .ok (.ifCond .eq 6, 3) := by decide +kernel
theorem dY_closings_118 : decode cY_closings 118 = .ok (.iconst 4, 1) := by decide +kernel
theorem dY_closings_119 : decode cY_closings 119 = .ok (.istore 4, 2) := by decide +kernel
theorem dY_closings_121 : decode cY_closings 121 = .ok (.bipush 100, 2) := by decide +kernel
theorem dY_closings_123 : decode cY_closings 123 = .ok (.iload 4, 2) := by decide +kernel
theorem dY_closings_125 : decode cY_closings 125 = .ok (.imul, 1) := by decide +kernel
theorem dY_closings_126 : decode cY_closings 126 = .ok (.iload 5, 2) := by decide +kernel
theorem dY_closings_128 : decode cY_closings 128 = .ok (.iadd, 1) := by decide +kernel
theorem dY_closings_129 : decode cY_closings 129 = .ok (.ireturn, 1) := by decide +kernel
theorem dY_flow_0 : decode cY_flow 0 = .ok (.iload_n 1, 1) := by decide +kernel
theorem dY_flow_1 : decode cY_flow 1 = .ok (.tableswitch 185 0 6 #[43, 64, 75, 86, 114, 128, 167], 43) := by decide +kernel
theorem dY_flow_44 : decode cY_flow 44 = .ok (.aload_n 0, 1) := by decide +kernel
theorem dY_flow_45 : decode cY_flow 45 = .ok (.iconst 1, 1) := by decide +kernel
theorem dY_flow_46 : decode cY_flow 46 = .ok (.invokevirtual 56, 3) := by decide +kernel
theorem dY_flow_49 : decode cY_flow 49 = .ok (.aload_n 0, 1) := by decide +kernel
theorem dY_flow_50 : decode cY_flow 50 = .ok (.iload_n 3, 1) := by decide +kernel
theorem dY_flow_51 : decode cY_flow 51 = .ok (.ifCond .ne 7, 3) := by decide +kernel
theorem dY_flow_54 : decode cY_flow 54 = .ok (.iconst (-1), 1) := by decide +kernel
theorem dY_flow_55 : decode cY_flow 55 = .ok (.goto 6, 3) := by decide +kernel
theorem dY_flow_58 : decode cY_flow 58 = .ok (.iload_n 2, 1) := by decide +kernel
theorem dY_flow_59 : decode cY_flow 59 = .ok (.iload_n 3, 1) := by decide +kernel
theorem dY_flow_60 : decode cY_flow 60 = .ok (.idiv, 1) := by decide +kernel
theorem dY_flow_61 : decode cY_flow 61 = .ok (.invokevirtual 94, 3) := by decide +kernel
theorem dY_flow_64 : decode cY_flow 64 = .ok (.ireturn, 1) := by decide +kernel
theorem dY_flow_65 : decode cY_flow 65 = .ok (.aload_n 0, 1) := by decide +kernel
theorem dY_flow_66 : decode cY_flow 66 = .ok (.aload_n 0, 1) := by decide +kernel
theorem dY_flow_67 : decode cY_flow 67 = .ok (.iload_n 2, 1) := by decide +kernel
theorem dY_flow_68 : decode cY_flow 68 = .ok (.iload_n 3, 1) := by decide +kernel
theorem dY_flow_69 : decode cY_flow 69 = .ok (.invokevirtual 97, 3) := by decide +kernel
theorem dY_flow_72 : decode cY_flow 72 = .ok (.invokevirtual 94, 3) := by decide +kernel
theorem dY_flow_75 : decode cY_flow 75 = .ok (.ireturn, 1) := by decide +kernel
theorem dY_flow_76 : decode cY_flow 76 = .ok (.aload_n 0, 1) := by decide +kernel
theorem dY_flow_77 : decode cY_flow 77 = .ok (.aload_n 0, 1) := by decide +kernel
theorem dY_flow_78 : decode cY_flow 78 = .ok (.iload_n 2, 1) := by decide +kernel
theorem dY_flow_79 : decode cY_flow 79 = .ok (.iload_n 3, 1) := by decide +kernel
theorem dY_flow_80 : decode cY_flow 80 = .ok (.invokevirtual 100, 3) := by decide +kernel
theorem dY_flow_83 : decode cY_flow 83 = .ok (.invokevirtual 94, 3) := by decide +kernel
theorem dY_flow_86 : decode cY_flow 86 = .ok (.ireturn, 1) := by decide +kernel
theorem dY_flow_87 : decode cY_flow 87 = .ok (.aload_n 0, 1) := by decide +kernel
theorem dY_flow_88 : decode cY_flow 88 = .ok (.iload_n 3, 1) := by decide +kernel
theorem dY_flow_89 : decode cY_flow 89 = .ok (.iconst 3, 1) := by decide +kernel
theorem dY_flow_90 : decode cY_flow 90 = .ok (.iand, 1) := by decide +kernel
theorem dY_flow_91 : decode cY_flow 91 = .ok (.iconst 3, 1) := by decide +kernel
theorem dY_flow_92 : decode cY_flow 92 = .ok (.if_icmp .ne 8, 3) := by decide +kernel
theorem dY_flow_95 : decode cY_flow 95 = .ok (.iload_n 2, 1) := by decide +kernel
theorem dY_flow_96 : decode cY_flow 96 = .ok (.ineg, 1) := by decide +kernel
theorem dY_flow_97 : decode cY_flow 97 = .ok (.goto 14, 3) := by decide +kernel
theorem dY_flow_100 : decode cY_flow 100 = .ok (.iload_n 2, 1) := by decide +kernel
theorem dY_flow_101 : decode cY_flow 101 = .ok (.iconst 2, 1) := by decide +kernel
theorem dY_flow_102 : decode cY_flow 102 = .ok (.iconst 1, 1) := by decide +kernel
theorem dY_flow_103 : decode cY_flow 103 = .ok (.iload_n 3, 1) := by decide +kernel
theorem dY_flow_104 : decode cY_flow 104 = .ok (.iconst 3, 1) := by decide +kernel
theorem dY_flow_105 : decode cY_flow 105 = .ok (.iand, 1) := by decide +kernel
theorem dY_flow_106 : decode cY_flow 106 = .ok (.ishl, 1) := by decide +kernel
theorem dY_flow_107 : decode cY_flow 107 = .ok (.imul, 1) := by decide +kernel
theorem dY_flow_108 : decode cY_flow 108 = .ok (.iadd, 1) := by decide +kernel
theorem dY_flow_109 : decode cY_flow 109 = .ok (.iconst 1, 1) := by decide +kernel
theorem dY_flow_110 : decode cY_flow 110 = .ok (.isub, 1) := by decide +kernel
theorem dY_flow_111 : decode cY_flow 111 = .ok (.invokevirtual 94, 3) := by decide +kernel
theorem dY_flow_114 : decode cY_flow 114 = .ok (.ireturn, 1) := by decide +kernel
theorem dY_flow_115 : decode cY_flow 115 = .ok (.aload_n 0, 1) := by decide +kernel
theorem dY_flow_116 : decode cY_flow 116 = .ok (.iload_n 2, 1) := by decide +kernel
theorem dY_flow_117 : decode cY_flow 117 = .ok (.iload_n 2, 1) := by decide +kernel
theorem dY_flow_118 : decode cY_flow 118 = .ok (.iconst 1, 1) := by decide +kernel
theorem dY_flow_119 : decode cY_flow 119 = .ok (.iadd, 1) := by decide +kernel
theorem dY_flow_120 : decode cY_flow 120 = .ok (.iload_n 3, 1) := by decide +kernel
theorem dY_flow_121 : decode cY_flow 121 = .ok (.imul, 1) := by decide +kernel
theorem dY_flow_122 : decode cY_flow 122 = .ok (.iadd, 1) := by decide +kernel
theorem dY_flow_123 : decode cY_flow 123 = .ok (.iload_n 3, 1) := by decide +kernel
theorem dY_flow_124 : decode cY_flow 124 = .ok (.iadd, 1) := by decide +kernel
theorem dY_flow_125 : decode cY_flow 125 = .ok (.invokevirtual 94, 3) := by decide +kernel
theorem dY_flow_128 : decode cY_flow 128 = .ok (.ireturn, 1) := by decide +kernel
theorem dY_flow_129 : decode cY_flow 129 = .ok (.iload_n 2, 1) := by decide +kernel
theorem dY_flow_130 : decode cY_flow 130 = .ok (.sipush 1000, 3) := by decide +kernel
theorem dY_flow_133 : decode cY_flow 133 = .ok (.if_icmp .le 5, 3) := by decide +kernel
theorem dY_flow_136 : decode cY_flow 136 = .ok (.iconst (-1), 1) := by decide +kernel
theorem dY_flow_137 : decode cY_flow 137 = .ok (.ireturn, 1) := by decide +kernel
theorem dY_flow_138 : decode cY_flow 138 = .ok (.iload_n 2, 1) := by decide +kernel
theorem dY_flow_139 : decode cY_flow 139 = .ok (.ifCond .ge 6, 3) := by decide +kernel
theorem dY_flow_142 : decode cY_flow 142 = .ok (.bipush 6, 2) := by decide +kernel
theorem dY_flow_144 : decode cY_flow 144 = .ok (.ireturn, 1) := by decide +kernel
theorem dY_flow_145 : decode cY_flow 145 = .ok (.iload_n 3, 1) := by decide +kernel
theorem dY_flow_146 : decode cY_flow 146 = .ok (.iconst 0, 1) := by decide +kernel
theorem dY_flow_147 : decode cY_flow 147 = .ok (.iload_n 2, 1) := by decide +kernel
theorem dY_flow_148 : decode cY_flow 148 = .ok (.iconst 1, 1) := by decide +kernel
theorem dY_flow_149 : decode cY_flow 149 = .ok (.isub, 1) := by decide +kernel
theorem dY_flow_150 : decode cY_flow 150 = .ok (.invokestatic 48, 3) := by decide +kernel
theorem dY_flow_153 : decode cY_flow 153 = .ok (.ifCond .eq 13, 3) := by decide +kernel
theorem dY_flow_156 : decode cY_flow 156 = .ok (.aload_n 0, 1) := by decide +kernel
theorem dY_flow_157 : decode cY_flow 157 = .ok (.iload_n 3, 1) := by decide +kernel
theorem dY_flow_158 : decode cY_flow 158 = .ok (.iload_n 3, 1) := by decide +kernel
theorem dY_flow_159 : decode cY_flow 159 = .ok (.imul, 1) := by decide +kernel
theorem dY_flow_160 : decode cY_flow 160 = .ok (.invokevirtual 94, 3) := by decide +kernel
theorem dY_flow_163 : decode cY_flow 163 = .ok (.goto 4, 3) := by decide +kernel
theorem dY_flow_166 : decode cY_flow 166 = .ok (.iconst 4, 1) := by decide +kernel
theorem dY_flow_167 : decode cY_flow 167 = .ok (.ireturn, 1) := by decide +kernel
theorem dY_flow_168 : decode cY_flow 168 = .ok (.aload_n 0, 1) := by decide +kernel
theorem dY_flow_169 : decode cY_flow 169 = .ok (.iload_n 2, 1) := by decide +kernel
theorem dY_flow_170 : decode cY_flow 170 = .ok (.iconst 1, 1) := by decide +kernel
theorem dY_flow_171 : decode cY_flow 171 = .ok (.iand, 1) := by decide +kernel
theorem dY_flow_172 : decode cY_flow 172 = .ok (.ifCond .ne 8, 3) := by decide +kernel
theorem dY_flow_175 : decode cY_flow 175 = .ok (.ldc 103, 2) := by decide +kernel
theorem dY_flow_177 : decode cY_flow 177 = .ok (.goto 5, 3) := by decide +kernel
theorem dY_flow_180 : decode cY_flow 180 = .ok (.ldc 104, 2) := by decide +kernel
theorem dY_flow_182 : decode cY_flow 182 = .ok (.invokevirtual 94, 3) := by decide +kernel
theorem dY_flow_185 : decode cY_flow 185 = .ok (.ireturn, 1) := by decide +kernel
theorem dY_flow_186 : decode cY_flow 186 = .ok (.iconst (-1), 1) := by decide +kernel
theorem dY_flow_187 : decode cY_flow 187 = .ok (.ireturn, 1) := by decide +kernel
theorem dY_rounded_0 : decode cY_rounded 0 = .ok (.iload_n 0, 1) := by decide +kernel
theorem dY_rounded_1 : decode cY_rounded 1 = .ok (.ifCond .ge 9, 3) := by decide +kernel
theorem dY_rounded_4 : decode cY_rounded 4 = .ok (.iload_n 0, 1) := by decide +kernel
theorem dY_rounded_5 : decode cY_rounded 5 = .ok (.i2l, 1) := by decide +kernel
theorem dY_rounded_6 : decode cY_rounded 6 = .ok (.lneg, 1) := by decide +kernel
theorem dY_rounded_7 : decode cY_rounded 7 = .ok (.goto 5, 3) := by decide +kernel
theorem dY_rounded_10 : decode cY_rounded 10 = .ok (.iload_n 0, 1) := by decide +kernel
theorem dY_rounded_11 : decode cY_rounded 11 = .ok (.i2l, 1) := by decide +kernel
theorem dY_rounded_12 : decode cY_rounded 12 = .ok (.lstore_n 1, 1) := by decide +kernel
theorem dY_rounded_13 : decode cY_rounded 13 = .ok (.lconst 1, 1) := by decide +kernel
theorem dY_rounded_14 : decode cY_rounded 14 = .ok (.lstore_n 3, 1) := by decide +kernel
theorem dY_rounded_15 : decode cY_rounded 15 = .ok (.lload_n 1, 1) := by decide +kernel
theorem dY_rounded_16 : decode cY_rounded 16 = .ok (.lload_n 3, 1) := by decide +kernel
theorem dY_rounded_17 : decode cY_rounded 17 = .ok (.ldiv, 1) := by decide +kernel
theorem dY_rounded_18 : decode cY_rounded 18 = .ok (.ldc2_w 105, 3) := by decide +kernel
theorem dY_rounded_21 : decode cY_rounded 21 = .ok (.lcmp, 1) := by decide +kernel
theorem dY_rounded_22 : decode cY_rounded 22 = .ok (.ifCond .lt 12, 3) := by decide +kernel
theorem dY_rounded_25 : decode cY_rounded 25 = .ok (.lload_n 3, 1) := by decide +kernel
theorem dY_rounded_26 : decode cY_rounded 26 = .ok (.ldc2_w 107, 3) := by decide +kernel
theorem dY_rounded_29 : decode cY_rounded 29 = .ok (.lmul, 1) := by decide +kernel
theorem dY_rounded_30 : decode cY_rounded 30 = .ok (.lstore_n 3, 1) := by decide +kernel
theorem dY_rounded_31 : decode cY_rounded 31 = .ok (.goto (-16), 3) := by decide +kernel
theorem dY_rounded_34 : decode cY_rounded 34 = .ok (.lload_n 1, 1) := by decide +kernel
theorem dY_rounded_35 : decode cY_rounded 35 = .ok (.lload_n 3, 1) := by decide +kernel
theorem dY_rounded_36 : decode cY_rounded 36 = .ok (.ldiv, 1) := by decide +kernel
theorem dY_rounded_37 : decode cY_rounded 37 = .ok (.lload_n 3, 1) := by decide +kernel
theorem dY_rounded_38 : decode cY_rounded 38 = .ok (.lmul, 1) := by decide +kernel
theorem dY_rounded_39 : decode cY_rounded 39 = .ok (.lstore 5, 2) := by decide +kernel
theorem dY_rounded_41 : decode cY_rounded 41 = .ok (.lload_n 1, 1) := by decide +kernel
theorem dY_rounded_42 : decode cY_rounded 42 = .ok (.lload 5, 2) := by decide +kernel
theorem dY_rounded_44 : decode cY_rounded 44 = .ok (.lsub, 1) := by decide +kernel
theorem dY_rounded_45 : decode cY_rounded 45 = .ok (.lstore 7, 2) := by decide +kernel
theorem dY_rounded_47 : decode cY_rounded 47 = .ok (.ldc2_w 107, 3) := by decide +kernel
theorem dY_rounded_50 : decode cY_rounded 50 = .ok (.lload 7, 2) := by decide +kernel
theorem dY_rounded_52 : decode cY_rounded 52 = .ok (.lmul, 1) := by decide +kernel
theorem dY_rounded_53 : decode cY_rounded 53 = .ok (.lload_n 3, 1) := by decide +kernel
theorem dY_rounded_54 : decode cY_rounded 54 = .ok (.lcmp, 1) := by decide +kernel
theorem dY_rounded_55 : decode cY_rounded 55 = .ok (.ifCond .gt 26, 3) := by decide +kernel
theorem dY_rounded_58 : decode cY_rounded 58 = .ok (.ldc2_w 107, 3) := by decide +kernel
theorem dY_rounded_61 : decode cY_rounded 61 = .ok (.lload 7, 2) := by decide +kernel
theorem dY_rounded_63 : decode cY_rounded 63 = .ok (.lmul, 1) := by decide +kernel
theorem dY_rounded_64 : decode cY_rounded 64 = .ok (.lload_n 3, 1) := by decide +kernel
theorem dY_rounded_65 : decode cY_rounded 65 = .ok (.lcmp, 1) := by decide +kernel
theorem dY_rounded_66 : decode cY_rounded 66 = .ok (.ifCond .ne 21, 3) := by decide +kernel
theorem dY_rounded_69 : decode cY_rounded 69 = .ok (.lload_n 1, 1) := by decide +kernel
theorem dY_rounded_70 : decode cY_rounded 70 = .ok (.lload_n 3, 1) := by decide +kernel
theorem dY_rounded_71 : decode cY_rounded 71 = .ok (.ldiv, 1) := by decide +kernel
theorem dY_rounded_72 : decode cY_rounded 72 = .ok (.ldc2_w 107, 3) := by decide +kernel
theorem dY_rounded_75 : decode cY_rounded 75 = .ok (.lrem, 1) := by decide +kernel
theorem dY_rounded_76 : decode cY_rounded 76 = .ok (.lconst 1, 1) := by decide +kernel
theorem dY_rounded_77 : decode cY_rounded 77 = .ok (.lcmp, 1) := by decide +kernel
theorem dY_rounded_78 : decode cY_rounded 78 = .ok (.ifCond .ne 9, 3) := by decide +kernel
theorem dY_rounded_81 : decode cY_rounded 81 = .ok (.lload 5, 2) := by decide +kernel
theorem dY_rounded_83 : decode cY_rounded 83 = .ok (.lload_n 3, 1) := by decide +kernel
theorem dY_rounded_84 : decode cY_rounded 84 = .ok (.ladd, 1) := by decide +kernel
theorem dY_rounded_85 : decode cY_rounded 85 = .ok (.lstore 5, 2) := by decide +kernel
theorem dY_rounded_87 : decode cY_rounded 87 = .ok (.iload_n 0, 1) := by decide +kernel
theorem dY_rounded_88 : decode cY_rounded 88 = .ok (.ifCond .ge 9, 3) := by decide +kernel
theorem dY_rounded_91 : decode cY_rounded 91 = .ok (.lload 5, 2) := by decide +kernel
theorem dY_rounded_93 : decode cY_rounded 93 = .ok (.lneg, 1) := by decide +kernel
theorem dY_rounded_94 : decode cY_rounded 94 = .ok (.goto 5, 3) := by decide +kernel
theorem dY_rounded_97 : decode cY_rounded 97 = .ok (.lload 5, 2) := by decide +kernel
theorem dY_rounded_99 : decode cY_rounded 99 = .ok (.lreturn, 1) := by decide +kernel
theorem dY_held_0 : decode cY_held 0 = .ok (.lload_n 0, 1) := by decide +kernel
theorem dY_held_1 : decode cY_held 1 = .ok (.ldc2_w 109, 3) := by decide +kernel
theorem dY_held_4 : decode cY_held 4 = .ok (.lcmp, 1) := by decide +kernel
theorem dY_held_5 : decode cY_held 5 = .ok (.ifCond .le 8, 3) := by decide +kernel
theorem dY_held_8 : decode cY_held 8 = .ok (.ldc 111, 2) := by decide +kernel
theorem dY_held_10 : decode cY_held 10 = .ok (.goto 18, 3) := by decide +kernel
theorem dY_held_13 : decode cY_held 13 = .ok (.lload_n 0, 1) := by decide +kernel
theorem dY_held_14 : decode cY_held 14 = .ok (.ldc2_w 112, 3) := by decide +kernel
theorem dY_held_17 : decode cY_held 17 = .ok (.lcmp, 1) := by decide +kernel
theorem dY_held_18 : decode cY_held 18 = .ok (.ifCond .ge 8, 3) := by decide +kernel
theorem dY_held_21 : decode cY_held 21 = .ok (.ldc 114, 2) := by decide +kernel
theorem dY_held_23 : decode cY_held 23 = .ok (.goto 5, 3) := by decide +kernel
theorem dY_held_26 : decode cY_held 26 = .ok (.lload_n 0, 1) := by decide +kernel
theorem dY_held_27 : decode cY_held 27 = .ok (.l2i, 1) := by decide +kernel
theorem dY_held_28 : decode cY_held 28 = .ok (.ireturn, 1) := by decide +kernel
theorem dY_quotient_0 : decode cY_quotient 0 = .ok (.iload_n 1, 1) := by decide +kernel
theorem dY_quotient_1 : decode cY_quotient 1 = .ok (.ifCond .ne 23, 3) := by decide +kernel
theorem dY_quotient_4 : decode cY_quotient 4 = .ok (.iload_n 0, 1) := by decide +kernel
theorem dY_quotient_5 : decode cY_quotient 5 = .ok (.ifCond .le 8, 3) := by decide +kernel
theorem dY_quotient_8 : decode cY_quotient 8 = .ok (.ldc 111, 2) := by decide +kernel
theorem dY_quotient_10 : decode cY_quotient 10 = .ok (.goto 13, 3) := by decide +kernel
theorem dY_quotient_13 : decode cY_quotient 13 = .ok (.iload_n 0, 1) := by decide +kernel
theorem dY_quotient_14 : decode cY_quotient 14 = .ok (.ifCond .ge 8, 3) := by decide +kernel
theorem dY_quotient_17 : decode cY_quotient 17 = .ok (.ldc 114, 2) := by decide +kernel
theorem dY_quotient_19 : decode cY_quotient 19 = .ok (.goto 4, 3) := by decide +kernel
theorem dY_quotient_22 : decode cY_quotient 22 = .ok (.iconst 0, 1) := by decide +kernel
theorem dY_quotient_23 : decode cY_quotient 23 = .ok (.ireturn, 1) := by decide +kernel
theorem dY_quotient_24 : decode cY_quotient 24 = .ok (.iload_n 0, 1) := by decide +kernel
theorem dY_quotient_25 : decode cY_quotient 25 = .ok (.i2l, 1) := by decide +kernel
theorem dY_quotient_26 : decode cY_quotient 26 = .ok (.iload_n 1, 1) := by decide +kernel
theorem dY_quotient_27 : decode cY_quotient 27 = .ok (.i2l, 1) := by decide +kernel
theorem dY_quotient_28 : decode cY_quotient 28 = .ok (.ldiv, 1) := by decide +kernel
theorem dY_quotient_29 : decode cY_quotient 29 = .ok (.invokestatic 115, 3) := by decide +kernel
theorem dY_quotient_32 : decode cY_quotient 32 = .ok (.ireturn, 1) := by decide +kernel
theorem dY_decimals_0 : decode cY_decimals 0 = .ok (.iload_n 0, 1) := by decide +kernel
theorem dY_decimals_1 : decode cY_decimals 1 = .ok (.ifCond .ge 9, 3) := by decide +kernel
theorem dY_decimals_4 : decode cY_decimals 4 = .ok (.iload_n 0, 1) := by decide +kernel
theorem dY_decimals_5 : decode cY_decimals 5 = .ok (.i2l, 1) := by decide +kernel
theorem dY_decimals_6 : decode cY_decimals 6 = .ok (.lneg, 1) := by decide +kernel
theorem dY_decimals_7 : decode cY_decimals 7 = .ok (.goto 5, 3) := by decide +kernel
theorem dY_decimals_10 : decode cY_decimals 10 = .ok (.iload_n 0, 1) := by decide +kernel
theorem dY_decimals_11 : decode cY_decimals 11 = .ok (.i2l, 1) := by decide +kernel
theorem dY_decimals_12 : decode cY_decimals 12 = .ok (.lstore_n 1, 1) := by decide +kernel
theorem dY_decimals_13 : decode cY_decimals 13 = .ok (.iload_n 0, 1) := by decide +kernel
theorem dY_decimals_14 : decode cY_decimals 14 = .ok (.ifCond .ge 7, 3) := by decide +kernel
theorem dY_decimals_17 : decode cY_decimals 17 = .ok (.iconst 2, 1) := by decide +kernel
theorem dY_decimals_18 : decode cY_decimals 18 = .ok (.goto 4, 3) := by decide +kernel
theorem dY_decimals_21 : decode cY_decimals 21 = .ok (.iconst 1, 1) := by decide +kernel
theorem dY_decimals_22 : decode cY_decimals 22 = .ok (.istore_n 3, 1) := by decide +kernel
theorem dY_decimals_23 : decode cY_decimals 23 = .ok (.lload_n 1, 1) := by decide +kernel
theorem dY_decimals_24 : decode cY_decimals 24 = .ok (.ldc2_w 119, 3) := by decide +kernel
theorem dY_decimals_27 : decode cY_decimals 27 = .ok (.lcmp, 1) := by decide +kernel
theorem dY_decimals_28 : decode cY_decimals 28 = .ok (.ifCond .le 15, 3) := by decide +kernel
theorem dY_decimals_31 : decode cY_decimals 31 = .ok (.lload_n 1, 1) := by decide +kernel
theorem dY_decimals_32 : decode cY_decimals 32 = .ok (.ldc2_w 121, 3) := by decide +kernel
theorem dY_decimals_35 : decode cY_decimals 35 = .ok (.ldiv, 1) := by decide +kernel
theorem dY_decimals_36 : decode cY_decimals 36 = .ok (.lstore_n 1, 1) := by decide +kernel
theorem dY_decimals_37 : decode cY_decimals 37 = .ok (.iinc 3 1, 3) := by decide +kernel
theorem dY_decimals_40 : decode cY_decimals 40 = .ok (.goto (-17), 3) := by decide +kernel
theorem dY_decimals_43 : decode cY_decimals 43 = .ok (.iload_n 3, 1) := by decide +kernel
theorem dY_decimals_44 : decode cY_decimals 44 = .ok (.ireturn, 1) := by decide +kernel
theorem dY_number_0 : decode cY_number 0 = .ok (.iload_n 1, 1) := by decide +kernel
theorem dY_number_1 : decode cY_number 1 = .ok (.tableswitch 199 0 9 #[55, 67, 77, 89, 105, 121, 131, 145, 167, 183], 55) := by decide +kernel
theorem dY_number_56 : decode cY_number 56 = .ok (.aload_n 0, 1) := by decide +kernel
theorem dY_number_57 : decode cY_number 57 = .ok (.iload_n 2, 1) := by decide +kernel
theorem dY_number_58 : decode cY_number 58 = .ok (.invokestatic 123, 3) := by decide +kernel
theorem dY_number_61 : decode cY_number 61 = .ok (.invokestatic 115, 3) := by decide +kernel
theorem dY_number_64 : decode cY_number 64 = .ok (.invokevirtual 94, 3) := by decide +kernel
theorem dY_number_67 : decode cY_number 67 = .ok (.ireturn, 1) := by decide +kernel
theorem dY_number_68 : decode cY_number 68 = .ok (.aload_n 0, 1) := by decide +kernel
theorem dY_number_69 : decode cY_number 69 = .ok (.iload_n 2, 1) := by decide +kernel
theorem dY_number_70 : decode cY_number 70 = .ok (.iload_n 3, 1) := by decide +kernel
theorem dY_number_71 : decode cY_number 71 = .ok (.invokestatic 127, 3) := by decide +kernel
theorem dY_number_74 : decode cY_number 74 = .ok (.invokevirtual 94, 3) := by decide +kernel
theorem dY_number_77 : decode cY_number 77 = .ok (.ireturn, 1) := by decide +kernel
theorem dY_number_78 : decode cY_number 78 = .ok (.aload_n 0, 1) := by decide +kernel
theorem dY_number_79 : decode cY_number 79 = .ok (.iload_n 2, 1) := by decide +kernel
theorem dY_number_80 : decode cY_number 80 = .ok (.i2b, 1) := by decide +kernel
theorem dY_number_81 : decode cY_number 81 = .ok (.iload_n 3, 1) := by decide +kernel
theorem dY_number_82 : decode cY_number 82 = .ok (.ldc 130, 2) := by decide +kernel
theorem dY_number_84 : decode cY_number 84 = .ok (.iand, 1) := by decide +kernel
theorem dY_number_85 : decode cY_number 85 = .ok (.imul, 1) := by decide +kernel
theorem dY_number_86 : decode cY_number 86 = .ok (.invokevirtual 94, 3) := by decide +kernel
theorem dY_number_89 : decode cY_number 89 = .ok (.ireturn, 1) := by decide +kernel
theorem dY_number_90 : decode cY_number 90 = .ok (.aload_n 0, 1) := by decide +kernel
theorem dY_number_91 : decode cY_number 91 = .ok (.iload_n 2, 1) := by decide +kernel
theorem dY_number_92 : decode cY_number 92 = .ok (.iload_n 3, 1) := by decide +kernel
theorem dY_number_93 : decode cY_number 93 = .ok (.ishr, 1) := by decide +kernel
theorem dY_number_94 : decode cY_number 94 = .ok (.iload_n 2, 1) := by decide +kernel
theorem dY_number_95 : decode cY_number 95 = .ok (.iload_n 3, 1) := by decide +kernel
theorem dY_number_96 : decode cY_number 96 = .ok (.iushr, 1) := by decide +kernel
theorem dY_number_97 : decode cY_number 97 = .ok (.iadd, 1) := by decide +kernel
theorem dY_number_98 : decode cY_number 98 = .ok (.iload_n 2, 1) := by decide +kernel
theorem dY_number_99 : decode cY_number 99 = .ok (.iload_n 3, 1) := by decide +kernel
theorem dY_number_100 : decode cY_number 100 = .ok (.ishl, 1) := by decide +kernel
theorem dY_number_101 : decode cY_number 101 = .ok (.iadd, 1) := by decide +kernel
theorem dY_number_102 : decode cY_number 102 = .ok (.invokevirtual 94, 3) := by decide +kernel
theorem dY_number_105 : decode cY_number 105 = .ok (.ireturn, 1) := by decide +kernel
theorem dY_number_106 : decode cY_number 106 = .ok (.iload_n 3, 1) := by decide +kernel
theorem dY_number_107 : decode cY_number 107 = .ok (.ifCond .ne 7, 3) := by decide +kernel
theorem dY_number_110 : decode cY_number 110 = .ok (.iconst 5, 1) := by decide +kernel
theorem dY_number_111 : decode cY_number 111 = .ok (.goto 10, 3) := by decide +kernel
theorem dY_number_114 : decode cY_number 114 = .ok (.aload_n 0, 1) := by decide +kernel
theorem dY_number_115 : decode cY_number 115 = .ok (.iload_n 2, 1) := by decide +kernel
theorem dY_number_116 : decode cY_number 116 = .ok (.iload_n 3, 1) := by decide +kernel
theorem dY_number_117 : decode cY_number 117 = .ok (.irem, 1) := by decide +kernel
theorem dY_number_118 : decode cY_number 118 = .ok (.invokevirtual 94, 3) := by decide +kernel
theorem dY_number_121 : decode cY_number 121 = .ok (.ireturn, 1) := by decide +kernel
theorem dY_number_122 : decode cY_number 122 = .ok (.aload_n 0, 1) := by decide +kernel
theorem dY_number_123 : decode cY_number 123 = .ok (.iload_n 2, 1) := by decide +kernel
theorem dY_number_124 : decode cY_number 124 = .ok (.i2s, 1) := by decide +kernel
theorem dY_number_125 : decode cY_number 125 = .ok (.iload_n 3, 1) := by decide +kernel
theorem dY_number_126 : decode cY_number 126 = .ok (.iadd, 1) := by decide +kernel
theorem dY_number_127 : decode cY_number 127 = .ok (.i2s, 1) := by decide +kernel
theorem dY_number_128 : decode cY_number 128 = .ok (.invokevirtual 94, 3) := by decide +kernel
theorem dY_number_131 : decode cY_number 131 = .ok (.ireturn, 1) := by decide +kernel
theorem dY_number_132 : decode cY_number 132 = .ok (.aload_n 0, 1) := by decide +kernel
theorem dY_number_133 : decode cY_number 133 = .ok (.iload_n 2, 1) := by decide +kernel
theorem dY_number_134 : decode cY_number 134 = .ok (.i2l, 1) := by decide +kernel
theorem dY_number_135 : decode cY_number 135 = .ok (.iload_n 3, 1) := by decide +kernel
theorem dY_number_136 : decode cY_number 136 = .ok (.i2l, 1) := by decide +kernel
theorem dY_number_137 : decode cY_number 137 = .ok (.lmul, 1) := by decide +kernel
theorem dY_number_138 : decode cY_number 138 = .ok (.bipush 16, 2) := by decide +kernel
theorem dY_number_140 : decode cY_number 140 = .ok (.lshr, 1) := by decide +kernel
theorem dY_number_141 : decode cY_number 141 = .ok (.l2i, 1) := by decide +kernel
theorem dY_number_142 : decode cY_number 142 = .ok (.invokevirtual 94, 3) := by decide +kernel
theorem dY_number_145 : decode cY_number 145 = .ok (.ireturn, 1) := by decide +kernel
theorem dY_number_146 : decode cY_number 146 = .ok (.aload_n 0, 1) := by decide +kernel
theorem dY_number_147 : decode cY_number 147 = .ok (.iload_n 2, 1) := by decide +kernel
theorem dY_number_148 : decode cY_number 148 = .ok (.invokestatic 123, 3) := by decide +kernel
theorem dY_number_151 : decode cY_number 151 = .ok (.iload_n 3, 1) := by decide +kernel
theorem dY_number_152 : decode cY_number 152 = .ok (.invokestatic 123, 3) := by decide +kernel
theorem dY_number_155 : decode cY_number 155 = .ok (.lcmp, 1) := by decide +kernel
theorem dY_number_156 : decode cY_number 156 = .ok (.ifCond .ne 7, 3) := by decide +kernel
theorem dY_number_159 : decode cY_number 159 = .ok (.iconst 1, 1) := by decide +kernel
theorem dY_number_160 : decode cY_number 160 = .ok (.goto 4, 3) := by decide +kernel
theorem dY_number_163 : decode cY_number 163 = .ok (.iconst 0, 1) := by decide +kernel
theorem dY_number_164 : decode cY_number 164 = .ok (.invokevirtual 94, 3) := by decide +kernel
theorem dY_number_167 : decode cY_number 167 = .ok (.ireturn, 1) := by decide +kernel
theorem dY_number_168 : decode cY_number 168 = .ok (.aload_n 0, 1) := by decide +kernel
theorem dY_number_169 : decode cY_number 169 = .ok (.iload_n 2, 1) := by decide +kernel
theorem dY_number_170 : decode cY_number 170 = .ok (.i2l, 1) := by decide +kernel
theorem dY_number_171 : decode cY_number 171 = .ok (.ldc2_w 131, 3) := by decide +kernel
theorem dY_number_174 : decode cY_number 174 = .ok (.lmul, 1) := by decide +kernel
theorem dY_number_175 : decode cY_number 175 = .ok (.ldc2_w 92, 3) := by decide +kernel
theorem dY_number_178 : decode cY_number 178 = .ok (.ldiv, 1) := by decide +kernel
theorem dY_number_179 : decode cY_number 179 = .ok (.l2i, 1) := by decide +kernel
theorem dY_number_180 : decode cY_number 180 = .ok (.invokevirtual 94, 3) := by decide +kernel
theorem dY_number_183 : decode cY_number 183 = .ok (.ireturn, 1) := by decide +kernel
theorem dY_number_184 : decode cY_number 184 = .ok (.aload_n 0, 1) := by decide +kernel
theorem dY_number_185 : decode cY_number 185 = .ok (.iload_n 2, 1) := by decide +kernel
theorem dY_number_186 : decode cY_number 186 = .ok (.invokestatic 133, 3) := by decide +kernel
theorem dY_number_189 : decode cY_number 189 = .ok (.iconst 1, 1) := by decide +kernel
theorem dY_number_190 : decode cY_number 190 = .ok (.iadd, 1) := by decide +kernel
theorem dY_number_191 : decode cY_number 191 = .ok (.iload_n 3, 1) := by decide +kernel
theorem dY_number_192 : decode cY_number 192 = .ok (.invokestatic 133, 3) := by decide +kernel
theorem dY_number_195 : decode cY_number 195 = .ok (.iadd, 1) := by decide +kernel
theorem dY_number_196 : decode cY_number 196 = .ok (.invokevirtual 94, 3) := by decide +kernel
theorem dY_number_199 : decode cY_number 199 = .ok (.ireturn, 1) := by decide +kernel
theorem dY_number_200 : decode cY_number 200 = .ok (.iconst (-1), 1) := by decide +kernel
theorem dY_number_201 : decode cY_number 201 = .ok (.ireturn, 1) := by decide +kernel
theorem dY_events_0 : decode cY_events 0 = .ok (.aload_n 0, 1) := by decide +kernel
theorem dY_events_1 : decode cY_events 1 = .ok (.getfield 45, 3) := by decide +kernel
theorem dY_events_4 : decode cY_events 4 = .ok (.ireturn, 1) := by decide +kernel
theorem dY_event_0 : decode cY_event 0 = .ok (.iload_n 1, 1) := by decide +kernel
theorem dY_event_1 : decode cY_event 1 = .ok (.iconst 0, 1) := by decide +kernel
theorem dY_event_2 : decode cY_event 2 = .ok (.bipush 15, 2) := by decide +kernel
theorem dY_event_4 : decode cY_event 4 = .ok (.invokestatic 48, 3) := by decide +kernel
theorem dY_event_7 : decode cY_event 7 = .ok (.ifCond .eq 20, 3) := by decide +kernel
theorem dY_event_10 : decode cY_event 10 = .ok (.iload_n 1, 1) := by decide +kernel
theorem dY_event_11 : decode cY_event 11 = .ok (.aload_n 0, 1) := by decide +kernel
theorem dY_event_12 : decode cY_event 12 = .ok (.getfield 45, 3) := by decide +kernel
theorem dY_event_15 : decode cY_event 15 = .ok (.if_icmp .ge 12, 3) := by decide +kernel
theorem dY_event_18 : decode cY_event 18 = .ok (.aload_n 0, 1) := by decide +kernel
theorem dY_event_19 : decode cY_event 19 = .ok (.getfield 38, 3) := by decide +kernel
theorem dY_event_22 : decode cY_event 22 = .ok (.iload_n 1, 1) := by decide +kernel
theorem dY_event_23 : decode cY_event 23 = .ok (.iaload, 1) := by decide +kernel
theorem dY_event_24 : decode cY_event 24 = .ok (.goto 4, 3) := by decide +kernel
theorem dY_event_27 : decode cY_event 27 = .ok (.iconst (-1), 1) := by decide +kernel
theorem dY_event_28 : decode cY_event 28 = .ok (.ireturn, 1) := by decide +kernel
