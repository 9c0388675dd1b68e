section
-- ===== PART A: goes FIRST, ahead of the names: the tables' words, and 'selects' of the private methods out of them =====
/-- a private method of a class that the tables say can be made, by its rows of tables_1 -/
def lw_okq (q : MethodName × Nat) : Prop := (q.1.cls ≠ "java/lang/invoke/MethodHandle" ∧ q.1.cls ≠ "java/lang/invoke/VarHandle") ∧ Cond.instantiable q.1.cls q.2 ∈ tables_1 ∧ Cond.privateMethod q.1 ∈ tables_1 ∧ Cond.instanceMethod q.1 ∈ tables_1
theorem lw_p0 : lw_okq (⟨"FamilyProbes", "putRepeater", "(ILFamilyProbes$Thing;)I"⟩, 9) := ⟨⟨by decide +kernel, by decide +kernel⟩, List.mem_of_getElem? (i := 5) (by decide +kernel), List.mem_of_getElem? (i := 79) (by decide +kernel), List.mem_of_getElem? (i := 80) (by decide +kernel)⟩
theorem lw_p1 : lw_okq (⟨"FamilyProbes", "newThing", "(II)LFamilyProbes$Thing;"⟩, 9) := ⟨⟨by decide +kernel, by decide +kernel⟩, List.mem_of_getElem? (i := 5) (by decide +kernel), List.mem_of_getElem? (i := 83) (by decide +kernel), List.mem_of_getElem? (i := 84) (by decide +kernel)⟩
theorem lw_p2 : lw_okq (⟨"FamilyProbes", "newBase", "(II)LFamilyProbes$Thing;"⟩, 9) := ⟨⟨by decide +kernel, by decide +kernel⟩, List.mem_of_getElem? (i := 5) (by decide +kernel), List.mem_of_getElem? (i := 87) (by decide +kernel), List.mem_of_getElem? (i := 88) (by decide +kernel)⟩
theorem lw_p3 : lw_okq (⟨"FamilyProbes", "note", "(I)V"⟩, 9) := ⟨⟨by decide +kernel, by decide +kernel⟩, List.mem_of_getElem? (i := 5) (by decide +kernel), List.mem_of_getElem? (i := 94) (by decide +kernel), List.mem_of_getElem? (i := 95) (by decide +kernel)⟩
theorem lw_p4 : lw_okq (⟨"FamilyProbes", "wentWith", "(I)I"⟩, 9) := ⟨⟨by decide +kernel, by decide +kernel⟩, List.mem_of_getElem? (i := 5) (by decide +kernel), List.mem_of_getElem? (i := 114) (by decide +kernel), List.mem_of_getElem? (i := 115) (by decide +kernel)⟩
theorem lw_p5 : lw_okq (⟨"FamilyProbes", "answerOf", "(LFamilyProbes$Thing;III)I"⟩, 9) := ⟨⟨by decide +kernel, by decide +kernel⟩, List.mem_of_getElem? (i := 5) (by decide +kernel), List.mem_of_getElem? (i := 126) (by decide +kernel), List.mem_of_getElem? (i := 127) (by decide +kernel)⟩
theorem lw_p6 : lw_okq (⟨"FamilyProbes", "callOf", "(LFamilyProbes$Thing;I)I"⟩, 9) := ⟨⟨by decide +kernel, by decide +kernel⟩, List.mem_of_getElem? (i := 5) (by decide +kernel), List.mem_of_getElem? (i := 130) (by decide +kernel), List.mem_of_getElem? (i := 131) (by decide +kernel)⟩
theorem lw_p7 : lw_okq (⟨"FamilyProbes", "twiceOf", "(LFamilyProbes$Thing;I)I"⟩, 9) := ⟨⟨by decide +kernel, by decide +kernel⟩, List.mem_of_getElem? (i := 5) (by decide +kernel), List.mem_of_getElem? (i := 134) (by decide +kernel), List.mem_of_getElem? (i := 135) (by decide +kernel)⟩
theorem lw_p8 : lw_okq (⟨"FamilyProbes", "twiceAsLoud", "(LFamilyProbes$Thing;I)I"⟩, 9) := ⟨⟨by decide +kernel, by decide +kernel⟩, List.mem_of_getElem? (i := 5) (by decide +kernel), List.mem_of_getElem? (i := 138) (by decide +kernel), List.mem_of_getElem? (i := 139) (by decide +kernel)⟩
theorem lw_p9 : lw_okq (⟨"FamilyProbes", "twiceAsSoft", "(LFamilyProbes$Thing;I)I"⟩, 9) := ⟨⟨by decide +kernel, by decide +kernel⟩, List.mem_of_getElem? (i := 5) (by decide +kernel), List.mem_of_getElem? (i := 142) (by decide +kernel), List.mem_of_getElem? (i := 143) (by decide +kernel)⟩
theorem lw_p10 : lw_okq (⟨"FamilyProbes", "putInRow", "(IILFamilyProbes$Thing;)I"⟩, 9) := ⟨⟨by decide +kernel, by decide +kernel⟩, List.mem_of_getElem? (i := 5) (by decide +kernel), List.mem_of_getElem? (i := 177) (by decide +kernel), List.mem_of_getElem? (i := 178) (by decide +kernel)⟩
theorem lw_p11 : lw_okq (⟨"FamilyProbes", "divideNoting", "(II)I"⟩, 9) := ⟨⟨by decide +kernel, by decide +kernel⟩, List.mem_of_getElem? (i := 5) (by decide +kernel), List.mem_of_getElem? (i := 202) (by decide +kernel), List.mem_of_getElem? (i := 203) (by decide +kernel)⟩
theorem lw_p12 : lw_okq (⟨"FamilyProbes", "countTurns", "(II)I"⟩, 9) := ⟨⟨by decide +kernel, by decide +kernel⟩, List.mem_of_getElem? (i := 5) (by decide +kernel), List.mem_of_getElem? (i := 206) (by decide +kernel), List.mem_of_getElem? (i := 207) (by decide +kernel)⟩
theorem lw_p13 : lw_okq (⟨"FamilyProbes", "openWorkClose", "(II)I"⟩, 9) := ⟨⟨by decide +kernel, by decide +kernel⟩, List.mem_of_getElem? (i := 5) (by decide +kernel), List.mem_of_getElem? (i := 210) (by decide +kernel), List.mem_of_getElem? (i := 211) (by decide +kernel)⟩
theorem lw_p14 : lw_okq (⟨"FamilyProbes", "squareInRow", "(II)I"⟩, 9) := ⟨⟨by decide +kernel, by decide +kernel⟩, List.mem_of_getElem? (i := 5) (by decide +kernel), List.mem_of_getElem? (i := 220) (by decide +kernel), List.mem_of_getElem? (i := 221) (by decide +kernel)⟩
theorem lw_p15 : lw_okq (⟨"FamilyProbesModel", "depth", "(I)I"⟩, 13) := ⟨⟨by decide +kernel, by decide +kernel⟩, List.mem_of_getElem? (i := 248) (by decide +kernel), List.mem_of_getElem? (i := 304) (by decide +kernel), List.mem_of_getElem? (i := 305) (by decide +kernel)⟩
def lw_privs_1 : List (MethodName × Nat) := [(⟨"FamilyProbes", "putRepeater", "(ILFamilyProbes$Thing;)I"⟩, 9), (⟨"FamilyProbes", "newThing", "(II)LFamilyProbes$Thing;"⟩, 9), (⟨"FamilyProbes", "newBase", "(II)LFamilyProbes$Thing;"⟩, 9), (⟨"FamilyProbes", "note", "(I)V"⟩, 9), (⟨"FamilyProbes", "wentWith", "(I)I"⟩, 9), (⟨"FamilyProbes", "answerOf", "(LFamilyProbes$Thing;III)I"⟩, 9), (⟨"FamilyProbes", "callOf", "(LFamilyProbes$Thing;I)I"⟩, 9), (⟨"FamilyProbes", "twiceOf", "(LFamilyProbes$Thing;I)I"⟩, 9), (⟨"FamilyProbes", "twiceAsLoud", "(LFamilyProbes$Thing;I)I"⟩, 9), (⟨"FamilyProbes", "twiceAsSoft", "(LFamilyProbes$Thing;I)I"⟩, 9), (⟨"FamilyProbes", "putInRow", "(IILFamilyProbes$Thing;)I"⟩, 9), (⟨"FamilyProbes", "divideNoting", "(II)I"⟩, 9), (⟨"FamilyProbes", "countTurns", "(II)I"⟩, 9), (⟨"FamilyProbes", "openWorkClose", "(II)I"⟩, 9), (⟨"FamilyProbes", "squareInRow", "(II)I"⟩, 9), (⟨"FamilyProbesModel", "depth", "(I)I"⟩, 13)]
theorem lw_r1 : ∀ q ∈ lw_privs_1, lw_okq q := List.forall_mem_cons.mpr ⟨lw_p0, List.forall_mem_cons.mpr ⟨lw_p1, List.forall_mem_cons.mpr ⟨lw_p2, List.forall_mem_cons.mpr ⟨lw_p3, List.forall_mem_cons.mpr ⟨lw_p4, List.forall_mem_cons.mpr ⟨lw_p5, List.forall_mem_cons.mpr ⟨lw_p6, List.forall_mem_cons.mpr ⟨lw_p7, List.forall_mem_cons.mpr ⟨lw_p8, List.forall_mem_cons.mpr ⟨lw_p9, List.forall_mem_cons.mpr ⟨lw_p10, List.forall_mem_cons.mpr ⟨lw_p11, List.forall_mem_cons.mpr ⟨lw_p12, List.forall_mem_cons.mpr ⟨lw_p13, List.forall_mem_cons.mpr ⟨lw_p14, List.forall_mem_cons.mpr ⟨lw_p15, fun _ h => absurd h List.not_mem_nil⟩⟩⟩⟩⟩⟩⟩⟩⟩⟩⟩⟩⟩⟩⟩⟩
theorem lw_p16 : lw_okq (⟨"FamilyProbesModel", "note", "(I)V"⟩, 13) := ⟨⟨by decide +kernel, by decide +kernel⟩, List.mem_of_getElem? (i := 248) (by decide +kernel), List.mem_of_getElem? (i := 308) (by decide +kernel), List.mem_of_getElem? (i := 309) (by decide +kernel)⟩
theorem lw_p17 : lw_okq (⟨"FamilyProbesModel", "of", "(II)Z"⟩, 13) := ⟨⟨by decide +kernel, by decide +kernel⟩, List.mem_of_getElem? (i := 248) (by decide +kernel), List.mem_of_getElem? (i := 312) (by decide +kernel), List.mem_of_getElem? (i := 313) (by decide +kernel)⟩
theorem lw_p18 : lw_okq (⟨"FamilyProbesModel", "seed", "(I)I"⟩, 13) := ⟨⟨by decide +kernel, by decide +kernel⟩, List.mem_of_getElem? (i := 248) (by decide +kernel), List.mem_of_getElem? (i := 316) (by decide +kernel), List.mem_of_getElem? (i := 317) (by decide +kernel)⟩
theorem lw_p19 : lw_okq (⟨"FamilyProbesModel", "answer", "(IIII)I"⟩, 13) := ⟨⟨by decide +kernel, by decide +kernel⟩, List.mem_of_getElem? (i := 248) (by decide +kernel), List.mem_of_getElem? (i := 328) (by decide +kernel), List.mem_of_getElem? (i := 329) (by decide +kernel)⟩
theorem lw_p20 : lw_okq (⟨"FamilyProbesModel", "call", "(II)I"⟩, 13) := ⟨⟨by decide +kernel, by decide +kernel⟩, List.mem_of_getElem? (i := 248) (by decide +kernel), List.mem_of_getElem? (i := 332) (by decide +kernel), List.mem_of_getElem? (i := 333) (by decide +kernel)⟩
theorem lw_p21 : lw_okq (⟨"FamilyProbesModel", "twice", "(II)I"⟩, 13) := ⟨⟨by decide +kernel, by decide +kernel⟩, List.mem_of_getElem? (i := 248) (by decide +kernel), List.mem_of_getElem? (i := 336) (by decide +kernel), List.mem_of_getElem? (i := 337) (by decide +kernel)⟩
theorem lw_p22 : lw_okq (⟨"FamilyProbesModel", "volume", "(II)I"⟩, 13) := ⟨⟨by decide +kernel, by decide +kernel⟩, List.mem_of_getElem? (i := 248) (by decide +kernel), List.mem_of_getElem? (i := 340) (by decide +kernel), List.mem_of_getElem? (i := 341) (by decide +kernel)⟩
theorem lw_p23 : lw_okq (⟨"FamilyProbesModel", "weight", "(I)I"⟩, 13) := ⟨⟨by decide +kernel, by decide +kernel⟩, List.mem_of_getElem? (i := 248) (by decide +kernel), List.mem_of_getElem? (i := 344) (by decide +kernel), List.mem_of_getElem? (i := 345) (by decide +kernel)⟩
theorem lw_p24 : lw_okq (⟨"FamilyProbesModel", "fits", "(II)Z"⟩, 13) := ⟨⟨by decide +kernel, by decide +kernel⟩, List.mem_of_getElem? (i := 248) (by decide +kernel), List.mem_of_getElem? (i := 364) (by decide +kernel), List.mem_of_getElem? (i := 365) (by decide +kernel)⟩
theorem lw_p25 : lw_okq (⟨"FamilyProbesModel", "given", "(I)I"⟩, 13) := ⟨⟨by decide +kernel, by decide +kernel⟩, List.mem_of_getElem? (i := 248) (by decide +kernel), List.mem_of_getElem? (i := 385) (by decide +kernel), List.mem_of_getElem? (i := 386) (by decide +kernel)⟩
theorem lw_p26 : lw_okq (⟨"FamilyProbesModel", "turns", "(II)I"⟩, 13) := ⟨⟨by decide +kernel, by decide +kernel⟩, List.mem_of_getElem? (i := 248) (by decide +kernel), List.mem_of_getElem? (i := 389) (by decide +kernel), List.mem_of_getElem? (i := 390) (by decide +kernel)⟩
theorem lw_p27 : lw_okq (⟨"FamilyProbesModel", "closings", "(II)I"⟩, 13) := ⟨⟨by decide +kernel, by decide +kernel⟩, List.mem_of_getElem? (i := 248) (by decide +kernel), List.mem_of_getElem? (i := 393) (by decide +kernel), List.mem_of_getElem? (i := 394) (by decide +kernel)⟩
def lw_privs_2 : List (MethodName × Nat) := [(⟨"FamilyProbesModel", "note", "(I)V"⟩, 13), (⟨"FamilyProbesModel", "of", "(II)Z"⟩, 13), (⟨"FamilyProbesModel", "seed", "(I)I"⟩, 13), (⟨"FamilyProbesModel", "answer", "(IIII)I"⟩, 13), (⟨"FamilyProbesModel", "call", "(II)I"⟩, 13), (⟨"FamilyProbesModel", "twice", "(II)I"⟩, 13), (⟨"FamilyProbesModel", "volume", "(II)I"⟩, 13), (⟨"FamilyProbesModel", "weight", "(I)I"⟩, 13), (⟨"FamilyProbesModel", "fits", "(II)Z"⟩, 13), (⟨"FamilyProbesModel", "given", "(I)I"⟩, 13), (⟨"FamilyProbesModel", "turns", "(II)I"⟩, 13), (⟨"FamilyProbesModel", "closings", "(II)I"⟩, 13)]
theorem lw_r2 : ∀ q ∈ lw_privs_2, lw_okq q := List.forall_mem_cons.mpr ⟨lw_p16, List.forall_mem_cons.mpr ⟨lw_p17, List.forall_mem_cons.mpr ⟨lw_p18, List.forall_mem_cons.mpr ⟨lw_p19, List.forall_mem_cons.mpr ⟨lw_p20, List.forall_mem_cons.mpr ⟨lw_p21, List.forall_mem_cons.mpr ⟨lw_p22, List.forall_mem_cons.mpr ⟨lw_p23, List.forall_mem_cons.mpr ⟨lw_p24, List.forall_mem_cons.mpr ⟨lw_p25, List.forall_mem_cons.mpr ⟨lw_p26, List.forall_mem_cons.mpr ⟨lw_p27, fun _ h => absurd h List.not_mem_nil⟩⟩⟩⟩⟩⟩⟩⟩⟩⟩⟩⟩
def lw_privs : List (MethodName × Nat) := lw_privs_1 ++ (lw_privs_2)
def lw_tbl : List Cond := k2_sels lw_privs ++ tables_1
theorem lw_privs_ok : ∀ q ∈ lw_privs, lw_okq q := by
  show ∀ q ∈ lw_privs_1 ++ (lw_privs_2), lw_okq q
  exact List.forall_mem_append.mpr ⟨lw_r1, lw_r2⟩
end
section
/-! ===== BEGIN words of one list among another's, by their places ===== -/
theorem goodIn_r {big : List Cond} (ws : List Cond) (ps : List Nat) (hp : ws = ps.filterMap (fun i => big[i]?)) (h : ws.all goodWord = true) : GoodIn big ws := by
  intro w hw
  have h1 := List.all_eq_true.mp h w hw
  rw [hp] at hw
  obtain ⟨i, -, hi⟩ := List.mem_filterMap.mp hw
  have hm : w ∈ big := by first | exact List.mem_of_getElem? hi | exact List.getElem?_mem hi
  exact ⟨hm, good_of_word h1⟩
theorem goodIn_app {big a b : List Cond} (ha : GoodIn big a) (hb : GoodIn big b) : GoodIn big (a ++ b) := fun w h => (List.mem_append.mp h).elim (ha w) (hb w)
theorem goodIn_ca {big a b : List Cond} {c : Cond} (ha : GoodIn big (c :: a)) (hb : GoodIn big b) : GoodIn big (c :: (a ++ b)) := fun w h => (List.mem_cons.mp h).elim (fun e => ha w (List.mem_cons.mpr (Or.inl e))) (fun h => (List.mem_append.mp h).elim (fun h => ha w (List.mem_cons.mpr (Or.inr h))) (hb w))
theorem goodIn_sub {big ws : List Cond} (hm : ∀ w ∈ ws, w ∈ big) (h : ws.all goodWord = true) : GoodIn big ws := fun w hw => ⟨hm w hw, good_of_word (List.all_eq_true.mp h w hw)⟩
/-! ===== END ===== -/

/-! ===== BEGIN printed: names, fields, word lists, decode rows ===== -/
def RX0 : String := "FamilyProbes$Thing"
def TX0 : u_T := fun k => match k with
  | 0 => ("FamilyProbes$Thing", "kind", "I", true)
  | 1 => ("FamilyProbes$Thing", "n", "I", true)
  | 2 => ("FamilyProbes$Thing", "source", "LFamilyProbes$Thing;", true)
  | 3 => ("FamilyProbes$Thing", "repeaters", "I", true)
  | 4 => ("FamilyProbes$Thing", "bonus", "I", false)
  | _ => ("FamilyProbes$Thing", "extra", "I", false)
def tyX0 : Nat → FieldType := fun k => match k with
  | 0 => .int
  | 1 => .int
  | 2 => .object "FamilyProbes$Thing"
  | 3 => .int
  | 4 => .int
  | _ => .int
abbrev wsX00 : List Cond := u_ws RX0 TX0 6
theorem nmX0 : ∀ a, a < 6 → ∀ b, b < 6 → a ≠ b → (TX0 a).2.1 ≠ (TX0 b).2.1 := by decide +kernel
theorem tyX0_ok : ∀ k, k < 6 → parseFieldDescriptor (TX0 k).2.2.1 = some (tyX0 k) := by decide +kernel
abbrev cX0_init : ByteArray := prog_2_method_1_code
def yX0_init : MethodName := ⟨RX0, "<init>", "(IILFamilyProbes$Thing;)V"⟩
def RX1 : String := "FamilyProbes"
def TX1 : u_T := fun k => match k with
  | 0 => ("FamilyProbes", "wren", "LFamilyProbes$Thing;", true)
  | 1 => ("FamilyProbes", "owl", "LFamilyProbes$Thing;", true)
  | 2 => ("FamilyProbes", "slots", "[LFamilyProbes$Thing;", true)
  | 3 => ("FamilyProbes", "places", "[LFamilyProbes$Thing;", true)
  | 4 => ("FamilyProbes", "passing", "[LFamilyProbes$Thing;", true)
  | 5 => ("FamilyProbes", "lastEvents", "[I", true)
  | 6 => ("FamilyProbes", "eventCount", "I", false)
  | 7 => ("FamilyProbes", "shadowCalls", "I", false)
  | _ => ("FamilyProbes", "lastValue", "I", false)
def tyX1 : Nat → FieldType := fun k => match k with
  | 0 => .object "FamilyProbes$Thing"
  | 1 => .object "FamilyProbes$Thing"
  | 2 => .array (.object "FamilyProbes$Thing")
  | 3 => .array (.object "FamilyProbes$Thing")
  | 4 => .array (.object "FamilyProbes$Thing")
  | 5 => .array .int
  | 6 => .int
  | 7 => .int
  | _ => .int
abbrev wsX10 : List Cond := u_ws RX1 TX1 9
theorem nmX1 : ∀ a, a < 9 → ∀ b, b < 9 → a ≠ b → (TX1 a).2.1 ≠ (TX1 b).2.1 := by decide +kernel
theorem tyX1_ok : ∀ k, k < 9 → parseFieldDescriptor (TX1 k).2.2.1 = some (tyX1 k) := by decide +kernel
abbrev cX1_init : ByteArray := prog_1_method_1_code
def yX1_init : MethodName := ⟨RX1, "<init>", "()V"⟩
abbrev cX1_make : ByteArray := prog_1_method_2_code
def yX1_make : MethodName := ⟨RX1, "make", "(III)I"⟩
abbrev cX1_drop : ByteArray := prog_1_method_3_code
def yX1_drop : MethodName := ⟨RX1, "drop", "(I)I"⟩
abbrev cX1_probe : ByteArray := prog_1_method_4_code
def yX1_probe : MethodName := ⟨RX1, "probe", "(IIIII)I"⟩
abbrev cX1_value : ByteArray := prog_1_method_5_code
def yX1_value : MethodName := ⟨RX1, "value", "()I"⟩
abbrev cX1_is : ByteArray := prog_1_method_6_code
def yX1_is : MethodName := ⟨RX1, "is", "(II)Z"⟩
abbrev cX1_same : ByteArray := prog_1_method_7_code
def yX1_same : MethodName := ⟨RX1, "same", "(II)Z"⟩
abbrev cX1_store : ByteArray := prog_1_method_8_code
def yX1_store : MethodName := ⟨RX1, "store", "(III)I"⟩
abbrev cX1_load : ByteArray := prog_1_method_9_code
def yX1_load : MethodName := ⟨RX1, "load", "(III)I"⟩
abbrev cX1_copy : ByteArray := prog_1_method_10_code
def yX1_copy : MethodName := ⟨RX1, "copy", "(IIIII)I"⟩
abbrev cX1_compare : ByteArray := prog_1_method_11_code
def yX1_compare : MethodName := ⟨RX1, "compare", "(II)I"⟩
abbrev cX1_flow : ByteArray := prog_1_method_12_code
def yX1_flow : MethodName := ⟨RX1, "flow", "(III)I"⟩
abbrev cX1_number : ByteArray := prog_1_method_13_code
def yX1_number : MethodName := ⟨RX1, "number", "(III)I"⟩
abbrev cX1_isBelow : ByteArray := prog_1_method_16_code
def yX1_isBelow : MethodName := ⟨RX1, "isBelow", "(II)Z"⟩
abbrev cX1_isStretch : ByteArray := prog_1_method_17_code
def yX1_isStretch : MethodName := ⟨RX1, "isStretch", "(II)Z"⟩
abbrev cX1_holds : ByteArray := prog_1_method_18_code
def yX1_holds : MethodName := ⟨RX1, "holds", "(II)Z"⟩
abbrev cX1_isOfType : ByteArray := prog_1_method_19_code
def yX1_isOfType : MethodName := ⟨RX1, "isOfType", "(LFamilyProbes$Thing;I)Z"⟩
abbrev cX1_wentWith : ByteArray := prog_1_method_20_code
def yX1_wentWith : MethodName := ⟨RX1, "wentWith", "(I)I"⟩
abbrev cX1_note : ByteArray := prog_1_method_21_code
def yX1_note : MethodName := ⟨RX1, "note", "(I)V"⟩
abbrev cX1_putRepeater : ByteArray := prog_1_method_22_code
def yX1_putRepeater : MethodName := ⟨RX1, "putRepeater", "(ILFamilyProbes$Thing;)I"⟩
abbrev cX1_newThing : ByteArray := prog_1_method_23_code
def yX1_newThing : MethodName := ⟨RX1, "newThing", "(II)LFamilyProbes$Thing;"⟩
abbrev cX1_newBase : ByteArray := prog_1_method_24_code
def yX1_newBase : MethodName := ⟨RX1, "newBase", "(II)LFamilyProbes$Thing;"⟩
abbrev cX1_putInRow : ByteArray := prog_1_method_25_code
def yX1_putInRow : MethodName := ⟨RX1, "putInRow", "(IILFamilyProbes$Thing;)I"⟩
abbrev cX1_answerOf : ByteArray := prog_1_method_26_code
def yX1_answerOf : MethodName := ⟨RX1, "answerOf", "(LFamilyProbes$Thing;III)I"⟩
abbrev cX1_callOf : ByteArray := prog_1_method_27_code
def yX1_callOf : MethodName := ⟨RX1, "callOf", "(LFamilyProbes$Thing;I)I"⟩
abbrev cX1_twiceOf : ByteArray := prog_1_method_28_code
def yX1_twiceOf : MethodName := ⟨RX1, "twiceOf", "(LFamilyProbes$Thing;I)I"⟩
abbrev cX1_twiceAsLoud : ByteArray := prog_1_method_29_code
def yX1_twiceAsLoud : MethodName := ⟨RX1, "twiceAsLoud", "(LFamilyProbes$Thing;I)I"⟩
abbrev cX1_twiceAsSoft : ByteArray := prog_1_method_30_code
def yX1_twiceAsSoft : MethodName := ⟨RX1, "twiceAsSoft", "(LFamilyProbes$Thing;I)I"⟩
abbrev cX1_volumeOf : ByteArray := prog_1_method_31_code
def yX1_volumeOf : MethodName := ⟨RX1, "volumeOf", "(LFamilyProbes$Thing;I)I"⟩
abbrev cX1_weightOf : ByteArray := prog_1_method_32_code
def yX1_weightOf : MethodName := ⟨RX1, "weightOf", "(LFamilyProbes$Thing;)I"⟩
abbrev cX1_weightAsBase : ByteArray := prog_1_method_33_code
def yX1_weightAsBase : MethodName := ⟨RX1, "weightAsBase", "(LFamilyProbes$Thing;)I"⟩
abbrev cX1_weightAsCat : ByteArray := prog_1_method_34_code
def yX1_weightAsCat : MethodName := ⟨RX1, "weightAsCat", "(LFamilyProbes$Thing;)I"⟩
abbrev cX1_seedOf : ByteArray := prog_1_method_35_code
def yX1_seedOf : MethodName := ⟨RX1, "seedOf", "(LFamilyProbes$Thing;)I"⟩
abbrev cX1_markOf : ByteArray := prog_1_method_36_code
def yX1_markOf : MethodName := ⟨RX1, "markOf", "(I)I"⟩
abbrev cX1_toneOf : ByteArray := prog_1_method_37_code
def yX1_toneOf : MethodName := ⟨RX1, "toneOf", "(I)I"⟩
abbrev cX1_rankOf : ByteArray := prog_1_method_38_code
def yX1_rankOf : MethodName := ⟨RX1, "rankOf", "(II)I"⟩
abbrev cX1_divideNoting : ByteArray := prog_1_method_39_code
def yX1_divideNoting : MethodName := ⟨RX1, "divideNoting", "(II)I"⟩
abbrev cX1_countTurns : ByteArray := prog_1_method_40_code
def yX1_countTurns : MethodName := ⟨RX1, "countTurns", "(II)I"⟩
abbrev cX1_openWorkClose : ByteArray := prog_1_method_41_code
def yX1_openWorkClose : MethodName := ⟨RX1, "openWorkClose", "(II)I"⟩
abbrev cX1_withFailure : ByteArray := prog_1_method_42_code
def yX1_withFailure : MethodName := ⟨RX1, "withFailure", "(II)I"⟩
abbrev cX1_workByWord : ByteArray := prog_1_method_43_code
def yX1_workByWord : MethodName := ⟨RX1, "workByWord", "(II)I"⟩
abbrev cX1_squareInRow : ByteArray := prog_1_method_44_code
def yX1_squareInRow : MethodName := ⟨RX1, "squareInRow", "(II)I"⟩
abbrev cX1_putAtToldPlace : ByteArray := prog_1_method_45_code
def yX1_putAtToldPlace : MethodName := ⟨RX1, "putAtToldPlace", "(I)I"⟩
abbrev cX1_quotientOfDoubles : ByteArray := prog_1_method_46_code
def yX1_quotientOfDoubles : MethodName := ⟨RX1, "quotientOfDoubles", "(II)I"⟩
abbrev cX1_decimalLength : ByteArray := prog_1_method_47_code
def yX1_decimalLength : MethodName := ⟨RX1, "decimalLength", "(I)I"⟩
def RL : String := "FamilyProbesLaw"
abbrev cL_law : ByteArray := code
def yL_law : MethodName := ⟨RL, "law", "([I)Z"⟩
def wsX0_init : List Cond := .code yX0_init cX0_init 4 none :: ([.methodLink RX0 1 objectInit, .instanceMethod objectInit, .code objectInit ⟨#[0xb1]⟩ 1 none, .fieldLink RX0 7 "FamilyProbes$Thing" "kind" "I", .fieldLink RX0 13 "FamilyProbes$Thing" "n" "I", .fieldLink RX0 16 "FamilyProbes$Thing" "source" "LFamilyProbes$Thing;", .fieldLink RX0 20 "FamilyProbes$Thing" "repeaters" "I"] ++ wsX00)
def wsX1_init : List Cond := .code yX1_init cX1_init 1 none :: ([.methodLink RX1 3 objectInit, .instanceMethod objectInit, .code objectInit ⟨#[0xb1]⟩ 1 none, .classLink RX1 9 RX0, .instantiable RX0 6, .initialized RX0, .fieldLink RX1 14 "FamilyProbes" "wren" "LFamilyProbes$Thing;", .fieldLink RX1 18 "FamilyProbes" "owl" "LFamilyProbes$Thing;", .fieldLink RX1 21 "FamilyProbes" "slots" "[LFamilyProbes$Thing;", .fieldLink RX1 25 "FamilyProbes" "places" "[LFamilyProbes$Thing;", .fieldLink RX1 28 "FamilyProbes" "passing" "[LFamilyProbes$Thing;", .arrayClass .int, .fieldLink RX1 31 "FamilyProbes" "lastEvents" "[I", .instanceMethod yX0_init, .code yX0_init cX0_init 4 none, .methodLink RX0 1 objectInit, .fieldLink RX0 7 "FamilyProbes$Thing" "kind" "I", .fieldLink RX0 13 "FamilyProbes$Thing" "n" "I", .fieldLink RX0 16 "FamilyProbes$Thing" "source" "LFamilyProbes$Thing;", .fieldLink RX0 20 "FamilyProbes$Thing" "repeaters" "I"] ++ wsX00 ++ wsX10)
def wsX1_isBelow : List Cond := .code yX1_isBelow cX1_isBelow 2 (some .boolean) :: ([])
def wsX1_putRepeater : List Cond := .code yX1_putRepeater cX1_putRepeater 3 (some .int) :: ([.fieldLink RX1 21 "FamilyProbes" "slots" "[LFamilyProbes$Thing;", .classLink RX1 9 RX0, .instantiable RX0 6, .initialized RX0, .instanceMethod yX0_init, .code yX0_init cX0_init 4 none, .methodLink RX0 1 objectInit, .instanceMethod objectInit, .code objectInit ⟨#[0xb1]⟩ 1 none, .fieldLink RX0 7 "FamilyProbes$Thing" "kind" "I", .fieldLink RX0 13 "FamilyProbes$Thing" "n" "I", .fieldLink RX0 16 "FamilyProbes$Thing" "source" "LFamilyProbes$Thing;", .fieldLink RX0 20 "FamilyProbes$Thing" "repeaters" "I"] ++ wsX00 ++ wsX10)
def wsX1_seedOf : List Cond := .code yX1_seedOf cX1_seedOf 1 (some .int) :: ([] ++ wsX00)
def wsX1_note : List Cond := .code yX1_note cX1_note 2 none :: ([.fieldLink RX1 31 "FamilyProbes" "lastEvents" "[I", .fieldLink RX1 112 "FamilyProbes" "eventCount" "I"] ++ wsX10)
def wsX1_newBase : List Cond := .code yX1_newBase cX1_newBase 4 (some (.object "FamilyProbes$Thing")) :: ([.classLink RX1 9 RX0, .instantiable RX0 6, .initialized RX0, .instanceMethod yX0_init, .code yX0_init cX0_init 4 none, .methodLink RX0 1 objectInit, .instanceMethod objectInit, .code objectInit ⟨#[0xb1]⟩ 1 none, .fieldLink RX0 7 "FamilyProbes$Thing" "kind" "I", .fieldLink RX0 13 "FamilyProbes$Thing" "n" "I", .fieldLink RX0 16 "FamilyProbes$Thing" "source" "LFamilyProbes$Thing;", .fieldLink RX0 20 "FamilyProbes$Thing" "repeaters" "I", .methodLink RX1 127 yX1_seedOf, .static yX1_seedOf, .initialized RX1, .code yX1_seedOf cX1_seedOf 1 (some .int), .methodLink RX1 131 yX1_note, .instanceMethod yX1_note, .selects RX1 yX1_note yX1_note, .code yX1_note cX1_note 2 none, .fieldLink RX1 31 "FamilyProbes" "lastEvents" "[I", .fieldLink RX1 112 "FamilyProbes" "eventCount" "I"] ++ wsX00 ++ wsX10)
def wsX1_newThing_r1 : List Cond := [Cond.fieldLink RX1 14 "FamilyProbes" "wren" "LFamilyProbes$Thing;", Cond.fieldLink RX1 18 "FamilyProbes" "owl" "LFamilyProbes$Thing;", Cond.classLink RX1 9 RX0, Cond.instantiable RX0 6, Cond.initialized RX0, Cond.methodLink RX1 124 yX1_newBase, Cond.instanceMethod yX1_newBase, Cond.selects RX1 yX1_newBase yX1_newBase, Cond.initialized RX1, Cond.code yX1_newBase cX1_newBase 4 (some (.object "FamilyProbes$Thing")), Cond.instanceMethod yX0_init, Cond.code yX0_init cX0_init 4 none, Cond.methodLink RX0 1 objectInit, Cond.instanceMethod objectInit, Cond.code objectInit ⟨#[0xb1]⟩ 1 none, Cond.fieldLink RX0 7 "FamilyProbes$Thing" "kind" "I", Cond.fieldLink RX0 13 "FamilyProbes$Thing" "n" "I", Cond.fieldLink RX0 16 "FamilyProbes$Thing" "source" "LFamilyProbes$Thing;", Cond.fieldLink RX0 20 "FamilyProbes$Thing" "repeaters" "I", Cond.methodLink RX1 127 yX1_seedOf, Cond.static yX1_seedOf, Cond.code yX1_seedOf cX1_seedOf 1 (some .int), Cond.methodLink RX1 131 yX1_note, Cond.instanceMethod yX1_note]
def wsX1_newThing_r2 : List Cond := [Cond.selects RX1 yX1_note yX1_note, Cond.code yX1_note cX1_note 2 none, Cond.fieldLink RX1 31 "FamilyProbes" "lastEvents" "[I", Cond.fieldLink RX1 112 "FamilyProbes" "eventCount" "I"]
def wsX1_newThing : List Cond := .code yX1_newThing cX1_newThing 3 (some (.object "FamilyProbes$Thing")) :: ((wsX1_newThing_r1 ++ wsX1_newThing_r2) ++ wsX10 ++ wsX00)
def wsX1_make_r1 : List Cond := [Cond.fieldLink RX1 21 "FamilyProbes" "slots" "[LFamilyProbes$Thing;", Cond.methodLink RX1 35 yX1_isBelow, Cond.static yX1_isBelow, Cond.initialized RX1, Cond.code yX1_isBelow cX1_isBelow 2 (some .boolean), Cond.methodLink RX1 39 yX1_putRepeater, Cond.instanceMethod yX1_putRepeater, Cond.selects RX1 yX1_putRepeater yX1_putRepeater, Cond.code yX1_putRepeater cX1_putRepeater 3 (some .int), Cond.classLink RX1 9 RX0, Cond.instantiable RX0 6, Cond.initialized RX0, Cond.instanceMethod yX0_init, Cond.code yX0_init cX0_init 4 none, Cond.methodLink RX0 1 objectInit, Cond.instanceMethod objectInit, Cond.code objectInit ⟨#[0xb1]⟩ 1 none, Cond.fieldLink RX0 7 "FamilyProbes$Thing" "kind" "I", Cond.fieldLink RX0 13 "FamilyProbes$Thing" "n" "I", Cond.fieldLink RX0 16 "FamilyProbes$Thing" "source" "LFamilyProbes$Thing;", Cond.fieldLink RX0 20 "FamilyProbes$Thing" "repeaters" "I", Cond.methodLink RX1 43 yX1_newThing, Cond.instanceMethod yX1_newThing, Cond.selects RX1 yX1_newThing yX1_newThing]
def wsX1_make_r2 : List Cond := [Cond.code yX1_newThing cX1_newThing 3 (some (.object "FamilyProbes$Thing")), Cond.fieldLink RX1 14 "FamilyProbes" "wren" "LFamilyProbes$Thing;", Cond.fieldLink RX1 18 "FamilyProbes" "owl" "LFamilyProbes$Thing;", Cond.methodLink RX1 124 yX1_newBase, Cond.instanceMethod yX1_newBase, Cond.selects RX1 yX1_newBase yX1_newBase, Cond.code yX1_newBase cX1_newBase 4 (some (.object "FamilyProbes$Thing")), Cond.methodLink RX1 127 yX1_seedOf, Cond.static yX1_seedOf, Cond.code yX1_seedOf cX1_seedOf 1 (some .int), Cond.methodLink RX1 131 yX1_note, Cond.instanceMethod yX1_note, Cond.selects RX1 yX1_note yX1_note, Cond.code yX1_note cX1_note 2 none, Cond.fieldLink RX1 31 "FamilyProbes" "lastEvents" "[I", Cond.fieldLink RX1 112 "FamilyProbes" "eventCount" "I"]
def wsX1_make : List Cond := .code yX1_make cX1_make 4 (some .int) :: ((wsX1_make_r1 ++ wsX1_make_r2) ++ wsX10 ++ wsX00)
def wsX1_drop : List Cond := .code yX1_drop cX1_drop 3 (some .int) :: ([.fieldLink RX1 21 "FamilyProbes" "slots" "[LFamilyProbes$Thing;", .methodLink RX1 35 yX1_isBelow, .static yX1_isBelow, .initialized RX1, .code yX1_isBelow cX1_isBelow 2 (some .boolean)] ++ wsX10)
def wsX1_holds : List Cond := .code yX1_holds cX1_holds 2 (some .boolean) :: ([])
def wsX1_toneOf : List Cond := .code yX1_toneOf cX1_toneOf 1 (some .int) :: ([])
def wsX1_wentWith : List Cond := .code yX1_wentWith cX1_wentWith 2 (some .int) :: ([.fieldLink RX1 72 "FamilyProbes" "lastValue" "I"] ++ wsX10)
def wsX1_rankOf : List Cond := .code yX1_rankOf cX1_rankOf 2 (some .int) :: ([])
def wsX1_isOfType : List Cond := .code yX1_isOfType cX1_isOfType 2 (some .boolean) :: ([.fieldLink RX1 115 "FamilyProbes" "TYPES_OF_KIND" "[I", .methodLink RX1 50 yX1_holds, .static yX1_holds, .initialized RX1, .code yX1_holds cX1_holds 2 (some .boolean)] ++ wsX00)
def wsX1_callOf : List Cond := .code yX1_callOf cX1_callOf 5 (some .int) :: ([.fieldLink RX1 169 "FamilyProbes" "shadowCalls" "I"] ++ wsX00 ++ wsX10)
def wsX1_twiceAsLoud : List Cond := .code yX1_twiceAsLoud cX1_twiceAsLoud 3 (some .int) :: ([.methodLink RX1 144 yX1_callOf, .instanceMethod yX1_callOf, .selects RX1 yX1_callOf yX1_callOf, .initialized RX1, .code yX1_callOf cX1_callOf 5 (some .int), .fieldLink RX1 169 "FamilyProbes" "shadowCalls" "I"] ++ wsX00 ++ wsX10)
def wsX1_twiceAsSoft : List Cond := .code yX1_twiceAsSoft cX1_twiceAsSoft 3 (some .int) :: ([.methodLink RX1 144 yX1_callOf, .instanceMethod yX1_callOf, .selects RX1 yX1_callOf yX1_callOf, .initialized RX1, .code yX1_callOf cX1_callOf 5 (some .int), .fieldLink RX1 169 "FamilyProbes" "shadowCalls" "I"] ++ wsX00 ++ wsX10)
def wsX1_twiceOf : List Cond := .code yX1_twiceOf cX1_twiceOf 3 (some .int) :: ([.methodLink RX1 172 yX1_twiceAsLoud, .instanceMethod yX1_twiceAsLoud, .selects RX1 yX1_twiceAsLoud yX1_twiceAsLoud, .initialized RX1, .code yX1_twiceAsLoud cX1_twiceAsLoud 3 (some .int), .methodLink RX1 144 yX1_callOf, .instanceMethod yX1_callOf, .selects RX1 yX1_callOf yX1_callOf, .code yX1_callOf cX1_callOf 5 (some .int), .fieldLink RX1 169 "FamilyProbes" "shadowCalls" "I", .methodLink RX1 175 yX1_twiceAsSoft, .instanceMethod yX1_twiceAsSoft, .selects RX1 yX1_twiceAsSoft yX1_twiceAsSoft, .code yX1_twiceAsSoft cX1_twiceAsSoft 3 (some .int)] ++ wsX00 ++ wsX10)
def wsX1_volumeOf : List Cond := .code yX1_volumeOf cX1_volumeOf 2 (some .int) :: ([] ++ wsX00)
def wsX1_weightAsBase : List Cond := .code yX1_weightAsBase cX1_weightAsBase 1 (some .int) :: ([] ++ wsX00)
def wsX1_weightAsCat : List Cond := .code yX1_weightAsCat cX1_weightAsCat 1 (some .int) :: ([] ++ wsX00)
def wsX1_weightOf : List Cond := .code yX1_weightOf cX1_weightOf 1 (some .int) :: ([.methodLink RX1 160 yX1_weightAsBase, .static yX1_weightAsBase, .initialized RX1, .code yX1_weightAsBase cX1_weightAsBase 1 (some .int), .methodLink RX1 163 yX1_weightAsCat, .static yX1_weightAsCat, .code yX1_weightAsCat cX1_weightAsCat 1 (some .int)] ++ wsX00)
def wsX1_markOf : List Cond := .code yX1_markOf cX1_markOf 1 (some .int) :: ([])
def wsX1_answerOf_r1 : List Cond := [Cond.methodLink RX1 144 yX1_callOf, Cond.instanceMethod yX1_callOf, Cond.selects RX1 yX1_callOf yX1_callOf, Cond.initialized RX1, Cond.code yX1_callOf cX1_callOf 5 (some .int), Cond.fieldLink RX1 169 "FamilyProbes" "shadowCalls" "I", Cond.methodLink RX1 148 yX1_twiceOf, Cond.instanceMethod yX1_twiceOf, Cond.selects RX1 yX1_twiceOf yX1_twiceOf, Cond.code yX1_twiceOf cX1_twiceOf 3 (some .int), Cond.methodLink RX1 172 yX1_twiceAsLoud, Cond.instanceMethod yX1_twiceAsLoud, Cond.selects RX1 yX1_twiceAsLoud yX1_twiceAsLoud, Cond.code yX1_twiceAsLoud cX1_twiceAsLoud 3 (some .int), Cond.methodLink RX1 175 yX1_twiceAsSoft, Cond.instanceMethod yX1_twiceAsSoft, Cond.selects RX1 yX1_twiceAsSoft yX1_twiceAsSoft, Cond.code yX1_twiceAsSoft cX1_twiceAsSoft 3 (some .int), Cond.methodLink RX1 151 yX1_volumeOf, Cond.static yX1_volumeOf, Cond.code yX1_volumeOf cX1_volumeOf 2 (some .int), Cond.methodLink RX1 154 yX1_weightOf, Cond.static yX1_weightOf, Cond.code yX1_weightOf cX1_weightOf 1 (some .int)]
def wsX1_answerOf_r2 : List Cond := [Cond.methodLink RX1 160 yX1_weightAsBase, Cond.static yX1_weightAsBase, Cond.code yX1_weightAsBase cX1_weightAsBase 1 (some .int), Cond.methodLink RX1 163 yX1_weightAsCat, Cond.static yX1_weightAsCat, Cond.code yX1_weightAsCat cX1_weightAsCat 1 (some .int), Cond.methodLink RX1 157 yX1_markOf, Cond.static yX1_markOf, Cond.code yX1_markOf cX1_markOf 1 (some .int), Cond.methodLink RX1 127 yX1_seedOf, Cond.static yX1_seedOf, Cond.code yX1_seedOf cX1_seedOf 1 (some .int)]
def wsX1_answerOf : List Cond := .code yX1_answerOf cX1_answerOf 5 (some .int) :: ((wsX1_answerOf_r1 ++ wsX1_answerOf_r2) ++ wsX00 ++ wsX10)
def wsX1_probe_r1 : List Cond := [Cond.fieldLink RX1 47 "FamilyProbes" "TYPES_WITH_MEMBER" "[I", Cond.fieldLink RX1 21 "FamilyProbes" "slots" "[LFamilyProbes$Thing;", Cond.methodLink RX1 35 yX1_isBelow, Cond.static yX1_isBelow, Cond.initialized RX1, Cond.code yX1_isBelow cX1_isBelow 2 (some .boolean), Cond.methodLink RX1 50 yX1_holds, Cond.static yX1_holds, Cond.code yX1_holds cX1_holds 2 (some .boolean), Cond.methodLink RX1 53 yX1_toneOf, Cond.static yX1_toneOf, Cond.code yX1_toneOf cX1_toneOf 1 (some .int), Cond.methodLink RX1 57 yX1_wentWith, Cond.instanceMethod yX1_wentWith, Cond.selects RX1 yX1_wentWith yX1_wentWith, Cond.code yX1_wentWith cX1_wentWith 2 (some .int), Cond.fieldLink RX1 72 "FamilyProbes" "lastValue" "I", Cond.methodLink RX1 60 yX1_rankOf, Cond.static yX1_rankOf, Cond.code yX1_rankOf cX1_rankOf 2 (some .int), Cond.methodLink RX1 64 yX1_isOfType, Cond.static yX1_isOfType, Cond.code yX1_isOfType cX1_isOfType 2 (some .boolean), Cond.fieldLink RX1 115 "FamilyProbes" "TYPES_OF_KIND" "[I"]
def wsX1_probe_r2 : List Cond := [Cond.methodLink RX1 68 yX1_answerOf, Cond.instanceMethod yX1_answerOf, Cond.selects RX1 yX1_answerOf yX1_answerOf, Cond.code yX1_answerOf cX1_answerOf 5 (some .int), Cond.methodLink RX1 144 yX1_callOf, Cond.instanceMethod yX1_callOf, Cond.selects RX1 yX1_callOf yX1_callOf, Cond.code yX1_callOf cX1_callOf 5 (some .int), Cond.fieldLink RX1 169 "FamilyProbes" "shadowCalls" "I", Cond.methodLink RX1 148 yX1_twiceOf, Cond.instanceMethod yX1_twiceOf, Cond.selects RX1 yX1_twiceOf yX1_twiceOf, Cond.code yX1_twiceOf cX1_twiceOf 3 (some .int), Cond.methodLink RX1 172 yX1_twiceAsLoud, Cond.instanceMethod yX1_twiceAsLoud, Cond.selects RX1 yX1_twiceAsLoud yX1_twiceAsLoud, Cond.code yX1_twiceAsLoud cX1_twiceAsLoud 3 (some .int), Cond.methodLink RX1 175 yX1_twiceAsSoft, Cond.instanceMethod yX1_twiceAsSoft, Cond.selects RX1 yX1_twiceAsSoft yX1_twiceAsSoft, Cond.code yX1_twiceAsSoft cX1_twiceAsSoft 3 (some .int), Cond.methodLink RX1 151 yX1_volumeOf, Cond.static yX1_volumeOf, Cond.code yX1_volumeOf cX1_volumeOf 2 (some .int)]
def wsX1_probe_r3 : List Cond := [Cond.methodLink RX1 154 yX1_weightOf, Cond.static yX1_weightOf, Cond.code yX1_weightOf cX1_weightOf 1 (some .int), Cond.methodLink RX1 160 yX1_weightAsBase, Cond.static yX1_weightAsBase, Cond.code yX1_weightAsBase cX1_weightAsBase 1 (some .int), Cond.methodLink RX1 163 yX1_weightAsCat, Cond.static yX1_weightAsCat, Cond.code yX1_weightAsCat cX1_weightAsCat 1 (some .int), Cond.methodLink RX1 157 yX1_markOf, Cond.static yX1_markOf, Cond.code yX1_markOf cX1_markOf 1 (some .int), Cond.methodLink RX1 127 yX1_seedOf, Cond.static yX1_seedOf, Cond.code yX1_seedOf cX1_seedOf 1 (some .int)]
def wsX1_probe : List Cond := .code yX1_probe cX1_probe 7 (some .int) :: ((wsX1_probe_r1 ++ (wsX1_probe_r2 ++ wsX1_probe_r3)) ++ wsX10 ++ wsX00)
def wsX1_value : List Cond := .code yX1_value cX1_value 1 (some .int) :: ([.fieldLink RX1 72 "FamilyProbes" "lastValue" "I"] ++ wsX10)
def wsX1_is : List Cond := .code yX1_is cX1_is 4 (some .boolean) :: ([.fieldLink RX1 21 "FamilyProbes" "slots" "[LFamilyProbes$Thing;", .methodLink RX1 35 yX1_isBelow, .static yX1_isBelow, .initialized RX1, .code yX1_isBelow cX1_isBelow 2 (some .boolean), .methodLink RX1 64 yX1_isOfType, .static yX1_isOfType, .code yX1_isOfType cX1_isOfType 2 (some .boolean), .fieldLink RX1 115 "FamilyProbes" "TYPES_OF_KIND" "[I", .methodLink RX1 50 yX1_holds, .static yX1_holds, .code yX1_holds cX1_holds 2 (some .boolean)] ++ wsX10 ++ wsX00)
def wsX1_same : List Cond := .code yX1_same cX1_same 3 (some .boolean) :: ([.fieldLink RX1 21 "FamilyProbes" "slots" "[LFamilyProbes$Thing;", .methodLink RX1 35 yX1_isBelow, .static yX1_isBelow, .initialized RX1, .code yX1_isBelow cX1_isBelow 2 (some .boolean)] ++ wsX10)
def wsX1_putInRow : List Cond := .code yX1_putInRow cX1_putInRow 4 (some .int) :: ([.fieldLink RX1 141 "FamilyProbes" "TYPE_OF_ROW" "[I", .fieldLink RX1 25 "FamilyProbes" "places" "[LFamilyProbes$Thing;", .methodLink RX1 64 yX1_isOfType, .static yX1_isOfType, .initialized RX1, .code yX1_isOfType cX1_isOfType 2 (some .boolean), .fieldLink RX1 115 "FamilyProbes" "TYPES_OF_KIND" "[I", .methodLink RX1 50 yX1_holds, .static yX1_holds, .code yX1_holds cX1_holds 2 (some .boolean)] ++ wsX10 ++ wsX00)
def wsX1_store : List Cond := .code yX1_store cX1_store 4 (some .int) :: ([.fieldLink RX1 21 "FamilyProbes" "slots" "[LFamilyProbes$Thing;", .methodLink RX1 35 yX1_isBelow, .static yX1_isBelow, .initialized RX1, .code yX1_isBelow cX1_isBelow 2 (some .boolean), .methodLink RX1 76 yX1_putInRow, .instanceMethod yX1_putInRow, .selects RX1 yX1_putInRow yX1_putInRow, .code yX1_putInRow cX1_putInRow 4 (some .int), .fieldLink RX1 141 "FamilyProbes" "TYPE_OF_ROW" "[I", .fieldLink RX1 25 "FamilyProbes" "places" "[LFamilyProbes$Thing;", .methodLink RX1 64 yX1_isOfType, .static yX1_isOfType, .code yX1_isOfType cX1_isOfType 2 (some .boolean), .fieldLink RX1 115 "FamilyProbes" "TYPES_OF_KIND" "[I", .methodLink RX1 50 yX1_holds, .static yX1_holds, .code yX1_holds cX1_holds 2 (some .boolean)] ++ wsX10 ++ wsX00)
def wsX1_load : List Cond := .code yX1_load cX1_load 4 (some .int) :: ([.fieldLink RX1 21 "FamilyProbes" "slots" "[LFamilyProbes$Thing;", .fieldLink RX1 25 "FamilyProbes" "places" "[LFamilyProbes$Thing;", .methodLink RX1 35 yX1_isBelow, .static yX1_isBelow, .initialized RX1, .code yX1_isBelow cX1_isBelow 2 (some .boolean)] ++ wsX10)
def wsX1_isStretch : List Cond := .code yX1_isStretch cX1_isStretch 2 (some .boolean) :: ([])
def wsX1_copy : List Cond := .code yX1_copy cX1_copy 7 (some .int) :: ([.fieldLink RX1 28 "FamilyProbes" "passing" "[LFamilyProbes$Thing;", .fieldLink RX1 25 "FamilyProbes" "places" "[LFamilyProbes$Thing;", .methodLink RX1 35 yX1_isBelow, .static yX1_isBelow, .initialized RX1, .code yX1_isBelow cX1_isBelow 2 (some .boolean), .methodLink RX1 80 yX1_isStretch, .static yX1_isStretch, .code yX1_isStretch cX1_isStretch 2 (some .boolean), .methodLink RX1 76 yX1_putInRow, .instanceMethod yX1_putInRow, .selects RX1 yX1_putInRow yX1_putInRow, .code yX1_putInRow cX1_putInRow 4 (some .int), .fieldLink RX1 141 "FamilyProbes" "TYPE_OF_ROW" "[I", .methodLink RX1 64 yX1_isOfType, .static yX1_isOfType, .code yX1_isOfType cX1_isOfType 2 (some .boolean), .fieldLink RX1 115 "FamilyProbes" "TYPES_OF_KIND" "[I", .methodLink RX1 50 yX1_holds, .static yX1_holds, .code yX1_holds cX1_holds 2 (some .boolean)] ++ wsX10 ++ wsX00)
def wsX1_compare : List Cond := .code yX1_compare cX1_compare 5 (some .int) :: ([.fieldLink RX1 21 "FamilyProbes" "slots" "[LFamilyProbes$Thing;", .methodLink RX1 35 yX1_isBelow, .static yX1_isBelow, .initialized RX1, .code yX1_isBelow cX1_isBelow 2 (some .boolean), .methodLink RX1 64 yX1_isOfType, .static yX1_isOfType, .code yX1_isOfType cX1_isOfType 2 (some .boolean), .fieldLink RX1 115 "FamilyProbes" "TYPES_OF_KIND" "[I", .methodLink RX1 50 yX1_holds, .static yX1_holds, .code yX1_holds cX1_holds 2 (some .boolean), .methodLink RX1 57 yX1_wentWith, .instanceMethod yX1_wentWith, .selects RX1 yX1_wentWith yX1_wentWith, .code yX1_wentWith cX1_wentWith 2 (some .int), .fieldLink RX1 72 "FamilyProbes" "lastValue" "I"] ++ wsX10 ++ wsX00)
def wsX1_divideNoting : List Cond := .code yX1_divideNoting cX1_divideNoting 4 (some .int) :: ([.methodLink RX1 131 yX1_note, .instanceMethod yX1_note, .selects RX1 yX1_note yX1_note, .initialized RX1, .code yX1_note cX1_note 2 none, .fieldLink RX1 31 "FamilyProbes" "lastEvents" "[I", .fieldLink RX1 112 "FamilyProbes" "eventCount" "I"] ++ wsX10)
def wsX1_countTurns : List Cond := .code yX1_countTurns cX1_countTurns 6 (some .int) :: ([.methodLink RX1 131 yX1_note, .instanceMethod yX1_note, .selects RX1 yX1_note yX1_note, .initialized RX1, .code yX1_note cX1_note 2 none, .fieldLink RX1 31 "FamilyProbes" "lastEvents" "[I", .fieldLink RX1 112 "FamilyProbes" "eventCount" "I"] ++ wsX10)
def wsX1_withFailure : List Cond := .code yX1_withFailure cX1_withFailure 2 (some .int) :: ([])
def wsX1_openWorkClose : List Cond := .code yX1_openWorkClose cX1_openWorkClose 4 (some .int) :: ([.methodLink RX1 131 yX1_note, .instanceMethod yX1_note, .selects RX1 yX1_note yX1_note, .initialized RX1, .code yX1_note cX1_note 2 none, .fieldLink RX1 31 "FamilyProbes" "lastEvents" "[I", .fieldLink RX1 112 "FamilyProbes" "eventCount" "I", .methodLink RX1 178 yX1_withFailure, .static yX1_withFailure, .code yX1_withFailure cX1_withFailure 2 (some .int)] ++ wsX10)
def wsX1_workByWord : List Cond := .code yX1_workByWord cX1_workByWord 2 (some .int) :: ([])
def wsX1_squareInRow : List Cond := .code yX1_squareInRow cX1_squareInRow 3 (some .int) :: ([.methodLink RX1 35 yX1_isBelow, .static yX1_isBelow, .initialized RX1, .code yX1_isBelow cX1_isBelow 2 (some .boolean), .methodLink RX1 57 yX1_wentWith, .instanceMethod yX1_wentWith, .selects RX1 yX1_wentWith yX1_wentWith, .code yX1_wentWith cX1_wentWith 2 (some .int), .fieldLink RX1 72 "FamilyProbes" "lastValue" "I"] ++ wsX10)
def wsX1_putAtToldPlace : List Cond := .code yX1_putAtToldPlace cX1_putAtToldPlace 3 (some .int) :: ([])
def wsX1_flow_r1 : List Cond := [Cond.methodLink RX1 86 yX1_divideNoting, Cond.instanceMethod yX1_divideNoting, Cond.selects RX1 yX1_divideNoting yX1_divideNoting, Cond.initialized RX1, Cond.code yX1_divideNoting cX1_divideNoting 4 (some .int), Cond.methodLink RX1 131 yX1_note, Cond.instanceMethod yX1_note, Cond.selects RX1 yX1_note yX1_note, Cond.code yX1_note cX1_note 2 none, Cond.fieldLink RX1 31 "FamilyProbes" "lastEvents" "[I", Cond.fieldLink RX1 112 "FamilyProbes" "eventCount" "I", Cond.methodLink RX1 57 yX1_wentWith, Cond.instanceMethod yX1_wentWith, Cond.selects RX1 yX1_wentWith yX1_wentWith, Cond.code yX1_wentWith cX1_wentWith 2 (some .int), Cond.fieldLink RX1 72 "FamilyProbes" "lastValue" "I", Cond.methodLink RX1 89 yX1_countTurns, Cond.instanceMethod yX1_countTurns, Cond.selects RX1 yX1_countTurns yX1_countTurns, Cond.code yX1_countTurns cX1_countTurns 6 (some .int), Cond.methodLink RX1 92 yX1_openWorkClose, Cond.instanceMethod yX1_openWorkClose, Cond.selects RX1 yX1_openWorkClose yX1_openWorkClose, Cond.code yX1_openWorkClose cX1_openWorkClose 4 (some .int)]
def wsX1_flow_r2 : List Cond := [Cond.methodLink RX1 178 yX1_withFailure, Cond.static yX1_withFailure, Cond.code yX1_withFailure cX1_withFailure 2 (some .int), Cond.methodLink RX1 95 yX1_workByWord, Cond.static yX1_workByWord, Cond.code yX1_workByWord cX1_workByWord 2 (some .int), Cond.methodLink RX1 98 yX1_squareInRow, Cond.instanceMethod yX1_squareInRow, Cond.selects RX1 yX1_squareInRow yX1_squareInRow, Cond.code yX1_squareInRow cX1_squareInRow 3 (some .int), Cond.methodLink RX1 35 yX1_isBelow, Cond.static yX1_isBelow, Cond.code yX1_isBelow cX1_isBelow 2 (some .boolean), Cond.methodLink RX1 101 yX1_putAtToldPlace, Cond.static yX1_putAtToldPlace, Cond.code yX1_putAtToldPlace cX1_putAtToldPlace 3 (some .int)]
def wsX1_flow : List Cond := .code yX1_flow cX1_flow 4 (some .int) :: ((wsX1_flow_r1 ++ wsX1_flow_r2) ++ wsX10)
def wsX1_quotientOfDoubles : List Cond := .code yX1_quotientOfDoubles cX1_quotientOfDoubles 2 (some .int) :: ([.constant RX1 181 (2147483647), .constant RX1 182 (-2147483648)])
def wsX1_decimalLength : List Cond := .code yX1_decimalLength cX1_decimalLength 4 (some .int) :: ([])
def wsX1_number : List Cond := .code yX1_number cX1_number 4 (some .int) :: ([.constantDouble RX1 107 (4604930618986332160), .methodLink RX1 57 yX1_wentWith, .instanceMethod yX1_wentWith, .selects RX1 yX1_wentWith yX1_wentWith, .initialized RX1, .code yX1_wentWith cX1_wentWith 2 (some .int), .fieldLink RX1 72 "FamilyProbes" "lastValue" "I", .methodLink RX1 104 yX1_quotientOfDoubles, .static yX1_quotientOfDoubles, .code yX1_quotientOfDoubles cX1_quotientOfDoubles 2 (some .int), .constant RX1 181 (2147483647), .constant RX1 182 (-2147483648), .methodLink RX1 109 yX1_decimalLength, .static yX1_decimalLength, .code yX1_decimalLength cX1_decimalLength 4 (some .int)] ++ wsX10)
def wsL_law_r1 : List Cond := [Cond.classLink RL 7 RX1, Cond.instantiable RX1 9, Cond.initialized RX1, Cond.methodLink RL 9 yX1_init, Cond.instanceMethod yX1_init, Cond.code yX1_init cX1_init 1 none, Cond.methodLink RX1 3 objectInit, Cond.instanceMethod objectInit, Cond.code objectInit ⟨#[0xb1]⟩ 1 none, Cond.classLink RX1 9 RX0, Cond.instantiable RX0 6, Cond.initialized RX0, Cond.fieldLink RX1 14 "FamilyProbes" "wren" "LFamilyProbes$Thing;", Cond.fieldLink RX1 18 "FamilyProbes" "owl" "LFamilyProbes$Thing;", Cond.fieldLink RX1 21 "FamilyProbes" "slots" "[LFamilyProbes$Thing;", Cond.fieldLink RX1 25 "FamilyProbes" "places" "[LFamilyProbes$Thing;", Cond.fieldLink RX1 28 "FamilyProbes" "passing" "[LFamilyProbes$Thing;", Cond.arrayClass .int, Cond.fieldLink RX1 31 "FamilyProbes" "lastEvents" "[I", Cond.instanceMethod yX0_init, Cond.code yX0_init cX0_init 4 none, Cond.methodLink RX0 1 objectInit, Cond.fieldLink RX0 7 "FamilyProbes$Thing" "kind" "I", Cond.fieldLink RX0 13 "FamilyProbes$Thing" "n" "I"]
def wsL_law_r2 : List Cond := [Cond.fieldLink RX0 16 "FamilyProbes$Thing" "source" "LFamilyProbes$Thing;", Cond.fieldLink RX0 20 "FamilyProbes$Thing" "repeaters" "I", Cond.methodLink RL 13 yX1_make, Cond.instanceMethod yX1_make, Cond.selects RX1 yX1_make yX1_make, Cond.code yX1_make cX1_make 4 (some .int), Cond.methodLink RX1 35 yX1_isBelow, Cond.static yX1_isBelow, Cond.code yX1_isBelow cX1_isBelow 2 (some .boolean), Cond.methodLink RX1 39 yX1_putRepeater, Cond.instanceMethod yX1_putRepeater, Cond.selects RX1 yX1_putRepeater yX1_putRepeater, Cond.code yX1_putRepeater cX1_putRepeater 3 (some .int), Cond.methodLink RX1 43 yX1_newThing, Cond.instanceMethod yX1_newThing, Cond.selects RX1 yX1_newThing yX1_newThing, Cond.code yX1_newThing cX1_newThing 3 (some (.object "FamilyProbes$Thing")), Cond.methodLink RX1 124 yX1_newBase, Cond.instanceMethod yX1_newBase, Cond.selects RX1 yX1_newBase yX1_newBase, Cond.code yX1_newBase cX1_newBase 4 (some (.object "FamilyProbes$Thing")), Cond.methodLink RX1 127 yX1_seedOf, Cond.static yX1_seedOf, Cond.code yX1_seedOf cX1_seedOf 1 (some .int)]
def wsL_law_r3 : List Cond := [Cond.methodLink RX1 131 yX1_note, Cond.instanceMethod yX1_note, Cond.selects RX1 yX1_note yX1_note, Cond.code yX1_note cX1_note 2 none, Cond.fieldLink RX1 112 "FamilyProbes" "eventCount" "I", Cond.methodLink RL 18 yX1_drop, Cond.instanceMethod yX1_drop, Cond.selects RX1 yX1_drop yX1_drop, Cond.code yX1_drop cX1_drop 3 (some .int), Cond.methodLink RL 23 yX1_probe, Cond.instanceMethod yX1_probe, Cond.selects RX1 yX1_probe yX1_probe, Cond.code yX1_probe cX1_probe 7 (some .int), Cond.fieldLink RX1 47 "FamilyProbes" "TYPES_WITH_MEMBER" "[I", Cond.methodLink RX1 50 yX1_holds, Cond.static yX1_holds, Cond.code yX1_holds cX1_holds 2 (some .boolean), Cond.methodLink RX1 53 yX1_toneOf, Cond.static yX1_toneOf, Cond.code yX1_toneOf cX1_toneOf 1 (some .int), Cond.methodLink RX1 57 yX1_wentWith, Cond.instanceMethod yX1_wentWith, Cond.selects RX1 yX1_wentWith yX1_wentWith, Cond.code yX1_wentWith cX1_wentWith 2 (some .int)]
def wsL_law_r4 : List Cond := [Cond.fieldLink RX1 72 "FamilyProbes" "lastValue" "I", Cond.methodLink RX1 60 yX1_rankOf, Cond.static yX1_rankOf, Cond.code yX1_rankOf cX1_rankOf 2 (some .int), Cond.methodLink RX1 64 yX1_isOfType, Cond.static yX1_isOfType, Cond.code yX1_isOfType cX1_isOfType 2 (some .boolean), Cond.fieldLink RX1 115 "FamilyProbes" "TYPES_OF_KIND" "[I", Cond.methodLink RX1 68 yX1_answerOf, Cond.instanceMethod yX1_answerOf, Cond.selects RX1 yX1_answerOf yX1_answerOf, Cond.code yX1_answerOf cX1_answerOf 5 (some .int), Cond.methodLink RX1 144 yX1_callOf, Cond.instanceMethod yX1_callOf, Cond.selects RX1 yX1_callOf yX1_callOf, Cond.code yX1_callOf cX1_callOf 5 (some .int), Cond.fieldLink RX1 169 "FamilyProbes" "shadowCalls" "I", Cond.methodLink RX1 148 yX1_twiceOf, Cond.instanceMethod yX1_twiceOf, Cond.selects RX1 yX1_twiceOf yX1_twiceOf, Cond.code yX1_twiceOf cX1_twiceOf 3 (some .int), Cond.methodLink RX1 172 yX1_twiceAsLoud, Cond.instanceMethod yX1_twiceAsLoud, Cond.selects RX1 yX1_twiceAsLoud yX1_twiceAsLoud]
def wsL_law_r5 : List Cond := [Cond.code yX1_twiceAsLoud cX1_twiceAsLoud 3 (some .int), Cond.methodLink RX1 175 yX1_twiceAsSoft, Cond.instanceMethod yX1_twiceAsSoft, Cond.selects RX1 yX1_twiceAsSoft yX1_twiceAsSoft, Cond.code yX1_twiceAsSoft cX1_twiceAsSoft 3 (some .int), Cond.methodLink RX1 151 yX1_volumeOf, Cond.static yX1_volumeOf, Cond.code yX1_volumeOf cX1_volumeOf 2 (some .int), Cond.methodLink RX1 154 yX1_weightOf, Cond.static yX1_weightOf, Cond.code yX1_weightOf cX1_weightOf 1 (some .int), Cond.methodLink RX1 160 yX1_weightAsBase, Cond.static yX1_weightAsBase, Cond.code yX1_weightAsBase cX1_weightAsBase 1 (some .int), Cond.methodLink RX1 163 yX1_weightAsCat, Cond.static yX1_weightAsCat, Cond.code yX1_weightAsCat cX1_weightAsCat 1 (some .int), Cond.methodLink RX1 157 yX1_markOf, Cond.static yX1_markOf, Cond.code yX1_markOf cX1_markOf 1 (some .int), Cond.methodLink RL 28 yX1_value, Cond.instanceMethod yX1_value, Cond.selects RX1 yX1_value yX1_value, Cond.code yX1_value cX1_value 1 (some .int)]
def wsL_law_r6 : List Cond := [Cond.methodLink RL 33 yX1_is, Cond.instanceMethod yX1_is, Cond.selects RX1 yX1_is yX1_is, Cond.code yX1_is cX1_is 4 (some .boolean), Cond.methodLink RL 38 yX1_same, Cond.instanceMethod yX1_same, Cond.selects RX1 yX1_same yX1_same, Cond.code yX1_same cX1_same 3 (some .boolean), Cond.methodLink RL 42 yX1_store, Cond.instanceMethod yX1_store, Cond.selects RX1 yX1_store yX1_store, Cond.code yX1_store cX1_store 4 (some .int), Cond.methodLink RX1 76 yX1_putInRow, Cond.instanceMethod yX1_putInRow, Cond.selects RX1 yX1_putInRow yX1_putInRow, Cond.code yX1_putInRow cX1_putInRow 4 (some .int), Cond.fieldLink RX1 141 "FamilyProbes" "TYPE_OF_ROW" "[I", Cond.methodLink RL 46 yX1_load, Cond.instanceMethod yX1_load, Cond.selects RX1 yX1_load yX1_load, Cond.code yX1_load cX1_load 4 (some .int), Cond.methodLink RL 50 yX1_copy, Cond.instanceMethod yX1_copy, Cond.selects RX1 yX1_copy yX1_copy]
def wsL_law_r7 : List Cond := [Cond.code yX1_copy cX1_copy 7 (some .int), Cond.methodLink RX1 80 yX1_isStretch, Cond.static yX1_isStretch, Cond.code yX1_isStretch cX1_isStretch 2 (some .boolean), Cond.methodLink RL 54 yX1_compare, Cond.instanceMethod yX1_compare, Cond.selects RX1 yX1_compare yX1_compare, Cond.code yX1_compare cX1_compare 5 (some .int), Cond.methodLink RL 59 yX1_flow, Cond.instanceMethod yX1_flow, Cond.selects RX1 yX1_flow yX1_flow, Cond.code yX1_flow cX1_flow 4 (some .int), Cond.methodLink RX1 86 yX1_divideNoting, Cond.instanceMethod yX1_divideNoting, Cond.selects RX1 yX1_divideNoting yX1_divideNoting, Cond.code yX1_divideNoting cX1_divideNoting 4 (some .int), Cond.methodLink RX1 89 yX1_countTurns, Cond.instanceMethod yX1_countTurns, Cond.selects RX1 yX1_countTurns yX1_countTurns, Cond.code yX1_countTurns cX1_countTurns 6 (some .int), Cond.methodLink RX1 92 yX1_openWorkClose, Cond.instanceMethod yX1_openWorkClose, Cond.selects RX1 yX1_openWorkClose yX1_openWorkClose, Cond.code yX1_openWorkClose cX1_openWorkClose 4 (some .int)]
def wsL_law_r8 : List Cond := [Cond.methodLink RX1 178 yX1_withFailure, Cond.static yX1_withFailure, Cond.code yX1_withFailure cX1_withFailure 2 (some .int), Cond.methodLink RX1 95 yX1_workByWord, Cond.static yX1_workByWord, Cond.code yX1_workByWord cX1_workByWord 2 (some .int), Cond.methodLink RX1 98 yX1_squareInRow, Cond.instanceMethod yX1_squareInRow, Cond.selects RX1 yX1_squareInRow yX1_squareInRow, Cond.code yX1_squareInRow cX1_squareInRow 3 (some .int), Cond.methodLink RX1 101 yX1_putAtToldPlace, Cond.static yX1_putAtToldPlace, Cond.code yX1_putAtToldPlace cX1_putAtToldPlace 3 (some .int), Cond.methodLink RL 63 yX1_number, Cond.instanceMethod yX1_number, Cond.selects RX1 yX1_number yX1_number, Cond.code yX1_number cX1_number 4 (some .int), Cond.constantDouble RX1 107 (4604930618986332160), Cond.methodLink RX1 104 yX1_quotientOfDoubles, Cond.static yX1_quotientOfDoubles, Cond.code yX1_quotientOfDoubles cX1_quotientOfDoubles 2 (some .int), Cond.constant RX1 181 (2147483647), Cond.constant RX1 182 (-2147483648), Cond.methodLink RX1 109 yX1_decimalLength]
def wsL_law_r9 : List Cond := [Cond.static yX1_decimalLength, Cond.code yX1_decimalLength cX1_decimalLength 4 (some .int)]
def wsL_law : List Cond := (wsL_law_r1 ++ (wsL_law_r2 ++ (wsL_law_r3 ++ (wsL_law_r4 ++ (wsL_law_r5 ++ (wsL_law_r6 ++ (wsL_law_r7 ++ (wsL_law_r8 ++ wsL_law_r9)))))))) ++ wsX10 ++ wsX00 ++ ([] : List Cond)
set_option maxRecDepth 20000 in
theorem wsL_law_in : ∀ w ∈ wsL_law, w ∈ lw_tbl := fun w h => (goodIn_p wsL_law [36, 39, 44, 102, 105, 109, 113, 117, 120, 124, 128, 132, 137, 140, 144, 147, 150, 156, 160, 164, 168, 172, 175, 178, 181, 184, 187, 191, 195, 199, 203, 207, 213, 217, 220, 224, 228, 232, 236, 240, 243, 246, 250, 253, 257, 260, 266] (by decide +kernel) (by decide +kernel) w h).1
theorem inlX0 : ∀ w ∈ wsX00, w ∈ wsL_law := fun _ h => List.mem_append_left _ (List.mem_append_right _ h)
theorem inX0 : ∀ w ∈ wsX00, w ∈ lw_tbl := fun w h => wsL_law_in w (inlX0 w h)
theorem inlX1 : ∀ w ∈ wsX10, w ∈ wsL_law := fun _ h => List.mem_append_left _ (List.mem_append_left _ (List.mem_append_right _ h))
theorem inX1 : ∀ w ∈ wsX10, w ∈ lw_tbl := fun w h => wsL_law_in w (inlX1 w h)

theorem dX0_init_0 : decode cX0_init 0 = .ok (.aload_n 0, 1) := by decide +kernel
theorem dX0_init_1 : decode cX0_init 1 = .ok (.invokespecial 1, 3) := by decide +kernel
theorem dX0_init_4 : decode cX0_init 4 = .ok (.aload_n 0, 1) := by decide +kernel
theorem dX0_init_5 : decode cX0_init 5 = .ok (.iload_n 1, 1) := by decide +kernel
theorem dX0_init_6 : decode cX0_init 6 = .ok (.putfield 7, 3) := by decide +kernel
theorem dX0_init_9 : decode cX0_init 9 = .ok (.aload_n 0, 1) := by decide +kernel
theorem dX0_init_10 : decode cX0_init 10 = .ok (.iload_n 2, 1) := by decide +kernel
theorem dX0_init_11 : decode cX0_init 11 = .ok (.putfield 13, 3) := by decide +kernel
theorem dX0_init_14 : decode cX0_init 14 = .ok (.aload_n 0, 1) := by decide +kernel
theorem dX0_init_15 : decode cX0_init 15 = .ok (.aload_n 3, 1) := by decide +kernel
theorem dX0_init_16 : decode cX0_init 16 = .ok (.putfield 16, 3) := by decide +kernel
theorem dX0_init_19 : decode cX0_init 19 = .ok (.aload_n 0, 1) := by decide +kernel
theorem dX0_init_20 : decode cX0_init 20 = .ok (.aload_n 3, 1) := by decide +kernel
theorem dX0_init_21 : decode cX0_init 21 = .ok (.ifnonnull 7, 3) := by decide +kernel
theorem dX0_init_24 : decode cX0_init 24 = .ok (.iconst 0, 1) := by decide +kernel
theorem dX0_init_25 : decode cX0_init 25 = .ok (.goto 9, 3) := by decide +kernel
theorem dX0_init_28 : decode cX0_init 28 = .ok (.aload_n 3, 1) := by decide +kernel
theorem dX0_init_29 : decode cX0_init 29 = .ok (.getfield 20, 3) := by decide +kernel
theorem dX0_init_32 : decode cX0_init 32 = .ok (.iconst 1, 1) := by decide +kernel
theorem dX0_init_33 : decode cX0_init 33 = .ok (.iadd, 1) := by decide +kernel
theorem dX0_init_34 : decode cX0_init 34 = .ok (.putfield 20, 3) := by decide +kernel
theorem dX0_init_37 : decode cX0_init 37 = .ok (.return_, 1) := by decide +kernel
set_option maxRecDepth 20000 in
theorem ggX1_init_X0_init : GoodIn wsX1_init wsX0_init := goodIn_r _ [15, 16, 2, 3, 17, 18, 19, 20, 21, 22, 23, 24, 25, 26] (by decide +kernel) (by decide +kernel)
set_option maxRecDepth 20000 in
theorem gX1_init_X0_init_n11 : GoodIn wsX1_init (wsX0_init) := ggX1_init_X0_init
theorem dX1_init_0 : decode cX1_init 0 = .ok (.aload_n 0, 1) := by decide +kernel
theorem dX1_init_1 : decode cX1_init 1 = .ok (.invokespecial 3, 3) := by decide +kernel
theorem dX1_init_4 : decode cX1_init 4 = .ok (.aload_n 0, 1) := by decide +kernel
theorem dX1_init_5 : decode cX1_init 5 = .ok (.new 9, 3) := by decide +kernel
theorem dX1_init_8 : decode cX1_init 8 = .ok (.dup, 1) := by decide +kernel
theorem dX1_init_9 : decode cX1_init 9 = .ok (.iconst 4, 1) := by decide +kernel
theorem dX1_init_10 : decode cX1_init 10 = .ok (.iconst 2, 1) := by decide +kernel
theorem dX1_init_11 : decode cX1_init 11 = .ok (.aconst_null, 1) := by decide +kernel
theorem dX1_init_12 : decode cX1_init 12 = .ok (.invokespecial 11, 3) := by decide +kernel
theorem dX1_init_15 : decode cX1_init 15 = .ok (.putfield 14, 3) := by decide +kernel
theorem dX1_init_18 : decode cX1_init 18 = .ok (.aload_n 0, 1) := by decide +kernel
theorem dX1_init_19 : decode cX1_init 19 = .ok (.new 9, 3) := by decide +kernel
theorem dX1_init_22 : decode cX1_init 22 = .ok (.dup, 1) := by decide +kernel
theorem dX1_init_23 : decode cX1_init 23 = .ok (.iconst 5, 1) := by decide +kernel
theorem dX1_init_24 : decode cX1_init 24 = .ok (.bipush 9, 2) := by decide +kernel
theorem dX1_init_26 : decode cX1_init 26 = .ok (.aconst_null, 1) := by decide +kernel
theorem dX1_init_27 : decode cX1_init 27 = .ok (.invokespecial 11, 3) := by decide +kernel
theorem dX1_init_30 : decode cX1_init 30 = .ok (.putfield 18, 3) := by decide +kernel
theorem dX1_init_33 : decode cX1_init 33 = .ok (.aload_n 0, 1) := by decide +kernel
theorem dX1_init_34 : decode cX1_init 34 = .ok (.bipush 8, 2) := by decide +kernel
theorem dX1_init_36 : decode cX1_init 36 = .ok (.anewarray 9, 3) := by decide +kernel
theorem dX1_init_39 : decode cX1_init 39 = .ok (.putfield 21, 3) := by decide +kernel
theorem dX1_init_42 : decode cX1_init 42 = .ok (.aload_n 0, 1) := by decide +kernel
theorem dX1_init_43 : decode cX1_init 43 = .ok (.bipush 16, 2) := by decide +kernel
theorem dX1_init_45 : decode cX1_init 45 = .ok (.anewarray 9, 3) := by decide +kernel
theorem dX1_init_48 : decode cX1_init 48 = .ok (.putfield 25, 3) := by decide +kernel
theorem dX1_init_51 : decode cX1_init 51 = .ok (.aload_n 0, 1) := by decide +kernel
theorem dX1_init_52 : decode cX1_init 52 = .ok (.iconst 4, 1) := by decide +kernel
theorem dX1_init_53 : decode cX1_init 53 = .ok (.anewarray 9, 3) := by decide +kernel
theorem dX1_init_56 : decode cX1_init 56 = .ok (.putfield 28, 3) := by decide +kernel
theorem dX1_init_59 : decode cX1_init 59 = .ok (.aload_n 0, 1) := by decide +kernel
theorem dX1_init_60 : decode cX1_init 60 = .ok (.bipush 16, 2) := by decide +kernel
theorem dX1_init_62 : decode cX1_init 62 = .ok (.newarray .int, 2) := by decide +kernel
theorem dX1_init_64 : decode cX1_init 64 = .ok (.putfield 31, 3) := by decide +kernel
theorem dX1_init_67 : decode cX1_init 67 = .ok (.return_, 1) := by decide +kernel
set_option maxRecDepth 20000 in
theorem ggX1_make_X1_isBelow : GoodIn wsX1_make wsX1_isBelow := goodIn_r _ [5] (by decide +kernel) (by decide +kernel)
set_option maxRecDepth 20000 in
theorem gX1_make_X1_isBelow : GoodIn wsX1_make (va_wsS RX1 35 yX1_isBelow wsX1_isBelow) := goodIn_app (goodIn_of _ (by decide +kernel)) ggX1_make_X1_isBelow
set_option maxRecDepth 20000 in
theorem ggX1_make_X1_putRepeater : GoodIn wsX1_make wsX1_putRepeater := goodIn_r _ [9, 1, 10, 11, 12, 13, 14, 15, 16, 17, 18, 19, 20, 21, 50, 51, 52, 53, 54, 55, 41, 42, 43, 44, 45, 46, 47, 48, 49] (by decide +kernel) (by decide +kernel)
set_option maxRecDepth 20000 in
theorem gX1_make_X1_putRepeater : GoodIn wsX1_make (wsV RX1 39 RX1 yX1_putRepeater wsX1_putRepeater) := goodIn_app (goodIn_of _ (by decide +kernel)) ggX1_make_X1_putRepeater
set_option maxRecDepth 20000 in
theorem ggX1_make_X1_newThing : GoodIn wsX1_make wsX1_newThing := goodIn_r _ [25, 26, 27, 10, 11, 12, 28, 29, 30, 4, 31, 13, 14, 15, 16, 17, 18, 19, 20, 21, 32, 33, 34, 35, 36, 37, 38, 39, 40, 41, 42, 43, 44, 45, 46, 47, 48, 49, 50, 51, 52, 53, 54, 55] (by decide +kernel) (by decide +kernel)
set_option maxRecDepth 20000 in
theorem gX1_make_X1_newThing : GoodIn wsX1_make (wsV RX1 43 RX1 yX1_newThing wsX1_newThing) := goodIn_app (goodIn_of _ (by decide +kernel)) ggX1_make_X1_newThing
theorem dX1_make_0 : decode cX1_make 0 = .ok (.iload_n 1, 1) := by decide +kernel
theorem dX1_make_1 : decode cX1_make 1 = .ok (.bipush 8, 2) := by decide +kernel
theorem dX1_make_3 : decode cX1_make 3 = .ok (.invokestatic 35, 3) := by decide +kernel
theorem dX1_make_6 : decode cX1_make 6 = .ok (.ifCond .eq 12, 3) := by decide +kernel
theorem dX1_make_9 : decode cX1_make 9 = .ok (.iload_n 2, 1) := by decide +kernel
theorem dX1_make_10 : decode cX1_make 10 = .ok (.bipush 10, 2) := by decide +kernel
theorem dX1_make_12 : decode cX1_make 12 = .ok (.invokestatic 35, 3) := by decide +kernel
theorem dX1_make_15 : decode cX1_make 15 = .ok (.ifCond .ne 5, 3) := by decide +kernel
theorem dX1_make_18 : decode cX1_make 18 = .ok (.iconst (-1), 1) := by decide +kernel
theorem dX1_make_19 : decode cX1_make 19 = .ok (.ireturn, 1) := by decide +kernel
theorem dX1_make_20 : decode cX1_make 20 = .ok (.iload_n 2, 1) := by decide +kernel
theorem dX1_make_21 : decode cX1_make 21 = .ok (.bipush 8, 2) := by decide +kernel
theorem dX1_make_23 : decode cX1_make 23 = .ok (.if_icmp .ne 18, 3) := by decide +kernel
theorem dX1_make_26 : decode cX1_make 26 = .ok (.aload_n 0, 1) := by decide +kernel
theorem dX1_make_27 : decode cX1_make 27 = .ok (.iload_n 1, 1) := by decide +kernel
theorem dX1_make_28 : decode cX1_make 28 = .ok (.aload_n 0, 1) := by decide +kernel
theorem dX1_make_29 : decode cX1_make 29 = .ok (.getfield 21, 3) := by decide +kernel
theorem dX1_make_32 : decode cX1_make 32 = .ok (.iload_n 3, 1) := by decide +kernel
theorem dX1_make_33 : decode cX1_make 33 = .ok (.bipush 7, 2) := by decide +kernel
theorem dX1_make_35 : decode cX1_make 35 = .ok (.iand, 1) := by decide +kernel
theorem dX1_make_36 : decode cX1_make 36 = .ok (.aaload, 1) := by decide +kernel
theorem dX1_make_37 : decode cX1_make 37 = .ok (.invokevirtual 39, 3) := by decide +kernel
theorem dX1_make_40 : decode cX1_make 40 = .ok (.ireturn, 1) := by decide +kernel
theorem dX1_make_41 : decode cX1_make 41 = .ok (.aload_n 0, 1) := by decide +kernel
theorem dX1_make_42 : decode cX1_make 42 = .ok (.getfield 21, 3) := by decide +kernel
theorem dX1_make_45 : decode cX1_make 45 = .ok (.iload_n 1, 1) := by decide +kernel
theorem dX1_make_46 : decode cX1_make 46 = .ok (.aload_n 0, 1) := by decide +kernel
theorem dX1_make_47 : decode cX1_make 47 = .ok (.iload_n 2, 1) := by decide +kernel
theorem dX1_make_48 : decode cX1_make 48 = .ok (.iload_n 3, 1) := by decide +kernel
theorem dX1_make_49 : decode cX1_make 49 = .ok (.invokevirtual 43, 3) := by decide +kernel
theorem dX1_make_52 : decode cX1_make 52 = .ok (.aastore, 1) := by decide +kernel
theorem dX1_make_53 : decode cX1_make 53 = .ok (.iconst 0, 1) := by decide +kernel
theorem dX1_make_54 : decode cX1_make 54 = .ok (.ireturn, 1) := by decide +kernel
set_option maxRecDepth 20000 in
theorem ggX1_drop_X1_isBelow : GoodIn wsX1_drop wsX1_isBelow := goodIn_r _ [5] (by decide +kernel) (by decide +kernel)
set_option maxRecDepth 20000 in
theorem gX1_drop_X1_isBelow : GoodIn wsX1_drop (va_wsS RX1 35 yX1_isBelow wsX1_isBelow) := goodIn_app (goodIn_of _ (by decide +kernel)) ggX1_drop_X1_isBelow
theorem dX1_drop_0 : decode cX1_drop 0 = .ok (.iload_n 1, 1) := by decide +kernel
theorem dX1_drop_1 : decode cX1_drop 1 = .ok (.bipush 8, 2) := by decide +kernel
theorem dX1_drop_3 : decode cX1_drop 3 = .ok (.invokestatic 35, 3) := by decide +kernel
theorem dX1_drop_6 : decode cX1_drop 6 = .ok (.ifCond .ne 5, 3) := by decide +kernel
theorem dX1_drop_9 : decode cX1_drop 9 = .ok (.iconst (-1), 1) := by decide +kernel
theorem dX1_drop_10 : decode cX1_drop 10 = .ok (.ireturn, 1) := by decide +kernel
theorem dX1_drop_11 : decode cX1_drop 11 = .ok (.aload_n 0, 1) := by decide +kernel
theorem dX1_drop_12 : decode cX1_drop 12 = .ok (.getfield 21, 3) := by decide +kernel
theorem dX1_drop_15 : decode cX1_drop 15 = .ok (.iload_n 1, 1) := by decide +kernel
theorem dX1_drop_16 : decode cX1_drop 16 = .ok (.aaload, 1) := by decide +kernel
theorem dX1_drop_17 : decode cX1_drop 17 = .ok (.ifnonnull 7, 3) := by decide +kernel
theorem dX1_drop_20 : decode cX1_drop 20 = .ok (.iconst 2, 1) := by decide +kernel
theorem dX1_drop_21 : decode cX1_drop 21 = .ok (.goto 4, 3) := by decide +kernel
theorem dX1_drop_24 : decode cX1_drop 24 = .ok (.iconst 0, 1) := by decide +kernel
theorem dX1_drop_25 : decode cX1_drop 25 = .ok (.istore_n 2, 1) := by decide +kernel
theorem dX1_drop_26 : decode cX1_drop 26 = .ok (.aload_n 0, 1) := by decide +kernel
theorem dX1_drop_27 : decode cX1_drop 27 = .ok (.getfield 21, 3) := by decide +kernel
theorem dX1_drop_30 : decode cX1_drop 30 = .ok (.iload_n 1, 1) := by decide +kernel
theorem dX1_drop_31 : decode cX1_drop 31 = .ok (.aconst_null, 1) := by decide +kernel
theorem dX1_drop_32 : decode cX1_drop 32 = .ok (.aastore, 1) := by decide +kernel
theorem dX1_drop_33 : decode cX1_drop 33 = .ok (.iload_n 2, 1) := by decide +kernel
theorem dX1_drop_34 : decode cX1_drop 34 = .ok (.ireturn, 1) := by decide +kernel
set_option maxRecDepth 20000 in
theorem ggX1_probe_X1_isBelow : GoodIn wsX1_probe wsX1_isBelow := goodIn_r _ [6] (by decide +kernel) (by decide +kernel)
set_option maxRecDepth 20000 in
theorem gX1_probe_X1_isBelow : GoodIn wsX1_probe (va_wsS RX1 35 yX1_isBelow wsX1_isBelow) := goodIn_app (goodIn_of _ (by decide +kernel)) ggX1_probe_X1_isBelow
set_option maxRecDepth 20000 in
theorem ggX1_probe_X1_holds : GoodIn wsX1_probe wsX1_holds := goodIn_r _ [9] (by decide +kernel) (by decide +kernel)
set_option maxRecDepth 20000 in
theorem gX1_probe_X1_holds : GoodIn wsX1_probe (va_wsS RX1 50 yX1_holds wsX1_holds) := goodIn_app (goodIn_of _ (by decide +kernel)) ggX1_probe_X1_holds
set_option maxRecDepth 20000 in
theorem ggX1_probe_X1_toneOf : GoodIn wsX1_probe wsX1_toneOf := goodIn_r _ [12] (by decide +kernel) (by decide +kernel)
set_option maxRecDepth 20000 in
theorem gX1_probe_X1_toneOf : GoodIn wsX1_probe (va_wsS RX1 53 yX1_toneOf wsX1_toneOf) := goodIn_app (goodIn_of _ (by decide +kernel)) ggX1_probe_X1_toneOf
set_option maxRecDepth 20000 in
theorem ggX1_probe_X1_wentWith : GoodIn wsX1_probe wsX1_wentWith := goodIn_r _ [16, 17, 64, 65, 66, 67, 68, 69, 70, 71, 72] (by decide +kernel) (by decide +kernel)
set_option maxRecDepth 20000 in
theorem gX1_probe_X1_wentWith : GoodIn wsX1_probe (wsV RX1 57 RX1 yX1_wentWith wsX1_wentWith) := goodIn_app (goodIn_of _ (by decide +kernel)) ggX1_probe_X1_wentWith
set_option maxRecDepth 20000 in
theorem ggX1_probe_X1_rankOf : GoodIn wsX1_probe wsX1_rankOf := goodIn_r _ [20] (by decide +kernel) (by decide +kernel)
set_option maxRecDepth 20000 in
theorem gX1_probe_X1_rankOf : GoodIn wsX1_probe (va_wsS RX1 60 yX1_rankOf wsX1_rankOf) := goodIn_app (goodIn_of _ (by decide +kernel)) ggX1_probe_X1_rankOf
set_option maxRecDepth 20000 in
theorem ggX1_probe_X1_isOfType : GoodIn wsX1_probe wsX1_isOfType := goodIn_r _ [23, 24, 7, 8, 5, 9, 73, 74, 75, 76, 77, 78] (by decide +kernel) (by decide +kernel)
set_option maxRecDepth 20000 in
theorem gX1_probe_X1_isOfType : GoodIn wsX1_probe (va_wsS RX1 64 yX1_isOfType wsX1_isOfType) := goodIn_app (goodIn_of _ (by decide +kernel)) ggX1_probe_X1_isOfType
set_option maxRecDepth 20000 in
theorem ggX1_probe_X1_answerOf : GoodIn wsX1_probe wsX1_answerOf := goodIn_r _ [28, 29, 30, 31, 5, 32, 33, 34, 35, 36, 37, 38, 39, 40, 41, 42, 43, 44, 45, 46, 47, 48, 49, 50, 51, 52, 53, 54, 55, 56, 57, 58, 59, 60, 61, 62, 63, 73, 74, 75, 76, 77, 78, 64, 65, 66, 67, 68, 69, 70, 71, 72] (by decide +kernel) (by decide +kernel)
set_option maxRecDepth 20000 in
theorem gX1_probe_X1_answerOf : GoodIn wsX1_probe (wsV RX1 68 RX1 yX1_answerOf wsX1_answerOf) := goodIn_app (goodIn_of _ (by decide +kernel)) ggX1_probe_X1_answerOf
theorem dX1_probe_0 : decode cX1_probe 0 = .ok (.iload_n 1, 1) := by decide +kernel
theorem dX1_probe_1 : decode cX1_probe 1 = .ok (.bipush 8, 2) := by decide +kernel
theorem dX1_probe_3 : decode cX1_probe 3 = .ok (.invokestatic 35, 3) := by decide +kernel
theorem dX1_probe_6 : decode cX1_probe 6 = .ok (.ifCond .eq 42, 3) := by decide +kernel
theorem dX1_probe_9 : decode cX1_probe 9 = .ok (.iload_n 2, 1) := by decide +kernel
theorem dX1_probe_10 : decode cX1_probe 10 = .ok (.bipush 9, 2) := by decide +kernel
theorem dX1_probe_12 : decode cX1_probe 12 = .ok (.invokestatic 35, 3) := by decide +kernel
theorem dX1_probe_15 : decode cX1_probe 15 = .ok (.ifCond .eq 33, 3) := by decide +kernel
theorem dX1_probe_18 : decode cX1_probe 18 = .ok (.iload_n 3, 1) := by decide +kernel
theorem dX1_probe_19 : decode cX1_probe 19 = .ok (.bipush 12, 2) := by decide +kernel
theorem dX1_probe_21 : decode cX1_probe 21 = .ok (.invokestatic 35, 3) := by decide +kernel
theorem dX1_probe_24 : decode cX1_probe 24 = .ok (.ifCond .eq 24, 3) := by decide +kernel
theorem dX1_probe_27 : decode cX1_probe 27 = .ok (.iload 5, 2) := by decide +kernel
theorem dX1_probe_29 : decode cX1_probe 29 = .ok (.iconst 4, 1) := by decide +kernel
theorem dX1_probe_30 : decode cX1_probe 30 = .ok (.invokestatic 35, 3) := by decide +kernel
theorem dX1_probe_33 : decode cX1_probe 33 = .ok (.ifCond .eq 15, 3) := by decide +kernel
theorem dX1_probe_36 : decode cX1_probe 36 = .ok (.getstatic 47, 3) := by decide +kernel
theorem dX1_probe_39 : decode cX1_probe 39 = .ok (.iload_n 3, 1) := by decide +kernel
theorem dX1_probe_40 : decode cX1_probe 40 = .ok (.iaload, 1) := by decide +kernel
theorem dX1_probe_41 : decode cX1_probe 41 = .ok (.iload_n 2, 1) := by decide +kernel
theorem dX1_probe_42 : decode cX1_probe 42 = .ok (.invokestatic 50, 3) := by decide +kernel
theorem dX1_probe_45 : decode cX1_probe 45 = .ok (.ifCond .ne 5, 3) := by decide +kernel
theorem dX1_probe_48 : decode cX1_probe 48 = .ok (.iconst (-1), 1) := by decide +kernel
theorem dX1_probe_49 : decode cX1_probe 49 = .ok (.ireturn, 1) := by decide +kernel
theorem dX1_probe_50 : decode cX1_probe 50 = .ok (.iload_n 3, 1) := by decide +kernel
theorem dX1_probe_51 : decode cX1_probe 51 = .ok (.bipush 7, 2) := by decide +kernel
theorem dX1_probe_53 : decode cX1_probe 53 = .ok (.if_icmp .ne 12, 3) := by decide +kernel
theorem dX1_probe_56 : decode cX1_probe 56 = .ok (.aload_n 0, 1) := by decide +kernel
theorem dX1_probe_57 : decode cX1_probe 57 = .ok (.iload_n 2, 1) := by decide +kernel
theorem dX1_probe_58 : decode cX1_probe 58 = .ok (.invokestatic 53, 3) := by decide +kernel
theorem dX1_probe_61 : decode cX1_probe 61 = .ok (.invokevirtual 57, 3) := by decide +kernel
theorem dX1_probe_64 : decode cX1_probe 64 = .ok (.ireturn, 1) := by decide +kernel
theorem dX1_probe_65 : decode cX1_probe 65 = .ok (.iload_n 3, 1) := by decide +kernel
theorem dX1_probe_66 : decode cX1_probe 66 = .ok (.bipush 8, 2) := by decide +kernel
theorem dX1_probe_68 : decode cX1_probe 68 = .ok (.if_icmp .ne 14, 3) := by decide +kernel
theorem dX1_probe_71 : decode cX1_probe 71 = .ok (.aload_n 0, 1) := by decide +kernel
theorem dX1_probe_72 : decode cX1_probe 72 = .ok (.iload_n 2, 1) := by decide +kernel
theorem dX1_probe_73 : decode cX1_probe 73 = .ok (.iload 4, 2) := by decide +kernel
theorem dX1_probe_75 : decode cX1_probe 75 = .ok (.invokestatic 60, 3) := by decide +kernel
theorem dX1_probe_78 : decode cX1_probe 78 = .ok (.invokevirtual 57, 3) := by decide +kernel
theorem dX1_probe_81 : decode cX1_probe 81 = .ok (.ireturn, 1) := by decide +kernel
theorem dX1_probe_82 : decode cX1_probe 82 = .ok (.aload_n 0, 1) := by decide +kernel
theorem dX1_probe_83 : decode cX1_probe 83 = .ok (.getfield 21, 3) := by decide +kernel
theorem dX1_probe_86 : decode cX1_probe 86 = .ok (.iload_n 1, 1) := by decide +kernel
theorem dX1_probe_87 : decode cX1_probe 87 = .ok (.aaload, 1) := by decide +kernel
theorem dX1_probe_88 : decode cX1_probe 88 = .ok (.astore 6, 2) := by decide +kernel
theorem dX1_probe_90 : decode cX1_probe 90 = .ok (.aload 6, 2) := by decide +kernel
theorem dX1_probe_92 : decode cX1_probe 92 = .ok (.ifnonnull 5, 3) := by decide +kernel
theorem dX1_probe_95 : decode cX1_probe 95 = .ok (.iconst 2, 1) := by decide +kernel
theorem dX1_probe_96 : decode cX1_probe 96 = .ok (.ireturn, 1) := by decide +kernel
theorem dX1_probe_97 : decode cX1_probe 97 = .ok (.aload 6, 2) := by decide +kernel
theorem dX1_probe_99 : decode cX1_probe 99 = .ok (.iload_n 2, 1) := by decide +kernel
theorem dX1_probe_100 : decode cX1_probe 100 = .ok (.invokestatic 64, 3) := by decide +kernel
theorem dX1_probe_103 : decode cX1_probe 103 = .ok (.ifCond .ne 5, 3) := by decide +kernel
theorem dX1_probe_106 : decode cX1_probe 106 = .ok (.iconst 1, 1) := by decide +kernel
theorem dX1_probe_107 : decode cX1_probe 107 = .ok (.ireturn, 1) := by decide +kernel
theorem dX1_probe_108 : decode cX1_probe 108 = .ok (.aload_n 0, 1) := by decide +kernel
theorem dX1_probe_109 : decode cX1_probe 109 = .ok (.aload_n 0, 1) := by decide +kernel
theorem dX1_probe_110 : decode cX1_probe 110 = .ok (.aload 6, 2) := by decide +kernel
theorem dX1_probe_112 : decode cX1_probe 112 = .ok (.iload_n 2, 1) := by decide +kernel
theorem dX1_probe_113 : decode cX1_probe 113 = .ok (.iload_n 3, 1) := by decide +kernel
theorem dX1_probe_114 : decode cX1_probe 114 = .ok (.iload 4, 2) := by decide +kernel
theorem dX1_probe_116 : decode cX1_probe 116 = .ok (.invokevirtual 68, 3) := by decide +kernel
theorem dX1_probe_119 : decode cX1_probe 119 = .ok (.invokevirtual 57, 3) := by decide +kernel
theorem dX1_probe_122 : decode cX1_probe 122 = .ok (.ireturn, 1) := by decide +kernel
theorem dX1_value_0 : decode cX1_value 0 = .ok (.aload_n 0, 1) := by decide +kernel
theorem dX1_value_1 : decode cX1_value 1 = .ok (.getfield 72, 3) := by decide +kernel
theorem dX1_value_4 : decode cX1_value 4 = .ok (.ireturn, 1) := by decide +kernel
set_option maxRecDepth 20000 in
theorem ggX1_is_X1_isBelow : GoodIn wsX1_is wsX1_isBelow := goodIn_r _ [5] (by decide +kernel) (by decide +kernel)
set_option maxRecDepth 20000 in
theorem gX1_is_X1_isBelow : GoodIn wsX1_is (va_wsS RX1 35 yX1_isBelow wsX1_isBelow) := goodIn_app (goodIn_of _ (by decide +kernel)) ggX1_is_X1_isBelow
set_option maxRecDepth 20000 in
theorem ggX1_is_X1_isOfType : GoodIn wsX1_is wsX1_isOfType := goodIn_r _ [8, 9, 10, 11, 4, 12, 22, 23, 24, 25, 26, 27] (by decide +kernel) (by decide +kernel)
set_option maxRecDepth 20000 in
theorem gX1_is_X1_isOfType : GoodIn wsX1_is (va_wsS RX1 64 yX1_isOfType wsX1_isOfType) := goodIn_app (goodIn_of _ (by decide +kernel)) ggX1_is_X1_isOfType
theorem dX1_is_0 : decode cX1_is 0 = .ok (.iload_n 1, 1) := by decide +kernel
theorem dX1_is_1 : decode cX1_is 1 = .ok (.bipush 8, 2) := by decide +kernel
theorem dX1_is_3 : decode cX1_is 3 = .ok (.invokestatic 35, 3) := by decide +kernel
theorem dX1_is_6 : decode cX1_is 6 = .ok (.ifCond .eq 12, 3) := by decide +kernel
theorem dX1_is_9 : decode cX1_is 9 = .ok (.iload_n 2, 1) := by decide +kernel
theorem dX1_is_10 : decode cX1_is 10 = .ok (.bipush 9, 2) := by decide +kernel
theorem dX1_is_12 : decode cX1_is 12 = .ok (.invokestatic 35, 3) := by decide +kernel
theorem dX1_is_15 : decode cX1_is 15 = .ok (.ifCond .ne 5, 3) := by decide +kernel
theorem dX1_is_18 : decode cX1_is 18 = .ok (.iconst 0, 1) := by decide +kernel
theorem dX1_is_19 : decode cX1_is 19 = .ok (.ireturn, 1) := by decide +kernel
theorem dX1_is_20 : decode cX1_is 20 = .ok (.aload_n 0, 1) := by decide +kernel
theorem dX1_is_21 : decode cX1_is 21 = .ok (.getfield 21, 3) := by decide +kernel
theorem dX1_is_24 : decode cX1_is 24 = .ok (.iload_n 1, 1) := by decide +kernel
theorem dX1_is_25 : decode cX1_is 25 = .ok (.aaload, 1) := by decide +kernel
theorem dX1_is_26 : decode cX1_is 26 = .ok (.astore_n 3, 1) := by decide +kernel
theorem dX1_is_27 : decode cX1_is 27 = .ok (.aload_n 3, 1) := by decide +kernel
theorem dX1_is_28 : decode cX1_is 28 = .ok (.ifnull 15, 3) := by decide +kernel
theorem dX1_is_31 : decode cX1_is 31 = .ok (.aload_n 3, 1) := by decide +kernel
theorem dX1_is_32 : decode cX1_is 32 = .ok (.iload_n 2, 1) := by decide +kernel
theorem dX1_is_33 : decode cX1_is 33 = .ok (.invokestatic 64, 3) := by decide +kernel
theorem dX1_is_36 : decode cX1_is 36 = .ok (.ifCond .eq 7, 3) := by decide +kernel
theorem dX1_is_39 : decode cX1_is 39 = .ok (.iconst 1, 1) := by decide +kernel
theorem dX1_is_40 : decode cX1_is 40 = .ok (.goto 4, 3) := by decide +kernel
theorem dX1_is_43 : decode cX1_is 43 = .ok (.iconst 0, 1) := by decide +kernel
theorem dX1_is_44 : decode cX1_is 44 = .ok (.ireturn, 1) := by decide +kernel
set_option maxRecDepth 20000 in
theorem ggX1_same_X1_isBelow : GoodIn wsX1_same wsX1_isBelow := goodIn_r _ [5] (by decide +kernel) (by decide +kernel)
set_option maxRecDepth 20000 in
theorem gX1_same_X1_isBelow : GoodIn wsX1_same (va_wsS RX1 35 yX1_isBelow wsX1_isBelow) := goodIn_app (goodIn_of _ (by decide +kernel)) ggX1_same_X1_isBelow
theorem dX1_same_0 : decode cX1_same 0 = .ok (.iload_n 1, 1) := by decide +kernel
theorem dX1_same_1 : decode cX1_same 1 = .ok (.bipush 8, 2) := by decide +kernel
theorem dX1_same_3 : decode cX1_same 3 = .ok (.invokestatic 35, 3) := by decide +kernel
theorem dX1_same_6 : decode cX1_same 6 = .ok (.ifCond .eq 31, 3) := by decide +kernel
theorem dX1_same_9 : decode cX1_same 9 = .ok (.iload_n 2, 1) := by decide +kernel
theorem dX1_same_10 : decode cX1_same 10 = .ok (.bipush 8, 2) := by decide +kernel
theorem dX1_same_12 : decode cX1_same 12 = .ok (.invokestatic 35, 3) := by decide +kernel
theorem dX1_same_15 : decode cX1_same 15 = .ok (.ifCond .eq 22, 3) := by decide +kernel
theorem dX1_same_18 : decode cX1_same 18 = .ok (.aload_n 0, 1) := by decide +kernel
theorem dX1_same_19 : decode cX1_same 19 = .ok (.getfield 21, 3) := by decide +kernel
theorem dX1_same_22 : decode cX1_same 22 = .ok (.iload_n 1, 1) := by decide +kernel
theorem dX1_same_23 : decode cX1_same 23 = .ok (.aaload, 1) := by decide +kernel
theorem dX1_same_24 : decode cX1_same 24 = .ok (.aload_n 0, 1) := by decide +kernel
theorem dX1_same_25 : decode cX1_same 25 = .ok (.getfield 21, 3) := by decide +kernel
theorem dX1_same_28 : decode cX1_same 28 = .ok (.iload_n 2, 1) := by decide +kernel
theorem dX1_same_29 : decode cX1_same 29 = .ok (.aaload, 1) := by decide +kernel
theorem dX1_same_30 : decode cX1_same 30 = .ok (.if_acmp .ne 7, 3) := by decide +kernel
theorem dX1_same_33 : decode cX1_same 33 = .ok (.iconst 1, 1) := by decide +kernel
theorem dX1_same_34 : decode cX1_same 34 = .ok (.goto 4, 3) := by decide +kernel
theorem dX1_same_37 : decode cX1_same 37 = .ok (.iconst 0, 1) := by decide +kernel
theorem dX1_same_38 : decode cX1_same 38 = .ok (.ireturn, 1) := by decide +kernel
set_option maxRecDepth 20000 in
theorem ggX1_store_X1_isBelow : GoodIn wsX1_store wsX1_isBelow := goodIn_r _ [5] (by decide +kernel) (by decide +kernel)
set_option maxRecDepth 20000 in
theorem gX1_store_X1_isBelow : GoodIn wsX1_store (va_wsS RX1 35 yX1_isBelow wsX1_isBelow) := goodIn_app (goodIn_of _ (by decide +kernel)) ggX1_store_X1_isBelow
set_option maxRecDepth 20000 in
theorem ggX1_store_X1_putInRow : GoodIn wsX1_store wsX1_putInRow := goodIn_r _ [9, 10, 11, 12, 13, 4, 14, 15, 16, 17, 18, 19, 20, 21, 22, 23, 24, 25, 26, 27, 28, 29, 30, 31, 32, 33] (by decide +kernel) (by decide +kernel)
set_option maxRecDepth 20000 in
theorem gX1_store_X1_putInRow : GoodIn wsX1_store (wsV RX1 76 RX1 yX1_putInRow wsX1_putInRow) := goodIn_app (goodIn_of _ (by decide +kernel)) ggX1_store_X1_putInRow
theorem dX1_store_0 : decode cX1_store 0 = .ok (.iload_n 1, 1) := by decide +kernel
theorem dX1_store_1 : decode cX1_store 1 = .ok (.iconst 4, 1) := by decide +kernel
theorem dX1_store_2 : decode cX1_store 2 = .ok (.invokestatic 35, 3) := by decide +kernel
theorem dX1_store_5 : decode cX1_store 5 = .ok (.ifCond .eq 12, 3) := by decide +kernel
theorem dX1_store_8 : decode cX1_store 8 = .ok (.iload_n 3, 1) := by decide +kernel
theorem dX1_store_9 : decode cX1_store 9 = .ok (.bipush 8, 2) := by decide +kernel
theorem dX1_store_11 : decode cX1_store 11 = .ok (.invokestatic 35, 3) := by decide +kernel
theorem dX1_store_14 : decode cX1_store 14 = .ok (.ifCond .ne 5, 3) := by decide +kernel
theorem dX1_store_17 : decode cX1_store 17 = .ok (.iconst (-1), 1) := by decide +kernel
theorem dX1_store_18 : decode cX1_store 18 = .ok (.ireturn, 1) := by decide +kernel
theorem dX1_store_19 : decode cX1_store 19 = .ok (.iload_n 2, 1) := by decide +kernel
theorem dX1_store_20 : decode cX1_store 20 = .ok (.iconst 4, 1) := by decide +kernel
theorem dX1_store_21 : decode cX1_store 21 = .ok (.invokestatic 35, 3) := by decide +kernel
theorem dX1_store_24 : decode cX1_store 24 = .ok (.ifCond .ne 5, 3) := by decide +kernel
theorem dX1_store_27 : decode cX1_store 27 = .ok (.iconst 4, 1) := by decide +kernel
theorem dX1_store_28 : decode cX1_store 28 = .ok (.ireturn, 1) := by decide +kernel
theorem dX1_store_29 : decode cX1_store 29 = .ok (.aload_n 0, 1) := by decide +kernel
theorem dX1_store_30 : decode cX1_store 30 = .ok (.iload_n 1, 1) := by decide +kernel
theorem dX1_store_31 : decode cX1_store 31 = .ok (.iload_n 2, 1) := by decide +kernel
theorem dX1_store_32 : decode cX1_store 32 = .ok (.aload_n 0, 1) := by decide +kernel
theorem dX1_store_33 : decode cX1_store 33 = .ok (.getfield 21, 3) := by decide +kernel
theorem dX1_store_36 : decode cX1_store 36 = .ok (.iload_n 3, 1) := by decide +kernel
theorem dX1_store_37 : decode cX1_store 37 = .ok (.aaload, 1) := by decide +kernel
theorem dX1_store_38 : decode cX1_store 38 = .ok (.invokevirtual 76, 3) := by decide +kernel
theorem dX1_store_41 : decode cX1_store 41 = .ok (.ireturn, 1) := by decide +kernel
set_option maxRecDepth 20000 in
theorem ggX1_load_X1_isBelow : GoodIn wsX1_load wsX1_isBelow := goodIn_r _ [6] (by decide +kernel) (by decide +kernel)
set_option maxRecDepth 20000 in
theorem gX1_load_X1_isBelow : GoodIn wsX1_load (va_wsS RX1 35 yX1_isBelow wsX1_isBelow) := goodIn_app (goodIn_of _ (by decide +kernel)) ggX1_load_X1_isBelow
theorem dX1_load_0 : decode cX1_load 0 = .ok (.iload_n 1, 1) := by decide +kernel
theorem dX1_load_1 : decode cX1_load 1 = .ok (.iconst 4, 1) := by decide +kernel
theorem dX1_load_2 : decode cX1_load 2 = .ok (.invokestatic 35, 3) := by decide +kernel
theorem dX1_load_5 : decode cX1_load 5 = .ok (.ifCond .eq 12, 3) := by decide +kernel
theorem dX1_load_8 : decode cX1_load 8 = .ok (.iload_n 3, 1) := by decide +kernel
theorem dX1_load_9 : decode cX1_load 9 = .ok (.bipush 8, 2) := by decide +kernel
theorem dX1_load_11 : decode cX1_load 11 = .ok (.invokestatic 35, 3) := by decide +kernel
theorem dX1_load_14 : decode cX1_load 14 = .ok (.ifCond .ne 5, 3) := by decide +kernel
theorem dX1_load_17 : decode cX1_load 17 = .ok (.iconst (-1), 1) := by decide +kernel
theorem dX1_load_18 : decode cX1_load 18 = .ok (.ireturn, 1) := by decide +kernel
theorem dX1_load_19 : decode cX1_load 19 = .ok (.iload_n 2, 1) := by decide +kernel
theorem dX1_load_20 : decode cX1_load 20 = .ok (.iconst 4, 1) := by decide +kernel
theorem dX1_load_21 : decode cX1_load 21 = .ok (.invokestatic 35, 3) := by decide +kernel
theorem dX1_load_24 : decode cX1_load 24 = .ok (.ifCond .ne 5, 3) := by decide +kernel
theorem dX1_load_27 : decode cX1_load 27 = .ok (.iconst 4, 1) := by decide +kernel
theorem dX1_load_28 : decode cX1_load 28 = .ok (.ireturn, 1) := by decide +kernel
theorem dX1_load_29 : decode cX1_load 29 = .ok (.aload_n 0, 1) := by decide +kernel
theorem dX1_load_30 : decode cX1_load 30 = .ok (.getfield 21, 3) := by decide +kernel
theorem dX1_load_33 : decode cX1_load 33 = .ok (.iload_n 3, 1) := by decide +kernel
theorem dX1_load_34 : decode cX1_load 34 = .ok (.aload_n 0, 1) := by decide +kernel
theorem dX1_load_35 : decode cX1_load 35 = .ok (.getfield 25, 3) := by decide +kernel
theorem dX1_load_38 : decode cX1_load 38 = .ok (.iload_n 1, 1) := by decide +kernel
theorem dX1_load_39 : decode cX1_load 39 = .ok (.iconst 4, 1) := by decide +kernel
theorem dX1_load_40 : decode cX1_load 40 = .ok (.imul, 1) := by decide +kernel
theorem dX1_load_41 : decode cX1_load 41 = .ok (.iload_n 2, 1) := by decide +kernel
theorem dX1_load_42 : decode cX1_load 42 = .ok (.iadd, 1) := by decide +kernel
theorem dX1_load_43 : decode cX1_load 43 = .ok (.aaload, 1) := by decide +kernel
theorem dX1_load_44 : decode cX1_load 44 = .ok (.aastore, 1) := by decide +kernel
theorem dX1_load_45 : decode cX1_load 45 = .ok (.iconst 0, 1) := by decide +kernel
theorem dX1_load_46 : decode cX1_load 46 = .ok (.ireturn, 1) := by decide +kernel
set_option maxRecDepth 20000 in
theorem ggX1_copy_X1_isBelow : GoodIn wsX1_copy wsX1_isBelow := goodIn_r _ [6] (by decide +kernel) (by decide +kernel)
set_option maxRecDepth 20000 in
theorem gX1_copy_X1_isBelow : GoodIn wsX1_copy (va_wsS RX1 35 yX1_isBelow wsX1_isBelow) := goodIn_app (goodIn_of _ (by decide +kernel)) ggX1_copy_X1_isBelow
set_option maxRecDepth 20000 in
theorem ggX1_copy_X1_isStretch : GoodIn wsX1_copy wsX1_isStretch := goodIn_r _ [9] (by decide +kernel) (by decide +kernel)
set_option maxRecDepth 20000 in
theorem gX1_copy_X1_isStretch : GoodIn wsX1_copy (va_wsS RX1 80 yX1_isStretch wsX1_isStretch) := goodIn_app (goodIn_of _ (by decide +kernel)) ggX1_copy_X1_isStretch
set_option maxRecDepth 20000 in
theorem ggX1_copy_X1_putInRow : GoodIn wsX1_copy wsX1_putInRow := goodIn_r _ [13, 14, 2, 15, 16, 5, 17, 18, 19, 20, 21, 22, 23, 24, 25, 26, 27, 28, 29, 30, 31, 32, 33, 34, 35, 36] (by decide +kernel) (by decide +kernel)
set_option maxRecDepth 20000 in
theorem gX1_copy_X1_putInRow : GoodIn wsX1_copy (wsV RX1 76 RX1 yX1_putInRow wsX1_putInRow) := goodIn_app (goodIn_of _ (by decide +kernel)) ggX1_copy_X1_putInRow
theorem dX1_copy_0 : decode cX1_copy 0 = .ok (.iload_n 1, 1) := by decide +kernel
theorem dX1_copy_1 : decode cX1_copy 1 = .ok (.iconst 4, 1) := by decide +kernel
theorem dX1_copy_2 : decode cX1_copy 2 = .ok (.invokestatic 35, 3) := by decide +kernel
theorem dX1_copy_5 : decode cX1_copy 5 = .ok (.ifCond .eq 11, 3) := by decide +kernel
theorem dX1_copy_8 : decode cX1_copy 8 = .ok (.iload_n 3, 1) := by decide +kernel
theorem dX1_copy_9 : decode cX1_copy 9 = .ok (.iconst 4, 1) := by decide +kernel
theorem dX1_copy_10 : decode cX1_copy 10 = .ok (.invokestatic 35, 3) := by decide +kernel
theorem dX1_copy_13 : decode cX1_copy 13 = .ok (.ifCond .ne 5, 3) := by decide +kernel
theorem dX1_copy_16 : decode cX1_copy 16 = .ok (.iconst (-1), 1) := by decide +kernel
theorem dX1_copy_17 : decode cX1_copy 17 = .ok (.ireturn, 1) := by decide +kernel
theorem dX1_copy_18 : decode cX1_copy 18 = .ok (.iload_n 2, 1) := by decide +kernel
theorem dX1_copy_19 : decode cX1_copy 19 = .ok (.iload 5, 2) := by decide +kernel
theorem dX1_copy_21 : decode cX1_copy 21 = .ok (.invokestatic 80, 3) := by decide +kernel
theorem dX1_copy_24 : decode cX1_copy 24 = .ok (.ifCond .eq 13, 3) := by decide +kernel
theorem dX1_copy_27 : decode cX1_copy 27 = .ok (.iload 4, 2) := by decide +kernel
theorem dX1_copy_29 : decode cX1_copy 29 = .ok (.iload 5, 2) := by decide +kernel
theorem dX1_copy_31 : decode cX1_copy 31 = .ok (.invokestatic 80, 3) := by decide +kernel
theorem dX1_copy_34 : decode cX1_copy 34 = .ok (.ifCond .ne 5, 3) := by decide +kernel
theorem dX1_copy_37 : decode cX1_copy 37 = .ok (.iconst 4, 1) := by decide +kernel
theorem dX1_copy_38 : decode cX1_copy 38 = .ok (.ireturn, 1) := by decide +kernel
theorem dX1_copy_39 : decode cX1_copy 39 = .ok (.iconst 0, 1) := by decide +kernel
theorem dX1_copy_40 : decode cX1_copy 40 = .ok (.istore 6, 2) := by decide +kernel
theorem dX1_copy_42 : decode cX1_copy 42 = .ok (.iload 6, 2) := by decide +kernel
theorem dX1_copy_44 : decode cX1_copy 44 = .ok (.iload 5, 2) := by decide +kernel
theorem dX1_copy_46 : decode cX1_copy 46 = .ok (.if_icmp .ge 29, 3) := by decide +kernel
theorem dX1_copy_49 : decode cX1_copy 49 = .ok (.aload_n 0, 1) := by decide +kernel
theorem dX1_copy_50 : decode cX1_copy 50 = .ok (.getfield 28, 3) := by decide +kernel
theorem dX1_copy_53 : decode cX1_copy 53 = .ok (.iload 6, 2) := by decide +kernel
theorem dX1_copy_55 : decode cX1_copy 55 = .ok (.aload_n 0, 1) := by decide +kernel
theorem dX1_copy_56 : decode cX1_copy 56 = .ok (.getfield 25, 3) := by decide +kernel
theorem dX1_copy_59 : decode cX1_copy 59 = .ok (.iload_n 1, 1) := by decide +kernel
theorem dX1_copy_60 : decode cX1_copy 60 = .ok (.iconst 4, 1) := by decide +kernel
theorem dX1_copy_61 : decode cX1_copy 61 = .ok (.imul, 1) := by decide +kernel
theorem dX1_copy_62 : decode cX1_copy 62 = .ok (.iload_n 2, 1) := by decide +kernel
theorem dX1_copy_63 : decode cX1_copy 63 = .ok (.iadd, 1) := by decide +kernel
theorem dX1_copy_64 : decode cX1_copy 64 = .ok (.iload 6, 2) := by decide +kernel
theorem dX1_copy_66 : decode cX1_copy 66 = .ok (.iadd, 1) := by decide +kernel
theorem dX1_copy_67 : decode cX1_copy 67 = .ok (.aaload, 1) := by decide +kernel
theorem dX1_copy_68 : decode cX1_copy 68 = .ok (.aastore, 1) := by decide +kernel
theorem dX1_copy_69 : decode cX1_copy 69 = .ok (.iinc 6 1, 3) := by decide +kernel
theorem dX1_copy_72 : decode cX1_copy 72 = .ok (.goto (-30), 3) := by decide +kernel
theorem dX1_copy_75 : decode cX1_copy 75 = .ok (.iconst 0, 1) := by decide +kernel
theorem dX1_copy_76 : decode cX1_copy 76 = .ok (.istore 6, 2) := by decide +kernel
theorem dX1_copy_78 : decode cX1_copy 78 = .ok (.iload 6, 2) := by decide +kernel
theorem dX1_copy_80 : decode cX1_copy 80 = .ok (.iload 5, 2) := by decide +kernel
theorem dX1_copy_82 : decode cX1_copy 82 = .ok (.if_icmp .ge 32, 3) := by decide +kernel
theorem dX1_copy_85 : decode cX1_copy 85 = .ok (.aload_n 0, 1) := by decide +kernel
theorem dX1_copy_86 : decode cX1_copy 86 = .ok (.iload_n 3, 1) := by decide +kernel
theorem dX1_copy_87 : decode cX1_copy 87 = .ok (.iload 4, 2) := by decide +kernel
theorem dX1_copy_89 : decode cX1_copy 89 = .ok (.iload 6, 2) := by decide +kernel
theorem dX1_copy_91 : decode cX1_copy 91 = .ok (.iadd, 1) := by decide +kernel
theorem dX1_copy_92 : decode cX1_copy 92 = .ok (.aload_n 0, 1) := by decide +kernel
theorem dX1_copy_93 : decode cX1_copy 93 = .ok (.getfield 28, 3) := by decide +kernel
theorem dX1_copy_96 : decode cX1_copy 96 = .ok (.iload 6, 2) := by decide +kernel
theorem dX1_copy_98 : decode cX1_copy 98 = .ok (.aaload, 1) := by decide +kernel
theorem dX1_copy_99 : decode cX1_copy 99 = .ok (.invokevirtual 76, 3) := by decide +kernel
theorem dX1_copy_102 : decode cX1_copy 102 = .ok (.iconst 3, 1) := by decide +kernel
theorem dX1_copy_103 : decode cX1_copy 103 = .ok (.if_icmp .ne 5, 3) := by decide +kernel
theorem dX1_copy_106 : decode cX1_copy 106 = .ok (.iconst 3, 1) := by decide +kernel
theorem dX1_copy_107 : decode cX1_copy 107 = .ok (.ireturn, 1) := by decide +kernel
theorem dX1_copy_108 : decode cX1_copy 108 = .ok (.iinc 6 1, 3) := by decide +kernel
theorem dX1_copy_111 : decode cX1_copy 111 = .ok (.goto (-33), 3) := by decide +kernel
theorem dX1_copy_114 : decode cX1_copy 114 = .ok (.iconst 0, 1) := by decide +kernel
theorem dX1_copy_115 : decode cX1_copy 115 = .ok (.ireturn, 1) := by decide +kernel
set_option maxRecDepth 20000 in
theorem ggX1_compare_X1_isBelow : GoodIn wsX1_compare wsX1_isBelow := goodIn_r _ [5] (by decide +kernel) (by decide +kernel)
set_option maxRecDepth 20000 in
theorem gX1_compare_X1_isBelow : GoodIn wsX1_compare (va_wsS RX1 35 yX1_isBelow wsX1_isBelow) := goodIn_app (goodIn_of _ (by decide +kernel)) ggX1_compare_X1_isBelow
set_option maxRecDepth 20000 in
theorem ggX1_compare_X1_isOfType : GoodIn wsX1_compare wsX1_isOfType := goodIn_r _ [8, 9, 10, 11, 4, 12, 27, 28, 29, 30, 31, 32] (by decide +kernel) (by decide +kernel)
set_option maxRecDepth 20000 in
theorem gX1_compare_X1_isOfType : GoodIn wsX1_compare (va_wsS RX1 64 yX1_isOfType wsX1_isOfType) := goodIn_app (goodIn_of _ (by decide +kernel)) ggX1_compare_X1_isOfType
set_option maxRecDepth 20000 in
theorem ggX1_compare_X1_wentWith : GoodIn wsX1_compare wsX1_wentWith := goodIn_r _ [16, 17, 18, 19, 20, 21, 22, 23, 24, 25, 26] (by decide +kernel) (by decide +kernel)
set_option maxRecDepth 20000 in
theorem gX1_compare_X1_wentWith : GoodIn wsX1_compare (wsV RX1 57 RX1 yX1_wentWith wsX1_wentWith) := goodIn_app (goodIn_of _ (by decide +kernel)) ggX1_compare_X1_wentWith
theorem dX1_compare_0 : decode cX1_compare 0 = .ok (.iload_n 1, 1) := by decide +kernel
theorem dX1_compare_1 : decode cX1_compare 1 = .ok (.bipush 8, 2) := by decide +kernel
theorem dX1_compare_3 : decode cX1_compare 3 = .ok (.invokestatic 35, 3) := by decide +kernel
theorem dX1_compare_6 : decode cX1_compare 6 = .ok (.ifCond .eq 12, 3) := by decide +kernel
theorem dX1_compare_9 : decode cX1_compare 9 = .ok (.iload_n 2, 1) := by decide +kernel
theorem dX1_compare_10 : decode cX1_compare 10 = .ok (.bipush 8, 2) := by decide +kernel
theorem dX1_compare_12 : decode cX1_compare 12 = .ok (.invokestatic 35, 3) := by decide +kernel
theorem dX1_compare_15 : decode cX1_compare 15 = .ok (.ifCond .ne 5, 3) := by decide +kernel
theorem dX1_compare_18 : decode cX1_compare 18 = .ok (.iconst (-1), 1) := by decide +kernel
theorem dX1_compare_19 : decode cX1_compare 19 = .ok (.ireturn, 1) := by decide +kernel
theorem dX1_compare_20 : decode cX1_compare 20 = .ok (.aload_n 0, 1) := by decide +kernel
theorem dX1_compare_21 : decode cX1_compare 21 = .ok (.getfield 21, 3) := by decide +kernel
theorem dX1_compare_24 : decode cX1_compare 24 = .ok (.iload_n 1, 1) := by decide +kernel
theorem dX1_compare_25 : decode cX1_compare 25 = .ok (.aaload, 1) := by decide +kernel
theorem dX1_compare_26 : decode cX1_compare 26 = .ok (.astore_n 3, 1) := by decide +kernel
theorem dX1_compare_27 : decode cX1_compare 27 = .ok (.aload_n 0, 1) := by decide +kernel
theorem dX1_compare_28 : decode cX1_compare 28 = .ok (.getfield 21, 3) := by decide +kernel
theorem dX1_compare_31 : decode cX1_compare 31 = .ok (.iload_n 2, 1) := by decide +kernel
theorem dX1_compare_32 : decode cX1_compare 32 = .ok (.aaload, 1) := by decide +kernel
theorem dX1_compare_33 : decode cX1_compare 33 = .ok (.astore 4, 2) := by decide +kernel
theorem dX1_compare_35 : decode cX1_compare 35 = .ok (.aload_n 3, 1) := by decide +kernel
theorem dX1_compare_36 : decode cX1_compare 36 = .ok (.ifnull 8, 3) := by decide +kernel
theorem dX1_compare_39 : decode cX1_compare 39 = .ok (.aload 4, 2) := by decide +kernel
theorem dX1_compare_41 : decode cX1_compare 41 = .ok (.ifnonnull 5, 3) := by decide +kernel
theorem dX1_compare_44 : decode cX1_compare 44 = .ok (.iconst 2, 1) := by decide +kernel
theorem dX1_compare_45 : decode cX1_compare 45 = .ok (.ireturn, 1) := by decide +kernel
theorem dX1_compare_46 : decode cX1_compare 46 = .ok (.aload_n 3, 1) := by decide +kernel
theorem dX1_compare_47 : decode cX1_compare 47 = .ok (.iconst 3, 1) := by decide +kernel
theorem dX1_compare_48 : decode cX1_compare 48 = .ok (.invokestatic 64, 3) := by decide +kernel
theorem dX1_compare_51 : decode cX1_compare 51 = .ok (.ifCond .eq 12, 3) := by decide +kernel
theorem dX1_compare_54 : decode cX1_compare 54 = .ok (.aload 4, 2) := by decide +kernel
theorem dX1_compare_56 : decode cX1_compare 56 = .ok (.iconst 3, 1) := by decide +kernel
theorem dX1_compare_57 : decode cX1_compare 57 = .ok (.invokestatic 64, 3) := by decide +kernel
theorem dX1_compare_60 : decode cX1_compare 60 = .ok (.ifCond .ne 5, 3) := by decide +kernel
theorem dX1_compare_63 : decode cX1_compare 63 = .ok (.iconst 1, 1) := by decide +kernel
theorem dX1_compare_64 : decode cX1_compare 64 = .ok (.ireturn, 1) := by decide +kernel
theorem dX1_compare_65 : decode cX1_compare 65 = .ok (.aload_n 0, 1) := by decide +kernel
theorem dX1_compare_66 : decode cX1_compare 66 = .ok (.aload_n 3, 1) := by decide +kernel
theorem dX1_compare_67 : decode cX1_compare 67 = .ok (.getfield 83, 3) := by decide +kernel
theorem dX1_compare_70 : decode cX1_compare 70 = .ok (.aload 4, 2) := by decide +kernel
theorem dX1_compare_72 : decode cX1_compare 72 = .ok (.getfield 83, 3) := by decide +kernel
theorem dX1_compare_75 : decode cX1_compare 75 = .ok (.if_icmp .ge 7, 3) := by decide +kernel
theorem dX1_compare_78 : decode cX1_compare 78 = .ok (.iconst (-1), 1) := by decide +kernel
theorem dX1_compare_79 : decode cX1_compare 79 = .ok (.goto 20, 3) := by decide +kernel
theorem dX1_compare_82 : decode cX1_compare 82 = .ok (.aload_n 3, 1) := by decide +kernel
theorem dX1_compare_83 : decode cX1_compare 83 = .ok (.getfield 83, 3) := by decide +kernel
theorem dX1_compare_86 : decode cX1_compare 86 = .ok (.aload 4, 2) := by decide +kernel
theorem dX1_compare_88 : decode cX1_compare 88 = .ok (.getfield 83, 3) := by decide +kernel
theorem dX1_compare_91 : decode cX1_compare 91 = .ok (.if_icmp .le 7, 3) := by decide +kernel
theorem dX1_compare_94 : decode cX1_compare 94 = .ok (.iconst 1, 1) := by decide +kernel
theorem dX1_compare_95 : decode cX1_compare 95 = .ok (.goto 4, 3) := by decide +kernel
theorem dX1_compare_98 : decode cX1_compare 98 = .ok (.iconst 0, 1) := by decide +kernel
theorem dX1_compare_99 : decode cX1_compare 99 = .ok (.invokevirtual 57, 3) := by decide +kernel
theorem dX1_compare_102 : decode cX1_compare 102 = .ok (.ireturn, 1) := by decide +kernel
set_option maxRecDepth 20000 in
theorem ggX1_flow_X1_divideNoting : GoodIn wsX1_flow wsX1_divideNoting := goodIn_r _ [5, 6, 7, 8, 4, 9, 10, 11, 41, 42, 43, 44, 45, 46, 47, 48, 49] (by decide +kernel) (by decide +kernel)
set_option maxRecDepth 20000 in
theorem gX1_flow_X1_divideNoting : GoodIn wsX1_flow (wsV RX1 86 RX1 yX1_divideNoting wsX1_divideNoting) := goodIn_app (goodIn_of _ (by decide +kernel)) ggX1_flow_X1_divideNoting
set_option maxRecDepth 20000 in
theorem ggX1_flow_X1_wentWith : GoodIn wsX1_flow wsX1_wentWith := goodIn_r _ [15, 16, 41, 42, 43, 44, 45, 46, 47, 48, 49] (by decide +kernel) (by decide +kernel)
set_option maxRecDepth 20000 in
theorem gX1_flow_X1_wentWith : GoodIn wsX1_flow (wsV RX1 57 RX1 yX1_wentWith wsX1_wentWith) := goodIn_app (goodIn_of _ (by decide +kernel)) ggX1_flow_X1_wentWith
set_option maxRecDepth 20000 in
theorem ggX1_flow_X1_countTurns : GoodIn wsX1_flow wsX1_countTurns := goodIn_r _ [20, 6, 7, 8, 4, 9, 10, 11, 41, 42, 43, 44, 45, 46, 47, 48, 49] (by decide +kernel) (by decide +kernel)
set_option maxRecDepth 20000 in
theorem gX1_flow_X1_countTurns : GoodIn wsX1_flow (wsV RX1 89 RX1 yX1_countTurns wsX1_countTurns) := goodIn_app (goodIn_of _ (by decide +kernel)) ggX1_flow_X1_countTurns
set_option maxRecDepth 20000 in
theorem ggX1_flow_X1_openWorkClose : GoodIn wsX1_flow wsX1_openWorkClose := goodIn_r _ [24, 6, 7, 8, 4, 9, 10, 11, 25, 26, 27, 41, 42, 43, 44, 45, 46, 47, 48, 49] (by decide +kernel) (by decide +kernel)
set_option maxRecDepth 20000 in
theorem gX1_flow_X1_openWorkClose : GoodIn wsX1_flow (wsV RX1 92 RX1 yX1_openWorkClose wsX1_openWorkClose) := goodIn_app (goodIn_of _ (by decide +kernel)) ggX1_flow_X1_openWorkClose
set_option maxRecDepth 20000 in
theorem ggX1_flow_X1_workByWord : GoodIn wsX1_flow wsX1_workByWord := goodIn_r _ [30] (by decide +kernel) (by decide +kernel)
set_option maxRecDepth 20000 in
theorem gX1_flow_X1_workByWord : GoodIn wsX1_flow (va_wsS RX1 95 yX1_workByWord wsX1_workByWord) := goodIn_app (goodIn_of _ (by decide +kernel)) ggX1_flow_X1_workByWord
set_option maxRecDepth 20000 in
theorem ggX1_flow_X1_squareInRow : GoodIn wsX1_flow wsX1_squareInRow := goodIn_r _ [34, 35, 36, 4, 37, 12, 13, 14, 15, 16, 41, 42, 43, 44, 45, 46, 47, 48, 49] (by decide +kernel) (by decide +kernel)
set_option maxRecDepth 20000 in
theorem gX1_flow_X1_squareInRow : GoodIn wsX1_flow (wsV RX1 98 RX1 yX1_squareInRow wsX1_squareInRow) := goodIn_app (goodIn_of _ (by decide +kernel)) ggX1_flow_X1_squareInRow
set_option maxRecDepth 20000 in
theorem ggX1_flow_X1_putAtToldPlace : GoodIn wsX1_flow wsX1_putAtToldPlace := goodIn_r _ [40] (by decide +kernel) (by decide +kernel)
set_option maxRecDepth 20000 in
theorem gX1_flow_X1_putAtToldPlace : GoodIn wsX1_flow (va_wsS RX1 101 yX1_putAtToldPlace wsX1_putAtToldPlace) := goodIn_app (goodIn_of _ (by decide +kernel)) ggX1_flow_X1_putAtToldPlace
theorem dX1_flow_0 : decode cX1_flow 0 = .ok (.iload_n 1, 1) := by decide +kernel
theorem dX1_flow_1 : decode cX1_flow 1 = .ok (.tableswitch 126 0 6 #[43, 54, 71, 82, 94, 108, 115], 43) := by decide +kernel
theorem dX1_flow_44 : decode cX1_flow 44 = .ok (.aload_n 0, 1) := by decide +kernel
theorem dX1_flow_45 : decode cX1_flow 45 = .ok (.aload_n 0, 1) := by decide +kernel
theorem dX1_flow_46 : decode cX1_flow 46 = .ok (.iload_n 2, 1) := by decide +kernel
theorem dX1_flow_47 : decode cX1_flow 47 = .ok (.iload_n 3, 1) := by decide +kernel
theorem dX1_flow_48 : decode cX1_flow 48 = .ok (.invokevirtual 86, 3) := by decide +kernel
theorem dX1_flow_51 : decode cX1_flow 51 = .ok (.invokevirtual 57, 3) := by decide +kernel
theorem dX1_flow_54 : decode cX1_flow 54 = .ok (.ireturn, 1) := by decide +kernel
theorem dX1_flow_55 : decode cX1_flow 55 = .ok (.aload_n 0, 1) := by decide +kernel
theorem dX1_flow_56 : decode cX1_flow 56 = .ok (.aload_n 0, 1) := by decide +kernel
theorem dX1_flow_57 : decode cX1_flow 57 = .ok (.iload_n 2, 1) := by decide +kernel
theorem dX1_flow_58 : decode cX1_flow 58 = .ok (.bipush 7, 2) := by decide +kernel
theorem dX1_flow_60 : decode cX1_flow 60 = .ok (.iand, 1) := by decide +kernel
theorem dX1_flow_61 : decode cX1_flow 61 = .ok (.iload_n 3, 1) := by decide +kernel
theorem dX1_flow_62 : decode cX1_flow 62 = .ok (.bipush 7, 2) := by decide +kernel
theorem dX1_flow_64 : decode cX1_flow 64 = .ok (.iand, 1) := by decide +kernel
theorem dX1_flow_65 : decode cX1_flow 65 = .ok (.invokevirtual 89, 3) := by decide +kernel
theorem dX1_flow_68 : decode cX1_flow 68 = .ok (.invokevirtual 57, 3) := by decide +kernel
theorem dX1_flow_71 : decode cX1_flow 71 = .ok (.ireturn, 1) := by decide +kernel
theorem dX1_flow_72 : decode cX1_flow 72 = .ok (.aload_n 0, 1) := by decide +kernel
theorem dX1_flow_73 : decode cX1_flow 73 = .ok (.aload_n 0, 1) := by decide +kernel
theorem dX1_flow_74 : decode cX1_flow 74 = .ok (.iload_n 2, 1) := by decide +kernel
theorem dX1_flow_75 : decode cX1_flow 75 = .ok (.iload_n 3, 1) := by decide +kernel
theorem dX1_flow_76 : decode cX1_flow 76 = .ok (.invokevirtual 92, 3) := by decide +kernel
theorem dX1_flow_79 : decode cX1_flow 79 = .ok (.invokevirtual 57, 3) := by decide +kernel
theorem dX1_flow_82 : decode cX1_flow 82 = .ok (.ireturn, 1) := by decide +kernel
theorem dX1_flow_83 : decode cX1_flow 83 = .ok (.aload_n 0, 1) := by decide +kernel
theorem dX1_flow_84 : decode cX1_flow 84 = .ok (.iload_n 2, 1) := by decide +kernel
theorem dX1_flow_85 : decode cX1_flow 85 = .ok (.iload_n 3, 1) := by decide +kernel
theorem dX1_flow_86 : decode cX1_flow 86 = .ok (.iconst 3, 1) := by decide +kernel
theorem dX1_flow_87 : decode cX1_flow 87 = .ok (.iand, 1) := by decide +kernel
theorem dX1_flow_88 : decode cX1_flow 88 = .ok (.invokestatic 95, 3) := by decide +kernel
theorem dX1_flow_91 : decode cX1_flow 91 = .ok (.invokevirtual 57, 3) := by decide +kernel
theorem dX1_flow_94 : decode cX1_flow 94 = .ok (.ireturn, 1) := by decide +kernel
theorem dX1_flow_95 : decode cX1_flow 95 = .ok (.aload_n 0, 1) := by decide +kernel
theorem dX1_flow_96 : decode cX1_flow 96 = .ok (.iload_n 2, 1) := by decide +kernel
theorem dX1_flow_97 : decode cX1_flow 97 = .ok (.iload_n 2, 1) := by decide +kernel
theorem dX1_flow_98 : decode cX1_flow 98 = .ok (.iconst 1, 1) := by decide +kernel
theorem dX1_flow_99 : decode cX1_flow 99 = .ok (.iadd, 1) := by decide +kernel
theorem dX1_flow_100 : decode cX1_flow 100 = .ok (.iload_n 3, 1) := by decide +kernel
theorem dX1_flow_101 : decode cX1_flow 101 = .ok (.imul, 1) := by decide +kernel
theorem dX1_flow_102 : decode cX1_flow 102 = .ok (.iadd, 1) := by decide +kernel
theorem dX1_flow_103 : decode cX1_flow 103 = .ok (.iload_n 3, 1) := by decide +kernel
theorem dX1_flow_104 : decode cX1_flow 104 = .ok (.iadd, 1) := by decide +kernel
theorem dX1_flow_105 : decode cX1_flow 105 = .ok (.invokevirtual 57, 3) := by decide +kernel
theorem dX1_flow_108 : decode cX1_flow 108 = .ok (.ireturn, 1) := by decide +kernel
theorem dX1_flow_109 : decode cX1_flow 109 = .ok (.aload_n 0, 1) := by decide +kernel
theorem dX1_flow_110 : decode cX1_flow 110 = .ok (.iload_n 2, 1) := by decide +kernel
theorem dX1_flow_111 : decode cX1_flow 111 = .ok (.iload_n 3, 1) := by decide +kernel
theorem dX1_flow_112 : decode cX1_flow 112 = .ok (.invokevirtual 98, 3) := by decide +kernel
theorem dX1_flow_115 : decode cX1_flow 115 = .ok (.ireturn, 1) := by decide +kernel
theorem dX1_flow_116 : decode cX1_flow 116 = .ok (.aload_n 0, 1) := by decide +kernel
theorem dX1_flow_117 : decode cX1_flow 117 = .ok (.iload_n 2, 1) := by decide +kernel
theorem dX1_flow_118 : decode cX1_flow 118 = .ok (.iconst 1, 1) := by decide +kernel
theorem dX1_flow_119 : decode cX1_flow 119 = .ok (.iand, 1) := by decide +kernel
theorem dX1_flow_120 : decode cX1_flow 120 = .ok (.invokestatic 101, 3) := by decide +kernel
theorem dX1_flow_123 : decode cX1_flow 123 = .ok (.invokevirtual 57, 3) := by decide +kernel
theorem dX1_flow_126 : decode cX1_flow 126 = .ok (.ireturn, 1) := by decide +kernel
theorem dX1_flow_127 : decode cX1_flow 127 = .ok (.iconst (-1), 1) := by decide +kernel
theorem dX1_flow_128 : decode cX1_flow 128 = .ok (.ireturn, 1) := by decide +kernel
set_option maxRecDepth 20000 in
theorem ggX1_number_X1_wentWith : GoodIn wsX1_number wsX1_wentWith := goodIn_r _ [6, 7, 16, 17, 18, 19, 20, 21, 22, 23, 24] (by decide +kernel) (by decide +kernel)
set_option maxRecDepth 20000 in
theorem gX1_number_X1_wentWith : GoodIn wsX1_number (wsV RX1 57 RX1 yX1_wentWith wsX1_wentWith) := goodIn_app (goodIn_of _ (by decide +kernel)) ggX1_number_X1_wentWith
set_option maxRecDepth 20000 in
theorem ggX1_number_X1_quotientOfDoubles : GoodIn wsX1_number wsX1_quotientOfDoubles := goodIn_r _ [10, 11, 12] (by decide +kernel) (by decide +kernel)
set_option maxRecDepth 20000 in
theorem gX1_number_X1_quotientOfDoubles : GoodIn wsX1_number (va_wsS RX1 104 yX1_quotientOfDoubles wsX1_quotientOfDoubles) := goodIn_app (goodIn_of _ (by decide +kernel)) ggX1_number_X1_quotientOfDoubles
set_option maxRecDepth 20000 in
theorem ggX1_number_X1_decimalLength : GoodIn wsX1_number wsX1_decimalLength := goodIn_r _ [15] (by decide +kernel) (by decide +kernel)
set_option maxRecDepth 20000 in
theorem gX1_number_X1_decimalLength : GoodIn wsX1_number (va_wsS RX1 109 yX1_decimalLength wsX1_decimalLength) := goodIn_app (goodIn_of _ (by decide +kernel)) ggX1_number_X1_decimalLength
theorem dX1_number_0 : decode cX1_number 0 = .ok (.iload_n 1, 1) := by decide +kernel
theorem dX1_number_1 : decode cX1_number 1 = .ok (.tableswitch 185 0 9 #[55, 63, 73, 83, 99, 115, 125, 139, 157, 169], 55) := by decide +kernel
theorem dX1_number_56 : decode cX1_number 56 = .ok (.aload_n 0, 1) := by decide +kernel
theorem dX1_number_57 : decode cX1_number 57 = .ok (.iload_n 2, 1) := by decide +kernel
theorem dX1_number_58 : decode cX1_number 58 = .ok (.i2f, 1) := by decide +kernel
theorem dX1_number_59 : decode cX1_number 59 = .ok (.f2i, 1) := by decide +kernel
theorem dX1_number_60 : decode cX1_number 60 = .ok (.invokevirtual 57, 3) := by decide +kernel
theorem dX1_number_63 : decode cX1_number 63 = .ok (.ireturn, 1) := by decide +kernel
theorem dX1_number_64 : decode cX1_number 64 = .ok (.aload_n 0, 1) := by decide +kernel
theorem dX1_number_65 : decode cX1_number 65 = .ok (.iload_n 2, 1) := by decide +kernel
theorem dX1_number_66 : decode cX1_number 66 = .ok (.iload_n 3, 1) := by decide +kernel
theorem dX1_number_67 : decode cX1_number 67 = .ok (.invokestatic 104, 3) := by decide +kernel
theorem dX1_number_70 : decode cX1_number 70 = .ok (.invokevirtual 57, 3) := by decide +kernel
theorem dX1_number_73 : decode cX1_number 73 = .ok (.ireturn, 1) := by decide +kernel
theorem dX1_number_74 : decode cX1_number 74 = .ok (.aload_n 0, 1) := by decide +kernel
theorem dX1_number_75 : decode cX1_number 75 = .ok (.iload_n 2, 1) := by decide +kernel
theorem dX1_number_76 : decode cX1_number 76 = .ok (.i2b, 1) := by decide +kernel
theorem dX1_number_77 : decode cX1_number 77 = .ok (.iload_n 3, 1) := by decide +kernel
theorem dX1_number_78 : decode cX1_number 78 = .ok (.i2c, 1) := by decide +kernel
theorem dX1_number_79 : decode cX1_number 79 = .ok (.imul, 1) := by decide +kernel
theorem dX1_number_80 : decode cX1_number 80 = .ok (.invokevirtual 57, 3) := by decide +kernel
theorem dX1_number_83 : decode cX1_number 83 = .ok (.ireturn, 1) := by decide +kernel
theorem dX1_number_84 : decode cX1_number 84 = .ok (.aload_n 0, 1) := by decide +kernel
theorem dX1_number_85 : decode cX1_number 85 = .ok (.iload_n 2, 1) := by decide +kernel
theorem dX1_number_86 : decode cX1_number 86 = .ok (.iload_n 3, 1) := by decide +kernel
theorem dX1_number_87 : decode cX1_number 87 = .ok (.ishr, 1) := by decide +kernel
theorem dX1_number_88 : decode cX1_number 88 = .ok (.iload_n 2, 1) := by decide +kernel
theorem dX1_number_89 : decode cX1_number 89 = .ok (.iload_n 3, 1) := by decide +kernel
theorem dX1_number_90 : decode cX1_number 90 = .ok (.iushr, 1) := by decide +kernel
theorem dX1_number_91 : decode cX1_number 91 = .ok (.iadd, 1) := by decide +kernel
theorem dX1_number_92 : decode cX1_number 92 = .ok (.iload_n 2, 1) := by decide +kernel
theorem dX1_number_93 : decode cX1_number 93 = .ok (.iload_n 3, 1) := by decide +kernel
theorem dX1_number_94 : decode cX1_number 94 = .ok (.ishl, 1) := by decide +kernel
theorem dX1_number_95 : decode cX1_number 95 = .ok (.iadd, 1) := by decide +kernel
theorem dX1_number_96 : decode cX1_number 96 = .ok (.invokevirtual 57, 3) := by decide +kernel
theorem dX1_number_99 : decode cX1_number 99 = .ok (.ireturn, 1) := by decide +kernel
theorem dX1_number_100 : decode cX1_number 100 = .ok (.iload_n 3, 1) := by decide +kernel
theorem dX1_number_101 : decode cX1_number 101 = .ok (.ifCond .ne 7, 3) := by decide +kernel
theorem dX1_number_104 : decode cX1_number 104 = .ok (.iconst 5, 1) := by decide +kernel
theorem dX1_number_105 : decode cX1_number 105 = .ok (.goto 10, 3) := by decide +kernel
theorem dX1_number_108 : decode cX1_number 108 = .ok (.aload_n 0, 1) := by decide +kernel
theorem dX1_number_109 : decode cX1_number 109 = .ok (.iload_n 2, 1) := by decide +kernel
theorem dX1_number_110 : decode cX1_number 110 = .ok (.iload_n 3, 1) := by decide +kernel
theorem dX1_number_111 : decode cX1_number 111 = .ok (.irem, 1) := by decide +kernel
theorem dX1_number_112 : decode cX1_number 112 = .ok (.invokevirtual 57, 3) := by decide +kernel
theorem dX1_number_115 : decode cX1_number 115 = .ok (.ireturn, 1) := by decide +kernel
theorem dX1_number_116 : decode cX1_number 116 = .ok (.aload_n 0, 1) := by decide +kernel
theorem dX1_number_117 : decode cX1_number 117 = .ok (.iload_n 2, 1) := by decide +kernel
theorem dX1_number_118 : decode cX1_number 118 = .ok (.i2s, 1) := by decide +kernel
theorem dX1_number_119 : decode cX1_number 119 = .ok (.iload_n 3, 1) := by decide +kernel
theorem dX1_number_120 : decode cX1_number 120 = .ok (.iadd, 1) := by decide +kernel
theorem dX1_number_121 : decode cX1_number 121 = .ok (.i2s, 1) := by decide +kernel
theorem dX1_number_122 : decode cX1_number 122 = .ok (.invokevirtual 57, 3) := by decide +kernel
theorem dX1_number_125 : decode cX1_number 125 = .ok (.ireturn, 1) := by decide +kernel
theorem dX1_number_126 : decode cX1_number 126 = .ok (.aload_n 0, 1) := by decide +kernel
theorem dX1_number_127 : decode cX1_number 127 = .ok (.iload_n 2, 1) := by decide +kernel
theorem dX1_number_128 : decode cX1_number 128 = .ok (.i2l, 1) := by decide +kernel
theorem dX1_number_129 : decode cX1_number 129 = .ok (.iload_n 3, 1) := by decide +kernel
theorem dX1_number_130 : decode cX1_number 130 = .ok (.i2l, 1) := by decide +kernel
theorem dX1_number_131 : decode cX1_number 131 = .ok (.lmul, 1) := by decide +kernel
theorem dX1_number_132 : decode cX1_number 132 = .ok (.bipush 16, 2) := by decide +kernel
theorem dX1_number_134 : decode cX1_number 134 = .ok (.lshr, 1) := by decide +kernel
theorem dX1_number_135 : decode cX1_number 135 = .ok (.l2i, 1) := by decide +kernel
theorem dX1_number_136 : decode cX1_number 136 = .ok (.invokevirtual 57, 3) := by decide +kernel
theorem dX1_number_139 : decode cX1_number 139 = .ok (.ireturn, 1) := by decide +kernel
theorem dX1_number_140 : decode cX1_number 140 = .ok (.aload_n 0, 1) := by decide +kernel
theorem dX1_number_141 : decode cX1_number 141 = .ok (.iload_n 2, 1) := by decide +kernel
theorem dX1_number_142 : decode cX1_number 142 = .ok (.i2f, 1) := by decide +kernel
theorem dX1_number_143 : decode cX1_number 143 = .ok (.iload_n 3, 1) := by decide +kernel
theorem dX1_number_144 : decode cX1_number 144 = .ok (.i2f, 1) := by decide +kernel
theorem dX1_number_145 : decode cX1_number 145 = .ok (.fcmp .l, 1) := by decide +kernel
theorem dX1_number_146 : decode cX1_number 146 = .ok (.ifCond .ne 7, 3) := by decide +kernel
theorem dX1_number_149 : decode cX1_number 149 = .ok (.iconst 1, 1) := by decide +kernel
theorem dX1_number_150 : decode cX1_number 150 = .ok (.goto 4, 3) := by decide +kernel
theorem dX1_number_153 : decode cX1_number 153 = .ok (.iconst 0, 1) := by decide +kernel
theorem dX1_number_154 : decode cX1_number 154 = .ok (.invokevirtual 57, 3) := by decide +kernel
theorem dX1_number_157 : decode cX1_number 157 = .ok (.ireturn, 1) := by decide +kernel
theorem dX1_number_158 : decode cX1_number 158 = .ok (.aload_n 0, 1) := by decide +kernel
theorem dX1_number_159 : decode cX1_number 159 = .ok (.iload_n 2, 1) := by decide +kernel
theorem dX1_number_160 : decode cX1_number 160 = .ok (.i2d, 1) := by decide +kernel
theorem dX1_number_161 : decode cX1_number 161 = .ok (.ldc2_w 107, 3) := by decide +kernel
theorem dX1_number_164 : decode cX1_number 164 = .ok (.dmul, 1) := by decide +kernel
theorem dX1_number_165 : decode cX1_number 165 = .ok (.d2i, 1) := by decide +kernel
theorem dX1_number_166 : decode cX1_number 166 = .ok (.invokevirtual 57, 3) := by decide +kernel
theorem dX1_number_169 : decode cX1_number 169 = .ok (.ireturn, 1) := by decide +kernel
theorem dX1_number_170 : decode cX1_number 170 = .ok (.aload_n 0, 1) := by decide +kernel
theorem dX1_number_171 : decode cX1_number 171 = .ok (.iload_n 2, 1) := by decide +kernel
theorem dX1_number_172 : decode cX1_number 172 = .ok (.invokestatic 109, 3) := by decide +kernel
theorem dX1_number_175 : decode cX1_number 175 = .ok (.iconst 1, 1) := by decide +kernel
theorem dX1_number_176 : decode cX1_number 176 = .ok (.iadd, 1) := by decide +kernel
theorem dX1_number_177 : decode cX1_number 177 = .ok (.iload_n 3, 1) := by decide +kernel
theorem dX1_number_178 : decode cX1_number 178 = .ok (.invokestatic 109, 3) := by decide +kernel
theorem dX1_number_181 : decode cX1_number 181 = .ok (.iadd, 1) := by decide +kernel
theorem dX1_number_182 : decode cX1_number 182 = .ok (.invokevirtual 57, 3) := by decide +kernel
theorem dX1_number_185 : decode cX1_number 185 = .ok (.ireturn, 1) := by decide +kernel
theorem dX1_number_186 : decode cX1_number 186 = .ok (.iconst (-1), 1) := by decide +kernel
theorem dX1_number_187 : decode cX1_number 187 = .ok (.ireturn, 1) := by decide +kernel
theorem dX1_isBelow_0 : decode cX1_isBelow 0 = .ok (.iload_n 0, 1) := by decide +kernel
theorem dX1_isBelow_1 : decode cX1_isBelow 1 = .ok (.ifCond .lt 12, 3) := by decide +kernel
theorem dX1_isBelow_4 : decode cX1_isBelow 4 = .ok (.iload_n 0, 1) := by decide +kernel
theorem dX1_isBelow_5 : decode cX1_isBelow 5 = .ok (.iload_n 1, 1) := by decide +kernel
theorem dX1_isBelow_6 : decode cX1_isBelow 6 = .ok (.if_icmp .ge 7, 3) := by decide +kernel
theorem dX1_isBelow_9 : decode cX1_isBelow 9 = .ok (.iconst 1, 1) := by decide +kernel
theorem dX1_isBelow_10 : decode cX1_isBelow 10 = .ok (.goto 4, 3) := by decide +kernel
theorem dX1_isBelow_13 : decode cX1_isBelow 13 = .ok (.iconst 0, 1) := by decide +kernel
theorem dX1_isBelow_14 : decode cX1_isBelow 14 = .ok (.ireturn, 1) := by decide +kernel
theorem dX1_isStretch_0 : decode cX1_isStretch 0 = .ok (.iload_n 0, 1) := by decide +kernel
theorem dX1_isStretch_1 : decode cX1_isStretch 1 = .ok (.ifCond .lt 23, 3) := by decide +kernel
theorem dX1_isStretch_4 : decode cX1_isStretch 4 = .ok (.iload_n 1, 1) := by decide +kernel
theorem dX1_isStretch_5 : decode cX1_isStretch 5 = .ok (.ifCond .lt 19, 3) := by decide +kernel
theorem dX1_isStretch_8 : decode cX1_isStretch 8 = .ok (.iload_n 1, 1) := by decide +kernel
theorem dX1_isStretch_9 : decode cX1_isStretch 9 = .ok (.iconst 4, 1) := by decide +kernel
theorem dX1_isStretch_10 : decode cX1_isStretch 10 = .ok (.if_icmp .gt 14, 3) := by decide +kernel
theorem dX1_isStretch_13 : decode cX1_isStretch 13 = .ok (.iload_n 0, 1) := by decide +kernel
theorem dX1_isStretch_14 : decode cX1_isStretch 14 = .ok (.iconst 4, 1) := by decide +kernel
theorem dX1_isStretch_15 : decode cX1_isStretch 15 = .ok (.iload_n 1, 1) := by decide +kernel
theorem dX1_isStretch_16 : decode cX1_isStretch 16 = .ok (.isub, 1) := by decide +kernel
theorem dX1_isStretch_17 : decode cX1_isStretch 17 = .ok (.if_icmp .gt 7, 3) := by decide +kernel
theorem dX1_isStretch_20 : decode cX1_isStretch 20 = .ok (.iconst 1, 1) := by decide +kernel
theorem dX1_isStretch_21 : decode cX1_isStretch 21 = .ok (.goto 4, 3) := by decide +kernel
theorem dX1_isStretch_24 : decode cX1_isStretch 24 = .ok (.iconst 0, 1) := by decide +kernel
theorem dX1_isStretch_25 : decode cX1_isStretch 25 = .ok (.ireturn, 1) := by decide +kernel
theorem dX1_holds_0 : decode cX1_holds 0 = .ok (.iload_n 0, 1) := by decide +kernel
theorem dX1_holds_1 : decode cX1_holds 1 = .ok (.iconst 1, 1) := by decide +kernel
theorem dX1_holds_2 : decode cX1_holds 2 = .ok (.iload_n 1, 1) := by decide +kernel
theorem dX1_holds_3 : decode cX1_holds 3 = .ok (.ishl, 1) := by decide +kernel
theorem dX1_holds_4 : decode cX1_holds 4 = .ok (.iand, 1) := by decide +kernel
theorem dX1_holds_5 : decode cX1_holds 5 = .ok (.ifCond .eq 7, 3) := by decide +kernel
theorem dX1_holds_8 : decode cX1_holds 8 = .ok (.iconst 1, 1) := by decide +kernel
theorem dX1_holds_9 : decode cX1_holds 9 = .ok (.goto 4, 3) := by decide +kernel
theorem dX1_holds_12 : decode cX1_holds 12 = .ok (.iconst 0, 1) := by decide +kernel
theorem dX1_holds_13 : decode cX1_holds 13 = .ok (.ireturn, 1) := by decide +kernel
set_option maxRecDepth 20000 in
theorem ggX1_isOfType_X1_holds : GoodIn wsX1_isOfType wsX1_holds := goodIn_r _ [5] (by decide +kernel) (by decide +kernel)
set_option maxRecDepth 20000 in
theorem gX1_isOfType_X1_holds : GoodIn wsX1_isOfType (va_wsS RX1 50 yX1_holds wsX1_holds) := goodIn_app (goodIn_of _ (by decide +kernel)) ggX1_isOfType_X1_holds
theorem dX1_isOfType_0 : decode cX1_isOfType 0 = .ok (.getstatic 115, 3) := by decide +kernel
theorem dX1_isOfType_3 : decode cX1_isOfType 3 = .ok (.aload_n 0, 1) := by decide +kernel
theorem dX1_isOfType_4 : decode cX1_isOfType 4 = .ok (.getfield 118, 3) := by decide +kernel
theorem dX1_isOfType_7 : decode cX1_isOfType 7 = .ok (.iaload, 1) := by decide +kernel
theorem dX1_isOfType_8 : decode cX1_isOfType 8 = .ok (.iload_n 1, 1) := by decide +kernel
theorem dX1_isOfType_9 : decode cX1_isOfType 9 = .ok (.invokestatic 50, 3) := by decide +kernel
theorem dX1_isOfType_12 : decode cX1_isOfType 12 = .ok (.ireturn, 1) := by decide +kernel
theorem dX1_wentWith_0 : decode cX1_wentWith 0 = .ok (.aload_n 0, 1) := by decide +kernel
theorem dX1_wentWith_1 : decode cX1_wentWith 1 = .ok (.iload_n 1, 1) := by decide +kernel
theorem dX1_wentWith_2 : decode cX1_wentWith 2 = .ok (.putfield 72, 3) := by decide +kernel
theorem dX1_wentWith_5 : decode cX1_wentWith 5 = .ok (.iconst 0, 1) := by decide +kernel
theorem dX1_wentWith_6 : decode cX1_wentWith 6 = .ok (.ireturn, 1) := by decide +kernel
theorem dX1_note_0 : decode cX1_note 0 = .ok (.aload_n 0, 1) := by decide +kernel
theorem dX1_note_1 : decode cX1_note 1 = .ok (.getfield 31, 3) := by decide +kernel
theorem dX1_note_4 : decode cX1_note 4 = .ok (.aload_n 0, 1) := by decide +kernel
theorem dX1_note_5 : decode cX1_note 5 = .ok (.getfield 112, 3) := by decide +kernel
theorem dX1_note_8 : decode cX1_note 8 = .ok (.bipush 15, 2) := by decide +kernel
theorem dX1_note_10 : decode cX1_note 10 = .ok (.iand, 1) := by decide +kernel
theorem dX1_note_11 : decode cX1_note 11 = .ok (.iload_n 1, 1) := by decide +kernel
theorem dX1_note_12 : decode cX1_note 12 = .ok (.iastore, 1) := by decide +kernel
theorem dX1_note_13 : decode cX1_note 13 = .ok (.aload_n 0, 1) := by decide +kernel
theorem dX1_note_14 : decode cX1_note 14 = .ok (.dup, 1) := by decide +kernel
theorem dX1_note_15 : decode cX1_note 15 = .ok (.getfield 112, 3) := by decide +kernel
theorem dX1_note_18 : decode cX1_note 18 = .ok (.iconst 1, 1) := by decide +kernel
theorem dX1_note_19 : decode cX1_note 19 = .ok (.iadd, 1) := by decide +kernel
theorem dX1_note_20 : decode cX1_note 20 = .ok (.putfield 112, 3) := by decide +kernel
theorem dX1_note_23 : decode cX1_note 23 = .ok (.return_, 1) := by decide +kernel
set_option maxRecDepth 20000 in
theorem ggX1_putRepeater_X0_init : GoodIn wsX1_putRepeater wsX0_init := goodIn_r _ [6, 7, 8, 9, 10, 11, 12, 13, 14, 15, 16, 17, 18, 19] (by decide +kernel) (by decide +kernel)
set_option maxRecDepth 20000 in
theorem gX1_putRepeater_X0_init_n11 : GoodIn wsX1_putRepeater (wsX0_init) := ggX1_putRepeater_X0_init
theorem dX1_putRepeater_0 : decode cX1_putRepeater 0 = .ok (.aload_n 2, 1) := by decide +kernel
theorem dX1_putRepeater_1 : decode cX1_putRepeater 1 = .ok (.ifnonnull 5, 3) := by decide +kernel
theorem dX1_putRepeater_4 : decode cX1_putRepeater 4 = .ok (.iconst 2, 1) := by decide +kernel
theorem dX1_putRepeater_5 : decode cX1_putRepeater 5 = .ok (.ireturn, 1) := by decide +kernel
theorem dX1_putRepeater_6 : decode cX1_putRepeater 6 = .ok (.aload_n 2, 1) := by decide +kernel
theorem dX1_putRepeater_7 : decode cX1_putRepeater 7 = .ok (.getfield 121, 3) := by decide +kernel
theorem dX1_putRepeater_10 : decode cX1_putRepeater 10 = .ok (.iconst 3, 1) := by decide +kernel
theorem dX1_putRepeater_11 : decode cX1_putRepeater 11 = .ok (.if_icmp .lt 5, 3) := by decide +kernel
theorem dX1_putRepeater_14 : decode cX1_putRepeater 14 = .ok (.iconst (-1), 1) := by decide +kernel
theorem dX1_putRepeater_15 : decode cX1_putRepeater 15 = .ok (.ireturn, 1) := by decide +kernel
theorem dX1_putRepeater_16 : decode cX1_putRepeater 16 = .ok (.aload_n 0, 1) := by decide +kernel
theorem dX1_putRepeater_17 : decode cX1_putRepeater 17 = .ok (.getfield 21, 3) := by decide +kernel
theorem dX1_putRepeater_20 : decode cX1_putRepeater 20 = .ok (.iload_n 1, 1) := by decide +kernel
theorem dX1_putRepeater_21 : decode cX1_putRepeater 21 = .ok (.new 9, 3) := by decide +kernel
theorem dX1_putRepeater_24 : decode cX1_putRepeater 24 = .ok (.dup, 1) := by decide +kernel
theorem dX1_putRepeater_25 : decode cX1_putRepeater 25 = .ok (.bipush 8, 2) := by decide +kernel
theorem dX1_putRepeater_27 : decode cX1_putRepeater 27 = .ok (.iconst 0, 1) := by decide +kernel
theorem dX1_putRepeater_28 : decode cX1_putRepeater 28 = .ok (.aload_n 2, 1) := by decide +kernel
theorem dX1_putRepeater_29 : decode cX1_putRepeater 29 = .ok (.invokespecial 11, 3) := by decide +kernel
theorem dX1_putRepeater_32 : decode cX1_putRepeater 32 = .ok (.aastore, 1) := by decide +kernel
theorem dX1_putRepeater_33 : decode cX1_putRepeater 33 = .ok (.iconst 0, 1) := by decide +kernel
theorem dX1_putRepeater_34 : decode cX1_putRepeater 34 = .ok (.ireturn, 1) := by decide +kernel
set_option maxRecDepth 20000 in
theorem ggX1_newThing_X1_newBase : GoodIn wsX1_newThing wsX1_newBase := goodIn_r _ [10, 3, 4, 5, 11, 12, 13, 14, 15, 16, 17, 18, 19, 20, 21, 9, 22, 23, 24, 25, 26, 27, 28, 38, 39, 40, 41, 42, 43, 29, 30, 31, 32, 33, 34, 35, 36, 37] (by decide +kernel) (by decide +kernel)
set_option maxRecDepth 20000 in
theorem gX1_newThing_X1_newBase : GoodIn wsX1_newThing (wsV RX1 124 RX1 yX1_newBase wsX1_newBase) := goodIn_app (goodIn_of _ (by decide +kernel)) ggX1_newThing_X1_newBase
set_option maxRecDepth 20000 in
theorem ggX1_newThing_X0_init : GoodIn wsX1_newThing wsX0_init := goodIn_r _ [12, 13, 14, 15, 16, 17, 18, 19, 38, 39, 40, 41, 42, 43] (by decide +kernel) (by decide +kernel)
set_option maxRecDepth 20000 in
theorem gX1_newThing_X0_init_n11 : GoodIn wsX1_newThing (wsX0_init) := ggX1_newThing_X0_init
theorem dX1_newThing_0 : decode cX1_newThing 0 = .ok (.iload_n 1, 1) := by decide +kernel
theorem dX1_newThing_1 : decode cX1_newThing 1 = .ok (.tableswitch 72 0 9 #[65, 65, 65, 72, 55, 60, 72, 72, 72, 65], 55) := by decide +kernel
theorem dX1_newThing_56 : decode cX1_newThing 56 = .ok (.aload_n 0, 1) := by decide +kernel
theorem dX1_newThing_57 : decode cX1_newThing 57 = .ok (.getfield 14, 3) := by decide +kernel
theorem dX1_newThing_60 : decode cX1_newThing 60 = .ok (.areturn, 1) := by decide +kernel
theorem dX1_newThing_61 : decode cX1_newThing 61 = .ok (.aload_n 0, 1) := by decide +kernel
theorem dX1_newThing_62 : decode cX1_newThing 62 = .ok (.getfield 18, 3) := by decide +kernel
theorem dX1_newThing_65 : decode cX1_newThing 65 = .ok (.areturn, 1) := by decide +kernel
theorem dX1_newThing_66 : decode cX1_newThing 66 = .ok (.aload_n 0, 1) := by decide +kernel
theorem dX1_newThing_67 : decode cX1_newThing 67 = .ok (.iload_n 1, 1) := by decide +kernel
theorem dX1_newThing_68 : decode cX1_newThing 68 = .ok (.iload_n 2, 1) := by decide +kernel
theorem dX1_newThing_69 : decode cX1_newThing 69 = .ok (.invokevirtual 124, 3) := by decide +kernel
theorem dX1_newThing_72 : decode cX1_newThing 72 = .ok (.areturn, 1) := by decide +kernel
theorem dX1_newThing_73 : decode cX1_newThing 73 = .ok (.new 9, 3) := by decide +kernel
theorem dX1_newThing_76 : decode cX1_newThing 76 = .ok (.dup, 1) := by decide +kernel
theorem dX1_newThing_77 : decode cX1_newThing 77 = .ok (.iload_n 1, 1) := by decide +kernel
theorem dX1_newThing_78 : decode cX1_newThing 78 = .ok (.iload_n 2, 1) := by decide +kernel
theorem dX1_newThing_79 : decode cX1_newThing 79 = .ok (.aconst_null, 1) := by decide +kernel
theorem dX1_newThing_80 : decode cX1_newThing 80 = .ok (.invokespecial 11, 3) := by decide +kernel
theorem dX1_newThing_83 : decode cX1_newThing 83 = .ok (.areturn, 1) := by decide +kernel
set_option maxRecDepth 20000 in
theorem ggX1_newBase_X0_init : GoodIn wsX1_newBase wsX0_init := goodIn_r _ [5, 6, 7, 8, 9, 10, 11, 12, 23, 24, 25, 26, 27, 28] (by decide +kernel) (by decide +kernel)
set_option maxRecDepth 20000 in
theorem gX1_newBase_X0_init_n11 : GoodIn wsX1_newBase (wsX0_init) := ggX1_newBase_X0_init
set_option maxRecDepth 20000 in
theorem ggX1_newBase_X1_seedOf : GoodIn wsX1_newBase wsX1_seedOf := goodIn_r _ [16, 23, 24, 25, 26, 27, 28] (by decide +kernel) (by decide +kernel)
set_option maxRecDepth 20000 in
theorem gX1_newBase_X1_seedOf : GoodIn wsX1_newBase (va_wsS RX1 127 yX1_seedOf wsX1_seedOf) := goodIn_app (goodIn_of _ (by decide +kernel)) ggX1_newBase_X1_seedOf
set_option maxRecDepth 20000 in
theorem ggX1_newBase_X1_note : GoodIn wsX1_newBase wsX1_note := goodIn_r _ [20, 21, 22, 29, 30, 31, 32, 33, 34, 35, 36, 37] (by decide +kernel) (by decide +kernel)
set_option maxRecDepth 20000 in
theorem gX1_newBase_X1_note : GoodIn wsX1_newBase (wsV RX1 131 RX1 yX1_note wsX1_note) := goodIn_app (goodIn_of _ (by decide +kernel)) ggX1_newBase_X1_note
theorem dX1_newBase_0 : decode cX1_newBase 0 = .ok (.new 9, 3) := by decide +kernel
theorem dX1_newBase_3 : decode cX1_newBase 3 = .ok (.dup, 1) := by decide +kernel
theorem dX1_newBase_4 : decode cX1_newBase 4 = .ok (.iload_n 1, 1) := by decide +kernel
theorem dX1_newBase_5 : decode cX1_newBase 5 = .ok (.iload_n 2, 1) := by decide +kernel
theorem dX1_newBase_6 : decode cX1_newBase 6 = .ok (.aconst_null, 1) := by decide +kernel
theorem dX1_newBase_7 : decode cX1_newBase 7 = .ok (.invokespecial 11, 3) := by decide +kernel
theorem dX1_newBase_10 : decode cX1_newBase 10 = .ok (.astore_n 3, 1) := by decide +kernel
theorem dX1_newBase_11 : decode cX1_newBase 11 = .ok (.aload_n 0, 1) := by decide +kernel
theorem dX1_newBase_12 : decode cX1_newBase 12 = .ok (.aload_n 3, 1) := by decide +kernel
theorem dX1_newBase_13 : decode cX1_newBase 13 = .ok (.invokestatic 127, 3) := by decide +kernel
theorem dX1_newBase_16 : decode cX1_newBase 16 = .ok (.invokevirtual 131, 3) := by decide +kernel
theorem dX1_newBase_19 : decode cX1_newBase 19 = .ok (.iload_n 1, 1) := by decide +kernel
theorem dX1_newBase_20 : decode cX1_newBase 20 = .ok (.ifCond .ne 8, 3) := by decide +kernel
theorem dX1_newBase_23 : decode cX1_newBase 23 = .ok (.aload_n 3, 1) := by decide +kernel
theorem dX1_newBase_24 : decode cX1_newBase 24 = .ok (.iconst 4, 1) := by decide +kernel
theorem dX1_newBase_25 : decode cX1_newBase 25 = .ok (.putfield 135, 3) := by decide +kernel
theorem dX1_newBase_28 : decode cX1_newBase 28 = .ok (.iload_n 1, 1) := by decide +kernel
theorem dX1_newBase_29 : decode cX1_newBase 29 = .ok (.bipush 9, 2) := by decide +kernel
theorem dX1_newBase_31 : decode cX1_newBase 31 = .ok (.if_icmp .ne 18, 3) := by decide +kernel
theorem dX1_newBase_34 : decode cX1_newBase 34 = .ok (.aload_n 3, 1) := by decide +kernel
theorem dX1_newBase_35 : decode cX1_newBase 35 = .ok (.iload_n 2, 1) := by decide +kernel
theorem dX1_newBase_36 : decode cX1_newBase 36 = .ok (.iconst 1, 1) := by decide +kernel
theorem dX1_newBase_37 : decode cX1_newBase 37 = .ok (.iadd, 1) := by decide +kernel
theorem dX1_newBase_38 : decode cX1_newBase 38 = .ok (.putfield 138, 3) := by decide +kernel
theorem dX1_newBase_41 : decode cX1_newBase 41 = .ok (.aload_n 0, 1) := by decide +kernel
theorem dX1_newBase_42 : decode cX1_newBase 42 = .ok (.aload_n 3, 1) := by decide +kernel
theorem dX1_newBase_43 : decode cX1_newBase 43 = .ok (.getfield 138, 3) := by decide +kernel
theorem dX1_newBase_46 : decode cX1_newBase 46 = .ok (.invokevirtual 131, 3) := by decide +kernel
theorem dX1_newBase_49 : decode cX1_newBase 49 = .ok (.aload_n 3, 1) := by decide +kernel
theorem dX1_newBase_50 : decode cX1_newBase 50 = .ok (.areturn, 1) := by decide +kernel
set_option maxRecDepth 20000 in
theorem ggX1_putInRow_X1_isOfType : GoodIn wsX1_putInRow wsX1_isOfType := goodIn_r _ [6, 7, 8, 9, 5, 10, 20, 21, 22, 23, 24, 25] (by decide +kernel) (by decide +kernel)
set_option maxRecDepth 20000 in
theorem gX1_putInRow_X1_isOfType : GoodIn wsX1_putInRow (va_wsS RX1 64 yX1_isOfType wsX1_isOfType) := goodIn_app (goodIn_of _ (by decide +kernel)) ggX1_putInRow_X1_isOfType
theorem dX1_putInRow_0 : decode cX1_putInRow 0 = .ok (.aload_n 3, 1) := by decide +kernel
theorem dX1_putInRow_1 : decode cX1_putInRow 1 = .ok (.ifnull 17, 3) := by decide +kernel
theorem dX1_putInRow_4 : decode cX1_putInRow 4 = .ok (.aload_n 3, 1) := by decide +kernel
theorem dX1_putInRow_5 : decode cX1_putInRow 5 = .ok (.getstatic 141, 3) := by decide +kernel
theorem dX1_putInRow_8 : decode cX1_putInRow 8 = .ok (.iload_n 1, 1) := by decide +kernel
theorem dX1_putInRow_9 : decode cX1_putInRow 9 = .ok (.iaload, 1) := by decide +kernel
theorem dX1_putInRow_10 : decode cX1_putInRow 10 = .ok (.invokestatic 64, 3) := by decide +kernel
theorem dX1_putInRow_13 : decode cX1_putInRow 13 = .ok (.ifCond .ne 5, 3) := by decide +kernel
theorem dX1_putInRow_16 : decode cX1_putInRow 16 = .ok (.iconst 3, 1) := by decide +kernel
theorem dX1_putInRow_17 : decode cX1_putInRow 17 = .ok (.ireturn, 1) := by decide +kernel
theorem dX1_putInRow_18 : decode cX1_putInRow 18 = .ok (.aload_n 0, 1) := by decide +kernel
theorem dX1_putInRow_19 : decode cX1_putInRow 19 = .ok (.getfield 25, 3) := by decide +kernel
theorem dX1_putInRow_22 : decode cX1_putInRow 22 = .ok (.iload_n 1, 1) := by decide +kernel
theorem dX1_putInRow_23 : decode cX1_putInRow 23 = .ok (.iconst 4, 1) := by decide +kernel
theorem dX1_putInRow_24 : decode cX1_putInRow 24 = .ok (.imul, 1) := by decide +kernel
theorem dX1_putInRow_25 : decode cX1_putInRow 25 = .ok (.iload_n 2, 1) := by decide +kernel
theorem dX1_putInRow_26 : decode cX1_putInRow 26 = .ok (.iadd, 1) := by decide +kernel
theorem dX1_putInRow_27 : decode cX1_putInRow 27 = .ok (.aload_n 3, 1) := by decide +kernel
theorem dX1_putInRow_28 : decode cX1_putInRow 28 = .ok (.aastore, 1) := by decide +kernel
theorem dX1_putInRow_29 : decode cX1_putInRow 29 = .ok (.iconst 0, 1) := by decide +kernel
theorem dX1_putInRow_30 : decode cX1_putInRow 30 = .ok (.ireturn, 1) := by decide +kernel
set_option maxRecDepth 20000 in
theorem ggX1_answerOf_X1_callOf : GoodIn wsX1_answerOf wsX1_callOf := goodIn_r _ [5, 6, 37, 38, 39, 40, 41, 42, 43, 44, 45, 46, 47, 48, 49, 50, 51] (by decide +kernel) (by decide +kernel)
set_option maxRecDepth 20000 in
theorem gX1_answerOf_X1_callOf : GoodIn wsX1_answerOf (wsV RX1 144 RX1 yX1_callOf wsX1_callOf) := goodIn_app (goodIn_of _ (by decide +kernel)) ggX1_answerOf_X1_callOf
set_option maxRecDepth 20000 in
theorem ggX1_answerOf_X1_twiceOf : GoodIn wsX1_answerOf wsX1_twiceOf := goodIn_r _ [10, 11, 12, 13, 4, 14, 1, 2, 3, 5, 6, 15, 16, 17, 18, 37, 38, 39, 40, 41, 42, 43, 44, 45, 46, 47, 48, 49, 50, 51] (by decide +kernel) (by decide +kernel)
set_option maxRecDepth 20000 in
theorem gX1_answerOf_X1_twiceOf : GoodIn wsX1_answerOf (wsV RX1 148 RX1 yX1_twiceOf wsX1_twiceOf) := goodIn_app (goodIn_of _ (by decide +kernel)) ggX1_answerOf_X1_twiceOf
set_option maxRecDepth 20000 in
theorem ggX1_answerOf_X1_volumeOf : GoodIn wsX1_answerOf wsX1_volumeOf := goodIn_r _ [21, 37, 38, 39, 40, 41, 42] (by decide +kernel) (by decide +kernel)
set_option maxRecDepth 20000 in
theorem gX1_answerOf_X1_volumeOf : GoodIn wsX1_answerOf (va_wsS RX1 151 yX1_volumeOf wsX1_volumeOf) := goodIn_app (goodIn_of _ (by decide +kernel)) ggX1_answerOf_X1_volumeOf
set_option maxRecDepth 20000 in
theorem ggX1_answerOf_X1_weightOf : GoodIn wsX1_answerOf wsX1_weightOf := goodIn_r _ [24, 25, 26, 4, 27, 28, 29, 30, 37, 38, 39, 40, 41, 42] (by decide +kernel) (by decide +kernel)
set_option maxRecDepth 20000 in
theorem gX1_answerOf_X1_weightOf : GoodIn wsX1_answerOf (va_wsS RX1 154 yX1_weightOf wsX1_weightOf) := goodIn_app (goodIn_of _ (by decide +kernel)) ggX1_answerOf_X1_weightOf
set_option maxRecDepth 20000 in
theorem ggX1_answerOf_X1_markOf : GoodIn wsX1_answerOf wsX1_markOf := goodIn_r _ [33] (by decide +kernel) (by decide +kernel)
set_option maxRecDepth 20000 in
theorem gX1_answerOf_X1_markOf : GoodIn wsX1_answerOf (va_wsS RX1 157 yX1_markOf wsX1_markOf) := goodIn_app (goodIn_of _ (by decide +kernel)) ggX1_answerOf_X1_markOf
set_option maxRecDepth 20000 in
theorem ggX1_answerOf_X1_seedOf : GoodIn wsX1_answerOf wsX1_seedOf := goodIn_r _ [36, 37, 38, 39, 40, 41, 42] (by decide +kernel) (by decide +kernel)
set_option maxRecDepth 20000 in
theorem gX1_answerOf_X1_seedOf : GoodIn wsX1_answerOf (va_wsS RX1 127 yX1_seedOf wsX1_seedOf) := goodIn_app (goodIn_of _ (by decide +kernel)) ggX1_answerOf_X1_seedOf
set_option maxRecDepth 20000 in
theorem ggX1_answerOf_X1_weightAsBase : GoodIn wsX1_answerOf wsX1_weightAsBase := goodIn_r _ [27, 37, 38, 39, 40, 41, 42] (by decide +kernel) (by decide +kernel)
set_option maxRecDepth 20000 in
theorem gX1_answerOf_X1_weightAsBase : GoodIn wsX1_answerOf (va_wsS RX1 160 yX1_weightAsBase wsX1_weightAsBase) := goodIn_app (goodIn_of _ (by decide +kernel)) ggX1_answerOf_X1_weightAsBase
set_option maxRecDepth 20000 in
theorem ggX1_answerOf_X1_weightAsCat : GoodIn wsX1_answerOf wsX1_weightAsCat := goodIn_r _ [30, 37, 38, 39, 40, 41, 42] (by decide +kernel) (by decide +kernel)
set_option maxRecDepth 20000 in
theorem gX1_answerOf_X1_weightAsCat : GoodIn wsX1_answerOf (va_wsS RX1 163 yX1_weightAsCat wsX1_weightAsCat) := goodIn_app (goodIn_of _ (by decide +kernel)) ggX1_answerOf_X1_weightAsCat
theorem dX1_answerOf_0 : decode cX1_answerOf 0 = .ok (.iload_n 3, 1) := by decide +kernel
theorem dX1_answerOf_1 : decode cX1_answerOf 1 = .ok (.tableswitch 121 0 10 #[59, 67, 75, 82, 87, 100, 106, 121, 121, 111, 116], 59) := by decide +kernel
theorem dX1_answerOf_60 : decode cX1_answerOf 60 = .ok (.aload_n 0, 1) := by decide +kernel
theorem dX1_answerOf_61 : decode cX1_answerOf 61 = .ok (.aload_n 1, 1) := by decide +kernel
theorem dX1_answerOf_62 : decode cX1_answerOf 62 = .ok (.iload 4, 2) := by decide +kernel
theorem dX1_answerOf_64 : decode cX1_answerOf 64 = .ok (.invokevirtual 144, 3) := by decide +kernel
theorem dX1_answerOf_67 : decode cX1_answerOf 67 = .ok (.ireturn, 1) := by decide +kernel
theorem dX1_answerOf_68 : decode cX1_answerOf 68 = .ok (.aload_n 0, 1) := by decide +kernel
theorem dX1_answerOf_69 : decode cX1_answerOf 69 = .ok (.aload_n 1, 1) := by decide +kernel
theorem dX1_answerOf_70 : decode cX1_answerOf 70 = .ok (.iload 4, 2) := by decide +kernel
theorem dX1_answerOf_72 : decode cX1_answerOf 72 = .ok (.invokevirtual 148, 3) := by decide +kernel
theorem dX1_answerOf_75 : decode cX1_answerOf 75 = .ok (.ireturn, 1) := by decide +kernel
theorem dX1_answerOf_76 : decode cX1_answerOf 76 = .ok (.aload_n 1, 1) := by decide +kernel
theorem dX1_answerOf_77 : decode cX1_answerOf 77 = .ok (.iload 4, 2) := by decide +kernel
theorem dX1_answerOf_79 : decode cX1_answerOf 79 = .ok (.invokestatic 151, 3) := by decide +kernel
theorem dX1_answerOf_82 : decode cX1_answerOf 82 = .ok (.ireturn, 1) := by decide +kernel
theorem dX1_answerOf_83 : decode cX1_answerOf 83 = .ok (.aload_n 1, 1) := by decide +kernel
theorem dX1_answerOf_84 : decode cX1_answerOf 84 = .ok (.invokestatic 154, 3) := by decide +kernel
theorem dX1_answerOf_87 : decode cX1_answerOf 87 = .ok (.ireturn, 1) := by decide +kernel
theorem dX1_answerOf_88 : decode cX1_answerOf 88 = .ok (.aload_n 1, 1) := by decide +kernel
theorem dX1_answerOf_89 : decode cX1_answerOf 89 = .ok (.invokestatic 154, 3) := by decide +kernel
theorem dX1_answerOf_92 : decode cX1_answerOf 92 = .ok (.bipush 100, 2) := by decide +kernel
theorem dX1_answerOf_94 : decode cX1_answerOf 94 = .ok (.iconst 3, 1) := by decide +kernel
theorem dX1_answerOf_95 : decode cX1_answerOf 95 = .ok (.invokestatic 157, 3) := by decide +kernel
theorem dX1_answerOf_98 : decode cX1_answerOf 98 = .ok (.imul, 1) := by decide +kernel
theorem dX1_answerOf_99 : decode cX1_answerOf 99 = .ok (.iadd, 1) := by decide +kernel
theorem dX1_answerOf_100 : decode cX1_answerOf 100 = .ok (.ireturn, 1) := by decide +kernel
theorem dX1_answerOf_101 : decode cX1_answerOf 101 = .ok (.iload 4, 2) := by decide +kernel
theorem dX1_answerOf_103 : decode cX1_answerOf 103 = .ok (.bipush 100, 2) := by decide +kernel
theorem dX1_answerOf_105 : decode cX1_answerOf 105 = .ok (.iadd, 1) := by decide +kernel
theorem dX1_answerOf_106 : decode cX1_answerOf 106 = .ok (.ireturn, 1) := by decide +kernel
theorem dX1_answerOf_107 : decode cX1_answerOf 107 = .ok (.iload_n 2, 1) := by decide +kernel
theorem dX1_answerOf_108 : decode cX1_answerOf 108 = .ok (.invokestatic 157, 3) := by decide +kernel
theorem dX1_answerOf_111 : decode cX1_answerOf 111 = .ok (.ireturn, 1) := by decide +kernel
theorem dX1_answerOf_112 : decode cX1_answerOf 112 = .ok (.aload_n 1, 1) := by decide +kernel
theorem dX1_answerOf_113 : decode cX1_answerOf 113 = .ok (.invokestatic 127, 3) := by decide +kernel
theorem dX1_answerOf_116 : decode cX1_answerOf 116 = .ok (.ireturn, 1) := by decide +kernel
theorem dX1_answerOf_117 : decode cX1_answerOf 117 = .ok (.aload_n 1, 1) := by decide +kernel
theorem dX1_answerOf_118 : decode cX1_answerOf 118 = .ok (.getfield 83, 3) := by decide +kernel
theorem dX1_answerOf_121 : decode cX1_answerOf 121 = .ok (.ireturn, 1) := by decide +kernel
theorem dX1_answerOf_122 : decode cX1_answerOf 122 = .ok (.iload_n 2, 1) := by decide +kernel
theorem dX1_answerOf_123 : decode cX1_answerOf 123 = .ok (.iconst 4, 1) := by decide +kernel
theorem dX1_answerOf_124 : decode cX1_answerOf 124 = .ok (.if_icmp .ne 10, 3) := by decide +kernel
theorem dX1_answerOf_127 : decode cX1_answerOf 127 = .ok (.aload_n 1, 1) := by decide +kernel
theorem dX1_answerOf_128 : decode cX1_answerOf 128 = .ok (.invokestatic 160, 3) := by decide +kernel
theorem dX1_answerOf_131 : decode cX1_answerOf 131 = .ok (.goto 7, 3) := by decide +kernel
theorem dX1_answerOf_134 : decode cX1_answerOf 134 = .ok (.aload_n 1, 1) := by decide +kernel
theorem dX1_answerOf_135 : decode cX1_answerOf 135 = .ok (.invokestatic 163, 3) := by decide +kernel
theorem dX1_answerOf_138 : decode cX1_answerOf 138 = .ok (.ireturn, 1) := by decide +kernel
theorem dX1_callOf_0 : decode cX1_callOf 0 = .ok (.aload_n 1, 1) := by decide +kernel
theorem dX1_callOf_1 : decode cX1_callOf 1 = .ok (.astore_n 3, 1) := by decide +kernel
theorem dX1_callOf_2 : decode cX1_callOf 2 = .ok (.iconst 0, 1) := by decide +kernel
theorem dX1_callOf_3 : decode cX1_callOf 3 = .ok (.istore 4, 2) := by decide +kernel
theorem dX1_callOf_5 : decode cX1_callOf 5 = .ok (.iload 4, 2) := by decide +kernel
theorem dX1_callOf_7 : decode cX1_callOf 7 = .ok (.iconst 3, 1) := by decide +kernel
theorem dX1_callOf_8 : decode cX1_callOf 8 = .ok (.if_icmp .ge 21, 3) := by decide +kernel
theorem dX1_callOf_11 : decode cX1_callOf 11 = .ok (.aload_n 3, 1) := by decide +kernel
theorem dX1_callOf_12 : decode cX1_callOf 12 = .ok (.getfield 166, 3) := by decide +kernel
theorem dX1_callOf_15 : decode cX1_callOf 15 = .ok (.ifnull 14, 3) := by decide +kernel
theorem dX1_callOf_18 : decode cX1_callOf 18 = .ok (.aload_n 3, 1) := by decide +kernel
theorem dX1_callOf_19 : decode cX1_callOf 19 = .ok (.getfield 166, 3) := by decide +kernel
theorem dX1_callOf_22 : decode cX1_callOf 22 = .ok (.astore_n 3, 1) := by decide +kernel
theorem dX1_callOf_23 : decode cX1_callOf 23 = .ok (.iinc 4 1, 3) := by decide +kernel
theorem dX1_callOf_26 : decode cX1_callOf 26 = .ok (.goto (-21), 3) := by decide +kernel
theorem dX1_callOf_29 : decode cX1_callOf 29 = .ok (.aload_n 3, 1) := by decide +kernel
theorem dX1_callOf_30 : decode cX1_callOf 30 = .ok (.getfield 118, 3) := by decide +kernel
theorem dX1_callOf_33 : decode cX1_callOf 33 = .ok (.tableswitch 107 0 9 #[55, 62, 69, 107, 55, 78, 85, 78, 107, 62], 55) := by decide +kernel
theorem dX1_callOf_88 : decode cX1_callOf 88 = .ok (.iload_n 2, 1) := by decide +kernel
theorem dX1_callOf_89 : decode cX1_callOf 89 = .ok (.aload_n 3, 1) := by decide +kernel
theorem dX1_callOf_90 : decode cX1_callOf 90 = .ok (.getfield 83, 3) := by decide +kernel
theorem dX1_callOf_93 : decode cX1_callOf 93 = .ok (.iadd, 1) := by decide +kernel
theorem dX1_callOf_94 : decode cX1_callOf 94 = .ok (.ireturn, 1) := by decide +kernel
theorem dX1_callOf_95 : decode cX1_callOf 95 = .ok (.iload_n 2, 1) := by decide +kernel
theorem dX1_callOf_96 : decode cX1_callOf 96 = .ok (.aload_n 3, 1) := by decide +kernel
theorem dX1_callOf_97 : decode cX1_callOf 97 = .ok (.getfield 83, 3) := by decide +kernel
theorem dX1_callOf_100 : decode cX1_callOf 100 = .ok (.isub, 1) := by decide +kernel
theorem dX1_callOf_101 : decode cX1_callOf 101 = .ok (.ireturn, 1) := by decide +kernel
theorem dX1_callOf_102 : decode cX1_callOf 102 = .ok (.iconst 2, 1) := by decide +kernel
theorem dX1_callOf_103 : decode cX1_callOf 103 = .ok (.iload_n 2, 1) := by decide +kernel
theorem dX1_callOf_104 : decode cX1_callOf 104 = .ok (.aload_n 3, 1) := by decide +kernel
theorem dX1_callOf_105 : decode cX1_callOf 105 = .ok (.getfield 83, 3) := by decide +kernel
theorem dX1_callOf_108 : decode cX1_callOf 108 = .ok (.isub, 1) := by decide +kernel
theorem dX1_callOf_109 : decode cX1_callOf 109 = .ok (.imul, 1) := by decide +kernel
theorem dX1_callOf_110 : decode cX1_callOf 110 = .ok (.ireturn, 1) := by decide +kernel
theorem dX1_callOf_111 : decode cX1_callOf 111 = .ok (.iload_n 2, 1) := by decide +kernel
theorem dX1_callOf_112 : decode cX1_callOf 112 = .ok (.aload_n 3, 1) := by decide +kernel
theorem dX1_callOf_113 : decode cX1_callOf 113 = .ok (.getfield 83, 3) := by decide +kernel
theorem dX1_callOf_116 : decode cX1_callOf 116 = .ok (.imul, 1) := by decide +kernel
theorem dX1_callOf_117 : decode cX1_callOf 117 = .ok (.ireturn, 1) := by decide +kernel
theorem dX1_callOf_118 : decode cX1_callOf 118 = .ok (.aload_n 0, 1) := by decide +kernel
theorem dX1_callOf_119 : decode cX1_callOf 119 = .ok (.dup, 1) := by decide +kernel
theorem dX1_callOf_120 : decode cX1_callOf 120 = .ok (.getfield 169, 3) := by decide +kernel
theorem dX1_callOf_123 : decode cX1_callOf 123 = .ok (.iconst 1, 1) := by decide +kernel
theorem dX1_callOf_124 : decode cX1_callOf 124 = .ok (.iadd, 1) := by decide +kernel
theorem dX1_callOf_125 : decode cX1_callOf 125 = .ok (.putfield 169, 3) := by decide +kernel
theorem dX1_callOf_128 : decode cX1_callOf 128 = .ok (.iload_n 2, 1) := by decide +kernel
theorem dX1_callOf_129 : decode cX1_callOf 129 = .ok (.aload_n 3, 1) := by decide +kernel
theorem dX1_callOf_130 : decode cX1_callOf 130 = .ok (.getfield 83, 3) := by decide +kernel
theorem dX1_callOf_133 : decode cX1_callOf 133 = .ok (.iadd, 1) := by decide +kernel
theorem dX1_callOf_134 : decode cX1_callOf 134 = .ok (.aload_n 0, 1) := by decide +kernel
theorem dX1_callOf_135 : decode cX1_callOf 135 = .ok (.getfield 169, 3) := by decide +kernel
theorem dX1_callOf_138 : decode cX1_callOf 138 = .ok (.iadd, 1) := by decide +kernel
theorem dX1_callOf_139 : decode cX1_callOf 139 = .ok (.ireturn, 1) := by decide +kernel
theorem dX1_callOf_140 : decode cX1_callOf 140 = .ok (.iload_n 2, 1) := by decide +kernel
theorem dX1_callOf_141 : decode cX1_callOf 141 = .ok (.ireturn, 1) := by decide +kernel
set_option maxRecDepth 20000 in
theorem ggX1_twiceOf_X1_twiceAsLoud : GoodIn wsX1_twiceOf wsX1_twiceAsLoud := goodIn_r _ [5, 6, 7, 8, 4, 9, 10, 15, 16, 17, 18, 19, 20, 21, 22, 23, 24, 25, 26, 27, 28, 29] (by decide +kernel) (by decide +kernel)
set_option maxRecDepth 20000 in
theorem gX1_twiceOf_X1_twiceAsLoud : GoodIn wsX1_twiceOf (wsV RX1 172 RX1 yX1_twiceAsLoud wsX1_twiceAsLoud) := goodIn_app (goodIn_of _ (by decide +kernel)) ggX1_twiceOf_X1_twiceAsLoud
set_option maxRecDepth 20000 in
theorem ggX1_twiceOf_X1_twiceAsSoft : GoodIn wsX1_twiceOf wsX1_twiceAsSoft := goodIn_r _ [14, 6, 7, 8, 4, 9, 10, 15, 16, 17, 18, 19, 20, 21, 22, 23, 24, 25, 26, 27, 28, 29] (by decide +kernel) (by decide +kernel)
set_option maxRecDepth 20000 in
theorem gX1_twiceOf_X1_twiceAsSoft : GoodIn wsX1_twiceOf (wsV RX1 175 RX1 yX1_twiceAsSoft wsX1_twiceAsSoft) := goodIn_app (goodIn_of _ (by decide +kernel)) ggX1_twiceOf_X1_twiceAsSoft
set_option maxRecDepth 20000 in
theorem ggX1_twiceOf_X1_callOf : GoodIn wsX1_twiceOf wsX1_callOf := goodIn_r _ [9, 10, 15, 16, 17, 18, 19, 20, 21, 22, 23, 24, 25, 26, 27, 28, 29] (by decide +kernel) (by decide +kernel)
set_option maxRecDepth 20000 in
theorem gX1_twiceOf_X1_callOf : GoodIn wsX1_twiceOf (wsV RX1 144 RX1 yX1_callOf wsX1_callOf) := goodIn_app (goodIn_of _ (by decide +kernel)) ggX1_twiceOf_X1_callOf
theorem dX1_twiceOf_0 : decode cX1_twiceOf 0 = .ok (.aload_n 1, 1) := by decide +kernel
theorem dX1_twiceOf_1 : decode cX1_twiceOf 1 = .ok (.getfield 118, 3) := by decide +kernel
theorem dX1_twiceOf_4 : decode cX1_twiceOf 4 = .ok (.tableswitch 84 0 9 #[56, 63, 70, 84, 56, 56, 84, 84, 84, 63], 56) := by decide +kernel
theorem dX1_twiceOf_60 : decode cX1_twiceOf 60 = .ok (.aload_n 0, 1) := by decide +kernel
theorem dX1_twiceOf_61 : decode cX1_twiceOf 61 = .ok (.aload_n 1, 1) := by decide +kernel
theorem dX1_twiceOf_62 : decode cX1_twiceOf 62 = .ok (.iload_n 2, 1) := by decide +kernel
theorem dX1_twiceOf_63 : decode cX1_twiceOf 63 = .ok (.invokevirtual 172, 3) := by decide +kernel
theorem dX1_twiceOf_66 : decode cX1_twiceOf 66 = .ok (.ireturn, 1) := by decide +kernel
theorem dX1_twiceOf_67 : decode cX1_twiceOf 67 = .ok (.aload_n 0, 1) := by decide +kernel
theorem dX1_twiceOf_68 : decode cX1_twiceOf 68 = .ok (.aload_n 1, 1) := by decide +kernel
theorem dX1_twiceOf_69 : decode cX1_twiceOf 69 = .ok (.iload_n 2, 1) := by decide +kernel
theorem dX1_twiceOf_70 : decode cX1_twiceOf 70 = .ok (.invokevirtual 175, 3) := by decide +kernel
theorem dX1_twiceOf_73 : decode cX1_twiceOf 73 = .ok (.ireturn, 1) := by decide +kernel
theorem dX1_twiceOf_74 : decode cX1_twiceOf 74 = .ok (.aload_n 0, 1) := by decide +kernel
theorem dX1_twiceOf_75 : decode cX1_twiceOf 75 = .ok (.aload_n 1, 1) := by decide +kernel
theorem dX1_twiceOf_76 : decode cX1_twiceOf 76 = .ok (.iload_n 2, 1) := by decide +kernel
theorem dX1_twiceOf_77 : decode cX1_twiceOf 77 = .ok (.invokevirtual 172, 3) := by decide +kernel
theorem dX1_twiceOf_80 : decode cX1_twiceOf 80 = .ok (.aload_n 0, 1) := by decide +kernel
theorem dX1_twiceOf_81 : decode cX1_twiceOf 81 = .ok (.aload_n 1, 1) := by decide +kernel
theorem dX1_twiceOf_82 : decode cX1_twiceOf 82 = .ok (.iload_n 2, 1) := by decide +kernel
theorem dX1_twiceOf_83 : decode cX1_twiceOf 83 = .ok (.invokevirtual 175, 3) := by decide +kernel
theorem dX1_twiceOf_86 : decode cX1_twiceOf 86 = .ok (.iadd, 1) := by decide +kernel
theorem dX1_twiceOf_87 : decode cX1_twiceOf 87 = .ok (.ireturn, 1) := by decide +kernel
theorem dX1_twiceOf_88 : decode cX1_twiceOf 88 = .ok (.aload_n 0, 1) := by decide +kernel
theorem dX1_twiceOf_89 : decode cX1_twiceOf 89 = .ok (.aload_n 1, 1) := by decide +kernel
theorem dX1_twiceOf_90 : decode cX1_twiceOf 90 = .ok (.aload_n 0, 1) := by decide +kernel
theorem dX1_twiceOf_91 : decode cX1_twiceOf 91 = .ok (.aload_n 1, 1) := by decide +kernel
theorem dX1_twiceOf_92 : decode cX1_twiceOf 92 = .ok (.iload_n 2, 1) := by decide +kernel
theorem dX1_twiceOf_93 : decode cX1_twiceOf 93 = .ok (.invokevirtual 144, 3) := by decide +kernel
theorem dX1_twiceOf_96 : decode cX1_twiceOf 96 = .ok (.invokevirtual 144, 3) := by decide +kernel
theorem dX1_twiceOf_99 : decode cX1_twiceOf 99 = .ok (.ireturn, 1) := by decide +kernel
set_option maxRecDepth 20000 in
theorem ggX1_twiceAsLoud_X1_callOf : GoodIn wsX1_twiceAsLoud wsX1_callOf := goodIn_r _ [5, 6, 7, 8, 9, 10, 11, 12, 13, 14, 15, 16, 17, 18, 19, 20, 21] (by decide +kernel) (by decide +kernel)
set_option maxRecDepth 20000 in
theorem gX1_twiceAsLoud_X1_callOf : GoodIn wsX1_twiceAsLoud (wsV RX1 144 RX1 yX1_callOf wsX1_callOf) := goodIn_app (goodIn_of _ (by decide +kernel)) ggX1_twiceAsLoud_X1_callOf
theorem dX1_twiceAsLoud_0 : decode cX1_twiceAsLoud 0 = .ok (.iconst 2, 1) := by decide +kernel
theorem dX1_twiceAsLoud_1 : decode cX1_twiceAsLoud 1 = .ok (.aload_n 0, 1) := by decide +kernel
theorem dX1_twiceAsLoud_2 : decode cX1_twiceAsLoud 2 = .ok (.aload_n 1, 1) := by decide +kernel
theorem dX1_twiceAsLoud_3 : decode cX1_twiceAsLoud 3 = .ok (.iload_n 2, 1) := by decide +kernel
theorem dX1_twiceAsLoud_4 : decode cX1_twiceAsLoud 4 = .ok (.invokevirtual 144, 3) := by decide +kernel
theorem dX1_twiceAsLoud_7 : decode cX1_twiceAsLoud 7 = .ok (.imul, 1) := by decide +kernel
theorem dX1_twiceAsLoud_8 : decode cX1_twiceAsLoud 8 = .ok (.ireturn, 1) := by decide +kernel
set_option maxRecDepth 20000 in
theorem ggX1_twiceAsSoft_X1_callOf : GoodIn wsX1_twiceAsSoft wsX1_callOf := goodIn_r _ [5, 6, 7, 8, 9, 10, 11, 12, 13, 14, 15, 16, 17, 18, 19, 20, 21] (by decide +kernel) (by decide +kernel)
set_option maxRecDepth 20000 in
theorem gX1_twiceAsSoft_X1_callOf : GoodIn wsX1_twiceAsSoft (wsV RX1 144 RX1 yX1_callOf wsX1_callOf) := goodIn_app (goodIn_of _ (by decide +kernel)) ggX1_twiceAsSoft_X1_callOf
theorem dX1_twiceAsSoft_0 : decode cX1_twiceAsSoft 0 = .ok (.aload_n 0, 1) := by decide +kernel
theorem dX1_twiceAsSoft_1 : decode cX1_twiceAsSoft 1 = .ok (.aload_n 1, 1) := by decide +kernel
theorem dX1_twiceAsSoft_2 : decode cX1_twiceAsSoft 2 = .ok (.iload_n 2, 1) := by decide +kernel
theorem dX1_twiceAsSoft_3 : decode cX1_twiceAsSoft 3 = .ok (.invokevirtual 144, 3) := by decide +kernel
theorem dX1_twiceAsSoft_6 : decode cX1_twiceAsSoft 6 = .ok (.iconst 1, 1) := by decide +kernel
theorem dX1_twiceAsSoft_7 : decode cX1_twiceAsSoft 7 = .ok (.isub, 1) := by decide +kernel
theorem dX1_twiceAsSoft_8 : decode cX1_twiceAsSoft 8 = .ok (.ireturn, 1) := by decide +kernel
theorem dX1_volumeOf_0 : decode cX1_volumeOf 0 = .ok (.aload_n 0, 1) := by decide +kernel
theorem dX1_volumeOf_1 : decode cX1_volumeOf 1 = .ok (.getfield 118, 3) := by decide +kernel
theorem dX1_volumeOf_4 : decode cX1_volumeOf 4 = .ok (.lookupswitch 48 #[(1, 36), (2, 41), (9, 36)], 36) := by decide +kernel
theorem dX1_volumeOf_40 : decode cX1_volumeOf 40 = .ok (.iload_n 1, 1) := by decide +kernel
theorem dX1_volumeOf_41 : decode cX1_volumeOf 41 = .ok (.bipush 10, 2) := by decide +kernel
theorem dX1_volumeOf_43 : decode cX1_volumeOf 43 = .ok (.isub, 1) := by decide +kernel
theorem dX1_volumeOf_44 : decode cX1_volumeOf 44 = .ok (.ireturn, 1) := by decide +kernel
theorem dX1_volumeOf_45 : decode cX1_volumeOf 45 = .ok (.iload_n 1, 1) := by decide +kernel
theorem dX1_volumeOf_46 : decode cX1_volumeOf 46 = .ok (.bipush 10, 2) := by decide +kernel
theorem dX1_volumeOf_48 : decode cX1_volumeOf 48 = .ok (.iadd, 1) := by decide +kernel
theorem dX1_volumeOf_49 : decode cX1_volumeOf 49 = .ok (.iconst 3, 1) := by decide +kernel
theorem dX1_volumeOf_50 : decode cX1_volumeOf 50 = .ok (.imul, 1) := by decide +kernel
theorem dX1_volumeOf_51 : decode cX1_volumeOf 51 = .ok (.ireturn, 1) := by decide +kernel
theorem dX1_volumeOf_52 : decode cX1_volumeOf 52 = .ok (.iload_n 1, 1) := by decide +kernel
theorem dX1_volumeOf_53 : decode cX1_volumeOf 53 = .ok (.bipush 10, 2) := by decide +kernel
theorem dX1_volumeOf_55 : decode cX1_volumeOf 55 = .ok (.iadd, 1) := by decide +kernel
theorem dX1_volumeOf_56 : decode cX1_volumeOf 56 = .ok (.ireturn, 1) := by decide +kernel
set_option maxRecDepth 20000 in
theorem ggX1_weightOf_X1_weightAsBase : GoodIn wsX1_weightOf wsX1_weightAsBase := goodIn_r _ [4, 8, 9, 10, 11, 12, 13] (by decide +kernel) (by decide +kernel)
set_option maxRecDepth 20000 in
theorem gX1_weightOf_X1_weightAsBase : GoodIn wsX1_weightOf (va_wsS RX1 160 yX1_weightAsBase wsX1_weightAsBase) := goodIn_app (goodIn_of _ (by decide +kernel)) ggX1_weightOf_X1_weightAsBase
set_option maxRecDepth 20000 in
theorem ggX1_weightOf_X1_weightAsCat : GoodIn wsX1_weightOf wsX1_weightAsCat := goodIn_r _ [7, 8, 9, 10, 11, 12, 13] (by decide +kernel) (by decide +kernel)
set_option maxRecDepth 20000 in
theorem gX1_weightOf_X1_weightAsCat : GoodIn wsX1_weightOf (va_wsS RX1 163 yX1_weightAsCat wsX1_weightAsCat) := goodIn_app (goodIn_of _ (by decide +kernel)) ggX1_weightOf_X1_weightAsCat
theorem dX1_weightOf_0 : decode cX1_weightOf 0 = .ok (.aload_n 0, 1) := by decide +kernel
theorem dX1_weightOf_1 : decode cX1_weightOf 1 = .ok (.getfield 118, 3) := by decide +kernel
theorem dX1_weightOf_4 : decode cX1_weightOf 4 = .ok (.lookupswitch 60 #[(0, 36), (2, 43), (9, 50)], 36) := by decide +kernel
theorem dX1_weightOf_40 : decode cX1_weightOf 40 = .ok (.aload_n 0, 1) := by decide +kernel
theorem dX1_weightOf_41 : decode cX1_weightOf 41 = .ok (.invokestatic 160, 3) := by decide +kernel
theorem dX1_weightOf_44 : decode cX1_weightOf 44 = .ok (.iconst 1, 1) := by decide +kernel
theorem dX1_weightOf_45 : decode cX1_weightOf 45 = .ok (.iadd, 1) := by decide +kernel
theorem dX1_weightOf_46 : decode cX1_weightOf 46 = .ok (.ireturn, 1) := by decide +kernel
theorem dX1_weightOf_47 : decode cX1_weightOf 47 = .ok (.iconst 2, 1) := by decide +kernel
theorem dX1_weightOf_48 : decode cX1_weightOf 48 = .ok (.aload_n 0, 1) := by decide +kernel
theorem dX1_weightOf_49 : decode cX1_weightOf 49 = .ok (.invokestatic 163, 3) := by decide +kernel
theorem dX1_weightOf_52 : decode cX1_weightOf 52 = .ok (.imul, 1) := by decide +kernel
theorem dX1_weightOf_53 : decode cX1_weightOf 53 = .ok (.ireturn, 1) := by decide +kernel
theorem dX1_weightOf_54 : decode cX1_weightOf 54 = .ok (.aload_n 0, 1) := by decide +kernel
theorem dX1_weightOf_55 : decode cX1_weightOf 55 = .ok (.invokestatic 163, 3) := by decide +kernel
theorem dX1_weightOf_58 : decode cX1_weightOf 58 = .ok (.aload_n 0, 1) := by decide +kernel
theorem dX1_weightOf_59 : decode cX1_weightOf 59 = .ok (.getfield 138, 3) := by decide +kernel
theorem dX1_weightOf_62 : decode cX1_weightOf 62 = .ok (.iadd, 1) := by decide +kernel
theorem dX1_weightOf_63 : decode cX1_weightOf 63 = .ok (.ireturn, 1) := by decide +kernel
theorem dX1_weightOf_64 : decode cX1_weightOf 64 = .ok (.aload_n 0, 1) := by decide +kernel
theorem dX1_weightOf_65 : decode cX1_weightOf 65 = .ok (.invokestatic 163, 3) := by decide +kernel
theorem dX1_weightOf_68 : decode cX1_weightOf 68 = .ok (.ireturn, 1) := by decide +kernel
theorem dX1_weightAsBase_0 : decode cX1_weightAsBase 0 = .ok (.iconst 2, 1) := by decide +kernel
theorem dX1_weightAsBase_1 : decode cX1_weightAsBase 1 = .ok (.aload_n 0, 1) := by decide +kernel
theorem dX1_weightAsBase_2 : decode cX1_weightAsBase 2 = .ok (.getfield 83, 3) := by decide +kernel
theorem dX1_weightAsBase_5 : decode cX1_weightAsBase 5 = .ok (.imul, 1) := by decide +kernel
theorem dX1_weightAsBase_6 : decode cX1_weightAsBase 6 = .ok (.ireturn, 1) := by decide +kernel
theorem dX1_weightAsCat_0 : decode cX1_weightAsCat 0 = .ok (.iconst 3, 1) := by decide +kernel
theorem dX1_weightAsCat_1 : decode cX1_weightAsCat 1 = .ok (.aload_n 0, 1) := by decide +kernel
theorem dX1_weightAsCat_2 : decode cX1_weightAsCat 2 = .ok (.getfield 83, 3) := by decide +kernel
theorem dX1_weightAsCat_5 : decode cX1_weightAsCat 5 = .ok (.imul, 1) := by decide +kernel
theorem dX1_weightAsCat_6 : decode cX1_weightAsCat 6 = .ok (.ireturn, 1) := by decide +kernel
theorem dX1_seedOf_0 : decode cX1_seedOf 0 = .ok (.aload_n 0, 1) := by decide +kernel
theorem dX1_seedOf_1 : decode cX1_seedOf 1 = .ok (.getfield 118, 3) := by decide +kernel
theorem dX1_seedOf_4 : decode cX1_seedOf 4 = .ok (.lookupswitch 44 #[(0, 28), (2, 36)], 28) := by decide +kernel
theorem dX1_seedOf_32 : decode cX1_seedOf 32 = .ok (.bipush 20, 2) := by decide +kernel
theorem dX1_seedOf_34 : decode cX1_seedOf 34 = .ok (.aload_n 0, 1) := by decide +kernel
theorem dX1_seedOf_35 : decode cX1_seedOf 35 = .ok (.getfield 135, 3) := by decide +kernel
theorem dX1_seedOf_38 : decode cX1_seedOf 38 = .ok (.iadd, 1) := by decide +kernel
theorem dX1_seedOf_39 : decode cX1_seedOf 39 = .ok (.ireturn, 1) := by decide +kernel
theorem dX1_seedOf_40 : decode cX1_seedOf 40 = .ok (.bipush 30, 2) := by decide +kernel
theorem dX1_seedOf_42 : decode cX1_seedOf 42 = .ok (.aload_n 0, 1) := by decide +kernel
theorem dX1_seedOf_43 : decode cX1_seedOf 43 = .ok (.getfield 83, 3) := by decide +kernel
theorem dX1_seedOf_46 : decode cX1_seedOf 46 = .ok (.iadd, 1) := by decide +kernel
theorem dX1_seedOf_47 : decode cX1_seedOf 47 = .ok (.ireturn, 1) := by decide +kernel
theorem dX1_seedOf_48 : decode cX1_seedOf 48 = .ok (.iconst 1, 1) := by decide +kernel
theorem dX1_seedOf_49 : decode cX1_seedOf 49 = .ok (.ireturn, 1) := by decide +kernel
theorem dX1_markOf_0 : decode cX1_markOf 0 = .ok (.iload_n 0, 1) := by decide +kernel
theorem dX1_markOf_1 : decode cX1_markOf 1 = .ok (.tableswitch 31 4 6 #[27, 29, 29], 27) := by decide +kernel
theorem dX1_markOf_28 : decode cX1_markOf 28 = .ok (.iconst 2, 1) := by decide +kernel
theorem dX1_markOf_29 : decode cX1_markOf 29 = .ok (.ireturn, 1) := by decide +kernel
theorem dX1_markOf_30 : decode cX1_markOf 30 = .ok (.iconst 3, 1) := by decide +kernel
theorem dX1_markOf_31 : decode cX1_markOf 31 = .ok (.ireturn, 1) := by decide +kernel
theorem dX1_markOf_32 : decode cX1_markOf 32 = .ok (.iconst 1, 1) := by decide +kernel
theorem dX1_markOf_33 : decode cX1_markOf 33 = .ok (.ireturn, 1) := by decide +kernel
theorem dX1_toneOf_0 : decode cX1_toneOf 0 = .ok (.iload_n 0, 1) := by decide +kernel
theorem dX1_toneOf_1 : decode cX1_toneOf 1 = .ok (.iconst 1, 1) := by decide +kernel
theorem dX1_toneOf_2 : decode cX1_toneOf 2 = .ok (.if_icmp .eq 9, 3) := by decide +kernel
theorem dX1_toneOf_5 : decode cX1_toneOf 5 = .ok (.iload_n 0, 1) := by decide +kernel
theorem dX1_toneOf_6 : decode cX1_toneOf 6 = .ok (.bipush 8, 2) := by decide +kernel
theorem dX1_toneOf_8 : decode cX1_toneOf 8 = .ok (.if_icmp .ne 8, 3) := by decide +kernel
theorem dX1_toneOf_11 : decode cX1_toneOf 11 = .ok (.bipush 7, 2) := by decide +kernel
theorem dX1_toneOf_13 : decode cX1_toneOf 13 = .ok (.goto 4, 3) := by decide +kernel
theorem dX1_toneOf_16 : decode cX1_toneOf 16 = .ok (.iconst 5, 1) := by decide +kernel
theorem dX1_toneOf_17 : decode cX1_toneOf 17 = .ok (.ireturn, 1) := by decide +kernel
theorem dX1_rankOf_0 : decode cX1_rankOf 0 = .ok (.iload_n 0, 1) := by decide +kernel
theorem dX1_rankOf_1 : decode cX1_rankOf 1 = .ok (.lookupswitch 36 #[(4, 27), (6, 31)], 27) := by decide +kernel
theorem dX1_rankOf_28 : decode cX1_rankOf 28 = .ok (.iload_n 1, 1) := by decide +kernel
theorem dX1_rankOf_29 : decode cX1_rankOf 29 = .ok (.iconst 2, 1) := by decide +kernel
theorem dX1_rankOf_30 : decode cX1_rankOf 30 = .ok (.iadd, 1) := by decide +kernel
theorem dX1_rankOf_31 : decode cX1_rankOf 31 = .ok (.ireturn, 1) := by decide +kernel
theorem dX1_rankOf_32 : decode cX1_rankOf 32 = .ok (.iload_n 1, 1) := by decide +kernel
theorem dX1_rankOf_33 : decode cX1_rankOf 33 = .ok (.bipush 6, 2) := by decide +kernel
theorem dX1_rankOf_35 : decode cX1_rankOf 35 = .ok (.iadd, 1) := by decide +kernel
theorem dX1_rankOf_36 : decode cX1_rankOf 36 = .ok (.ireturn, 1) := by decide +kernel
theorem dX1_rankOf_37 : decode cX1_rankOf 37 = .ok (.iload_n 1, 1) := by decide +kernel
theorem dX1_rankOf_38 : decode cX1_rankOf 38 = .ok (.iconst 1, 1) := by decide +kernel
theorem dX1_rankOf_39 : decode cX1_rankOf 39 = .ok (.iadd, 1) := by decide +kernel
theorem dX1_rankOf_40 : decode cX1_rankOf 40 = .ok (.ireturn, 1) := by decide +kernel
set_option maxRecDepth 20000 in
theorem ggX1_divideNoting_X1_note : GoodIn wsX1_divideNoting wsX1_note := goodIn_r _ [5, 6, 7, 8, 9, 10, 11, 12, 13, 14, 15, 16] (by decide +kernel) (by decide +kernel)
set_option maxRecDepth 20000 in
theorem gX1_divideNoting_X1_note : GoodIn wsX1_divideNoting (wsV RX1 131 RX1 yX1_note wsX1_note) := goodIn_app (goodIn_of _ (by decide +kernel)) ggX1_divideNoting_X1_note
theorem dX1_divideNoting_0 : decode cX1_divideNoting 0 = .ok (.iload_n 2, 1) := by decide +kernel
theorem dX1_divideNoting_1 : decode cX1_divideNoting 1 = .ok (.ifCond .ne 7, 3) := by decide +kernel
theorem dX1_divideNoting_4 : decode cX1_divideNoting 4 = .ok (.iconst (-1), 1) := by decide +kernel
theorem dX1_divideNoting_5 : decode cX1_divideNoting 5 = .ok (.goto 6, 3) := by decide +kernel
theorem dX1_divideNoting_8 : decode cX1_divideNoting 8 = .ok (.iload_n 1, 1) := by decide +kernel
theorem dX1_divideNoting_9 : decode cX1_divideNoting 9 = .ok (.iload_n 2, 1) := by decide +kernel
theorem dX1_divideNoting_10 : decode cX1_divideNoting 10 = .ok (.idiv, 1) := by decide +kernel
theorem dX1_divideNoting_11 : decode cX1_divideNoting 11 = .ok (.istore_n 3, 1) := by decide +kernel
theorem dX1_divideNoting_12 : decode cX1_divideNoting 12 = .ok (.aload_n 0, 1) := by decide +kernel
theorem dX1_divideNoting_13 : decode cX1_divideNoting 13 = .ok (.iconst 1, 1) := by decide +kernel
theorem dX1_divideNoting_14 : decode cX1_divideNoting 14 = .ok (.invokevirtual 131, 3) := by decide +kernel
theorem dX1_divideNoting_17 : decode cX1_divideNoting 17 = .ok (.iload_n 3, 1) := by decide +kernel
theorem dX1_divideNoting_18 : decode cX1_divideNoting 18 = .ok (.ireturn, 1) := by decide +kernel
set_option maxRecDepth 20000 in
theorem ggX1_countTurns_X1_note : GoodIn wsX1_countTurns wsX1_note := goodIn_r _ [5, 6, 7, 8, 9, 10, 11, 12, 13, 14, 15, 16] (by decide +kernel) (by decide +kernel)
set_option maxRecDepth 20000 in
theorem gX1_countTurns_X1_note : GoodIn wsX1_countTurns (wsV RX1 131 RX1 yX1_note wsX1_note) := goodIn_app (goodIn_of _ (by decide +kernel)) ggX1_countTurns_X1_note
theorem dX1_countTurns_0 : decode cX1_countTurns 0 = .ok (.iconst 0, 1) := by decide +kernel
theorem dX1_countTurns_1 : decode cX1_countTurns 1 = .ok (.istore_n 3, 1) := by decide +kernel
theorem dX1_countTurns_2 : decode cX1_countTurns 2 = .ok (.iconst 0, 1) := by decide +kernel
theorem dX1_countTurns_3 : decode cX1_countTurns 3 = .ok (.istore 4, 2) := by decide +kernel
theorem dX1_countTurns_5 : decode cX1_countTurns 5 = .ok (.iconst 1, 1) := by decide +kernel
theorem dX1_countTurns_6 : decode cX1_countTurns 6 = .ok (.istore 5, 2) := by decide +kernel
theorem dX1_countTurns_8 : decode cX1_countTurns 8 = .ok (.iload 5, 2) := by decide +kernel
theorem dX1_countTurns_10 : decode cX1_countTurns 10 = .ok (.iconst 5, 1) := by decide +kernel
theorem dX1_countTurns_11 : decode cX1_countTurns 11 = .ok (.if_icmp .gt 52, 3) := by decide +kernel
theorem dX1_countTurns_14 : decode cX1_countTurns 14 = .ok (.iload 4, 2) := by decide +kernel
theorem dX1_countTurns_16 : decode cX1_countTurns 16 = .ok (.ifCond .ne 47, 3) := by decide +kernel
theorem dX1_countTurns_19 : decode cX1_countTurns 19 = .ok (.iload 5, 2) := by decide +kernel
theorem dX1_countTurns_21 : decode cX1_countTurns 21 = .ok (.iload_n 1, 1) := by decide +kernel
theorem dX1_countTurns_22 : decode cX1_countTurns 22 = .ok (.if_icmp .eq 29, 3) := by decide +kernel
theorem dX1_countTurns_25 : decode cX1_countTurns 25 = .ok (.iload 5, 2) := by decide +kernel
theorem dX1_countTurns_27 : decode cX1_countTurns 27 = .ok (.iload_n 2, 1) := by decide +kernel
theorem dX1_countTurns_28 : decode cX1_countTurns 28 = .ok (.if_icmp .ne 7, 3) := by decide +kernel
theorem dX1_countTurns_31 : decode cX1_countTurns 31 = .ok (.iconst 1, 1) := by decide +kernel
theorem dX1_countTurns_32 : decode cX1_countTurns 32 = .ok (.goto 4, 3) := by decide +kernel
theorem dX1_countTurns_35 : decode cX1_countTurns 35 = .ok (.iconst 0, 1) := by decide +kernel
theorem dX1_countTurns_36 : decode cX1_countTurns 36 = .ok (.istore 4, 2) := by decide +kernel
theorem dX1_countTurns_38 : decode cX1_countTurns 38 = .ok (.iload_n 3, 1) := by decide +kernel
theorem dX1_countTurns_39 : decode cX1_countTurns 39 = .ok (.iload 4, 2) := by decide +kernel
theorem dX1_countTurns_41 : decode cX1_countTurns 41 = .ok (.ifCond .eq 7, 3) := by decide +kernel
theorem dX1_countTurns_44 : decode cX1_countTurns 44 = .ok (.iconst 0, 1) := by decide +kernel
theorem dX1_countTurns_45 : decode cX1_countTurns 45 = .ok (.goto 4, 3) := by decide +kernel
theorem dX1_countTurns_48 : decode cX1_countTurns 48 = .ok (.iconst 1, 1) := by decide +kernel
theorem dX1_countTurns_49 : decode cX1_countTurns 49 = .ok (.iadd, 1) := by decide +kernel
theorem dX1_countTurns_50 : decode cX1_countTurns 50 = .ok (.istore_n 3, 1) := by decide +kernel
theorem dX1_countTurns_51 : decode cX1_countTurns 51 = .ok (.aload_n 0, 1) := by decide +kernel
theorem dX1_countTurns_52 : decode cX1_countTurns 52 = .ok (.iload 5, 2) := by decide +kernel
theorem dX1_countTurns_54 : decode cX1_countTurns 54 = .ok (.invokevirtual 131, 3) := by decide +kernel
theorem dX1_countTurns_57 : decode cX1_countTurns 57 = .ok (.iinc 5 1, 3) := by decide +kernel
theorem dX1_countTurns_60 : decode cX1_countTurns 60 = .ok (.goto (-52), 3) := by decide +kernel
theorem dX1_countTurns_63 : decode cX1_countTurns 63 = .ok (.iload_n 3, 1) := by decide +kernel
theorem dX1_countTurns_64 : decode cX1_countTurns 64 = .ok (.ireturn, 1) := by decide +kernel
set_option maxRecDepth 20000 in
theorem ggX1_openWorkClose_X1_note : GoodIn wsX1_openWorkClose wsX1_note := goodIn_r _ [5, 6, 7, 11, 12, 13, 14, 15, 16, 17, 18, 19] (by decide +kernel) (by decide +kernel)
set_option maxRecDepth 20000 in
theorem gX1_openWorkClose_X1_note : GoodIn wsX1_openWorkClose (wsV RX1 131 RX1 yX1_note wsX1_note) := goodIn_app (goodIn_of _ (by decide +kernel)) ggX1_openWorkClose_X1_note
set_option maxRecDepth 20000 in
theorem ggX1_openWorkClose_X1_withFailure : GoodIn wsX1_openWorkClose wsX1_withFailure := goodIn_r _ [10] (by decide +kernel) (by decide +kernel)
set_option maxRecDepth 20000 in
theorem gX1_openWorkClose_X1_withFailure : GoodIn wsX1_openWorkClose (va_wsS RX1 178 yX1_withFailure wsX1_withFailure) := goodIn_app (goodIn_of _ (by decide +kernel)) ggX1_openWorkClose_X1_withFailure
theorem dX1_openWorkClose_0 : decode cX1_openWorkClose 0 = .ok (.iconst 0, 1) := by decide +kernel
theorem dX1_openWorkClose_1 : decode cX1_openWorkClose 1 = .ok (.istore_n 3, 1) := by decide +kernel
theorem dX1_openWorkClose_2 : decode cX1_openWorkClose 2 = .ok (.aload_n 0, 1) := by decide +kernel
theorem dX1_openWorkClose_3 : decode cX1_openWorkClose 3 = .ok (.bipush 10, 2) := by decide +kernel
theorem dX1_openWorkClose_5 : decode cX1_openWorkClose 5 = .ok (.invokevirtual 131, 3) := by decide +kernel
theorem dX1_openWorkClose_8 : decode cX1_openWorkClose 8 = .ok (.aload_n 0, 1) := by decide +kernel
theorem dX1_openWorkClose_9 : decode cX1_openWorkClose 9 = .ok (.bipush 11, 2) := by decide +kernel
theorem dX1_openWorkClose_11 : decode cX1_openWorkClose 11 = .ok (.invokevirtual 131, 3) := by decide +kernel
theorem dX1_openWorkClose_14 : decode cX1_openWorkClose 14 = .ok (.iload_n 1, 1) := by decide +kernel
theorem dX1_openWorkClose_15 : decode cX1_openWorkClose 15 = .ok (.iconst 1, 1) := by decide +kernel
theorem dX1_openWorkClose_16 : decode cX1_openWorkClose 16 = .ok (.iand, 1) := by decide +kernel
theorem dX1_openWorkClose_17 : decode cX1_openWorkClose 17 = .ok (.ifCond .eq 12, 3) := by decide +kernel
theorem dX1_openWorkClose_20 : decode cX1_openWorkClose 20 = .ok (.iload_n 3, 1) := by decide +kernel
theorem dX1_openWorkClose_21 : decode cX1_openWorkClose 21 = .ok (.iconst 1, 1) := by decide +kernel
theorem dX1_openWorkClose_22 : decode cX1_openWorkClose 22 = .ok (.invokestatic 178, 3) := by decide +kernel
theorem dX1_openWorkClose_25 : decode cX1_openWorkClose 25 = .ok (.istore_n 3, 1) := by decide +kernel
theorem dX1_openWorkClose_26 : decode cX1_openWorkClose 26 = .ok (.goto 39, 3) := by decide +kernel
theorem dX1_openWorkClose_29 : decode cX1_openWorkClose 29 = .ok (.aload_n 0, 1) := by decide +kernel
theorem dX1_openWorkClose_30 : decode cX1_openWorkClose 30 = .ok (.bipush 12, 2) := by decide +kernel
theorem dX1_openWorkClose_32 : decode cX1_openWorkClose 32 = .ok (.invokevirtual 131, 3) := by decide +kernel
theorem dX1_openWorkClose_35 : decode cX1_openWorkClose 35 = .ok (.iload_n 1, 1) := by decide +kernel
theorem dX1_openWorkClose_36 : decode cX1_openWorkClose 36 = .ok (.iconst 2, 1) := by decide +kernel
theorem dX1_openWorkClose_37 : decode cX1_openWorkClose 37 = .ok (.iand, 1) := by decide +kernel
theorem dX1_openWorkClose_38 : decode cX1_openWorkClose 38 = .ok (.ifCond .eq 9, 3) := by decide +kernel
theorem dX1_openWorkClose_41 : decode cX1_openWorkClose 41 = .ok (.iload_n 3, 1) := by decide +kernel
theorem dX1_openWorkClose_42 : decode cX1_openWorkClose 42 = .ok (.iconst 2, 1) := by decide +kernel
theorem dX1_openWorkClose_43 : decode cX1_openWorkClose 43 = .ok (.invokestatic 178, 3) := by decide +kernel
theorem dX1_openWorkClose_46 : decode cX1_openWorkClose 46 = .ok (.istore_n 3, 1) := by decide +kernel
theorem dX1_openWorkClose_47 : decode cX1_openWorkClose 47 = .ok (.aload_n 0, 1) := by decide +kernel
theorem dX1_openWorkClose_48 : decode cX1_openWorkClose 48 = .ok (.bipush 21, 2) := by decide +kernel
theorem dX1_openWorkClose_50 : decode cX1_openWorkClose 50 = .ok (.invokevirtual 131, 3) := by decide +kernel
theorem dX1_openWorkClose_53 : decode cX1_openWorkClose 53 = .ok (.iload_n 2, 1) := by decide +kernel
theorem dX1_openWorkClose_54 : decode cX1_openWorkClose 54 = .ok (.iconst 1, 1) := by decide +kernel
theorem dX1_openWorkClose_55 : decode cX1_openWorkClose 55 = .ok (.iand, 1) := by decide +kernel
theorem dX1_openWorkClose_56 : decode cX1_openWorkClose 56 = .ok (.ifCond .eq 9, 3) := by decide +kernel
theorem dX1_openWorkClose_59 : decode cX1_openWorkClose 59 = .ok (.iload_n 3, 1) := by decide +kernel
theorem dX1_openWorkClose_60 : decode cX1_openWorkClose 60 = .ok (.iconst 3, 1) := by decide +kernel
theorem dX1_openWorkClose_61 : decode cX1_openWorkClose 61 = .ok (.invokestatic 178, 3) := by decide +kernel
theorem dX1_openWorkClose_64 : decode cX1_openWorkClose 64 = .ok (.istore_n 3, 1) := by decide +kernel
theorem dX1_openWorkClose_65 : decode cX1_openWorkClose 65 = .ok (.aload_n 0, 1) := by decide +kernel
theorem dX1_openWorkClose_66 : decode cX1_openWorkClose 66 = .ok (.bipush 20, 2) := by decide +kernel
theorem dX1_openWorkClose_68 : decode cX1_openWorkClose 68 = .ok (.invokevirtual 131, 3) := by decide +kernel
theorem dX1_openWorkClose_71 : decode cX1_openWorkClose 71 = .ok (.iload_n 2, 1) := by decide +kernel
theorem dX1_openWorkClose_72 : decode cX1_openWorkClose 72 = .ok (.iconst 2, 1) := by decide +kernel
theorem dX1_openWorkClose_73 : decode cX1_openWorkClose 73 = .ok (.iand, 1) := by decide +kernel
theorem dX1_openWorkClose_74 : decode cX1_openWorkClose 74 = .ok (.ifCond .eq 9, 3) := by decide +kernel
theorem dX1_openWorkClose_77 : decode cX1_openWorkClose 77 = .ok (.iload_n 3, 1) := by decide +kernel
theorem dX1_openWorkClose_78 : decode cX1_openWorkClose 78 = .ok (.iconst 4, 1) := by decide +kernel
theorem dX1_openWorkClose_79 : decode cX1_openWorkClose 79 = .ok (.invokestatic 178, 3) := by decide +kernel
theorem dX1_openWorkClose_82 : decode cX1_openWorkClose 82 = .ok (.istore_n 3, 1) := by decide +kernel
theorem dX1_openWorkClose_83 : decode cX1_openWorkClose 83 = .ok (.iload_n 3, 1) := by decide +kernel
theorem dX1_openWorkClose_84 : decode cX1_openWorkClose 84 = .ok (.ireturn, 1) := by decide +kernel
theorem dX1_withFailure_0 : decode cX1_withFailure 0 = .ok (.iload_n 0, 1) := by decide +kernel
theorem dX1_withFailure_1 : decode cX1_withFailure 1 = .ok (.ifCond .ne 10, 3) := by decide +kernel
theorem dX1_withFailure_4 : decode cX1_withFailure 4 = .ok (.bipush 100, 2) := by decide +kernel
theorem dX1_withFailure_6 : decode cX1_withFailure 6 = .ok (.iload_n 1, 1) := by decide +kernel
theorem dX1_withFailure_7 : decode cX1_withFailure 7 = .ok (.imul, 1) := by decide +kernel
theorem dX1_withFailure_8 : decode cX1_withFailure 8 = .ok (.goto 6, 3) := by decide +kernel
theorem dX1_withFailure_11 : decode cX1_withFailure 11 = .ok (.iload_n 0, 1) := by decide +kernel
theorem dX1_withFailure_12 : decode cX1_withFailure 12 = .ok (.iconst 1, 1) := by decide +kernel
theorem dX1_withFailure_13 : decode cX1_withFailure 13 = .ok (.iadd, 1) := by decide +kernel
theorem dX1_withFailure_14 : decode cX1_withFailure 14 = .ok (.ireturn, 1) := by decide +kernel
theorem dX1_workByWord_0 : decode cX1_workByWord 0 = .ok (.iload_n 1, 1) := by decide +kernel
theorem dX1_workByWord_1 : decode cX1_workByWord 1 = .ok (.tableswitch 45 0 2 #[27, 31, 37], 27) := by decide +kernel
theorem dX1_workByWord_28 : decode cX1_workByWord 28 = .ok (.iload_n 0, 1) := by decide +kernel
theorem dX1_workByWord_29 : decode cX1_workByWord 29 = .ok (.iconst 1, 1) := by decide +kernel
theorem dX1_workByWord_30 : decode cX1_workByWord 30 = .ok (.iadd, 1) := by decide +kernel
theorem dX1_workByWord_31 : decode cX1_workByWord 31 = .ok (.ireturn, 1) := by decide +kernel
theorem dX1_workByWord_32 : decode cX1_workByWord 32 = .ok (.iload_n 0, 1) := by decide +kernel
theorem dX1_workByWord_33 : decode cX1_workByWord 33 = .ok (.iconst 2, 1) := by decide +kernel
theorem dX1_workByWord_34 : decode cX1_workByWord 34 = .ok (.iadd, 1) := by decide +kernel
theorem dX1_workByWord_35 : decode cX1_workByWord 35 = .ok (.iconst 1, 1) := by decide +kernel
theorem dX1_workByWord_36 : decode cX1_workByWord 36 = .ok (.iadd, 1) := by decide +kernel
theorem dX1_workByWord_37 : decode cX1_workByWord 37 = .ok (.ireturn, 1) := by decide +kernel
theorem dX1_workByWord_38 : decode cX1_workByWord 38 = .ok (.iload_n 0, 1) := by decide +kernel
theorem dX1_workByWord_39 : decode cX1_workByWord 39 = .ok (.iconst 4, 1) := by decide +kernel
theorem dX1_workByWord_40 : decode cX1_workByWord 40 = .ok (.iadd, 1) := by decide +kernel
theorem dX1_workByWord_41 : decode cX1_workByWord 41 = .ok (.iconst 2, 1) := by decide +kernel
theorem dX1_workByWord_42 : decode cX1_workByWord 42 = .ok (.iadd, 1) := by decide +kernel
theorem dX1_workByWord_43 : decode cX1_workByWord 43 = .ok (.iconst 1, 1) := by decide +kernel
theorem dX1_workByWord_44 : decode cX1_workByWord 44 = .ok (.iadd, 1) := by decide +kernel
theorem dX1_workByWord_45 : decode cX1_workByWord 45 = .ok (.ireturn, 1) := by decide +kernel
theorem dX1_workByWord_46 : decode cX1_workByWord 46 = .ok (.iload_n 0, 1) := by decide +kernel
theorem dX1_workByWord_47 : decode cX1_workByWord 47 = .ok (.ineg, 1) := by decide +kernel
theorem dX1_workByWord_48 : decode cX1_workByWord 48 = .ok (.ireturn, 1) := by decide +kernel
set_option maxRecDepth 20000 in
theorem ggX1_squareInRow_X1_isBelow : GoodIn wsX1_squareInRow wsX1_isBelow := goodIn_r _ [4] (by decide +kernel) (by decide +kernel)
set_option maxRecDepth 20000 in
theorem gX1_squareInRow_X1_isBelow : GoodIn wsX1_squareInRow (va_wsS RX1 35 yX1_isBelow wsX1_isBelow) := goodIn_app (goodIn_of _ (by decide +kernel)) ggX1_squareInRow_X1_isBelow
set_option maxRecDepth 20000 in
theorem ggX1_squareInRow_X1_wentWith : GoodIn wsX1_squareInRow wsX1_wentWith := goodIn_r _ [8, 9, 10, 11, 12, 13, 14, 15, 16, 17, 18] (by decide +kernel) (by decide +kernel)
set_option maxRecDepth 20000 in
theorem gX1_squareInRow_X1_wentWith : GoodIn wsX1_squareInRow (wsV RX1 57 RX1 yX1_wentWith wsX1_wentWith) := goodIn_app (goodIn_of _ (by decide +kernel)) ggX1_squareInRow_X1_wentWith
theorem dX1_squareInRow_0 : decode cX1_squareInRow 0 = .ok (.iload_n 1, 1) := by decide +kernel
theorem dX1_squareInRow_1 : decode cX1_squareInRow 1 = .ok (.sipush 1000, 3) := by decide +kernel
theorem dX1_squareInRow_4 : decode cX1_squareInRow 4 = .ok (.if_icmp .le 5, 3) := by decide +kernel
theorem dX1_squareInRow_7 : decode cX1_squareInRow 7 = .ok (.iconst (-1), 1) := by decide +kernel
theorem dX1_squareInRow_8 : decode cX1_squareInRow 8 = .ok (.ireturn, 1) := by decide +kernel
theorem dX1_squareInRow_9 : decode cX1_squareInRow 9 = .ok (.iload_n 1, 1) := by decide +kernel
theorem dX1_squareInRow_10 : decode cX1_squareInRow 10 = .ok (.ifCond .ge 6, 3) := by decide +kernel
theorem dX1_squareInRow_13 : decode cX1_squareInRow 13 = .ok (.bipush 6, 2) := by decide +kernel
theorem dX1_squareInRow_15 : decode cX1_squareInRow 15 = .ok (.ireturn, 1) := by decide +kernel
theorem dX1_squareInRow_16 : decode cX1_squareInRow 16 = .ok (.iload_n 2, 1) := by decide +kernel
theorem dX1_squareInRow_17 : decode cX1_squareInRow 17 = .ok (.iload_n 1, 1) := by decide +kernel
theorem dX1_squareInRow_18 : decode cX1_squareInRow 18 = .ok (.invokestatic 35, 3) := by decide +kernel
theorem dX1_squareInRow_21 : decode cX1_squareInRow 21 = .ok (.ifCond .ne 5, 3) := by decide +kernel
theorem dX1_squareInRow_24 : decode cX1_squareInRow 24 = .ok (.iconst 4, 1) := by decide +kernel
theorem dX1_squareInRow_25 : decode cX1_squareInRow 25 = .ok (.ireturn, 1) := by decide +kernel
theorem dX1_squareInRow_26 : decode cX1_squareInRow 26 = .ok (.aload_n 0, 1) := by decide +kernel
theorem dX1_squareInRow_27 : decode cX1_squareInRow 27 = .ok (.iload_n 2, 1) := by decide +kernel
theorem dX1_squareInRow_28 : decode cX1_squareInRow 28 = .ok (.iload_n 2, 1) := by decide +kernel
theorem dX1_squareInRow_29 : decode cX1_squareInRow 29 = .ok (.imul, 1) := by decide +kernel
theorem dX1_squareInRow_30 : decode cX1_squareInRow 30 = .ok (.invokevirtual 57, 3) := by decide +kernel
theorem dX1_squareInRow_33 : decode cX1_squareInRow 33 = .ok (.ireturn, 1) := by decide +kernel
theorem dX1_putAtToldPlace_0 : decode cX1_putAtToldPlace 0 = .ok (.iload_n 0, 1) := by decide +kernel
theorem dX1_putAtToldPlace_1 : decode cX1_putAtToldPlace 1 = .ok (.ifCond .ne 8, 3) := by decide +kernel
theorem dX1_putAtToldPlace_4 : decode cX1_putAtToldPlace 4 = .ok (.bipush 25, 2) := by decide +kernel
theorem dX1_putAtToldPlace_6 : decode cX1_putAtToldPlace 6 = .ok (.goto 5, 3) := by decide +kernel
theorem dX1_putAtToldPlace_9 : decode cX1_putAtToldPlace 9 = .ok (.bipush 7, 2) := by decide +kernel
theorem dX1_putAtToldPlace_11 : decode cX1_putAtToldPlace 11 = .ok (.istore_n 1, 1) := by decide +kernel
theorem dX1_putAtToldPlace_12 : decode cX1_putAtToldPlace 12 = .ok (.iload_n 0, 1) := by decide +kernel
theorem dX1_putAtToldPlace_13 : decode cX1_putAtToldPlace 13 = .ok (.iconst 1, 1) := by decide +kernel
theorem dX1_putAtToldPlace_14 : decode cX1_putAtToldPlace 14 = .ok (.if_icmp .ne 8, 3) := by decide +kernel
theorem dX1_putAtToldPlace_17 : decode cX1_putAtToldPlace 17 = .ok (.bipush 25, 2) := by decide +kernel
theorem dX1_putAtToldPlace_19 : decode cX1_putAtToldPlace 19 = .ok (.goto 5, 3) := by decide +kernel
theorem dX1_putAtToldPlace_22 : decode cX1_putAtToldPlace 22 = .ok (.bipush 8, 2) := by decide +kernel
theorem dX1_putAtToldPlace_24 : decode cX1_putAtToldPlace 24 = .ok (.istore_n 2, 1) := by decide +kernel
theorem dX1_putAtToldPlace_25 : decode cX1_putAtToldPlace 25 = .ok (.iload_n 1, 1) := by decide +kernel
theorem dX1_putAtToldPlace_26 : decode cX1_putAtToldPlace 26 = .ok (.sipush 10000, 3) := by decide +kernel
theorem dX1_putAtToldPlace_29 : decode cX1_putAtToldPlace 29 = .ok (.imul, 1) := by decide +kernel
theorem dX1_putAtToldPlace_30 : decode cX1_putAtToldPlace 30 = .ok (.iload_n 2, 1) := by decide +kernel
theorem dX1_putAtToldPlace_31 : decode cX1_putAtToldPlace 31 = .ok (.bipush 100, 2) := by decide +kernel
theorem dX1_putAtToldPlace_33 : decode cX1_putAtToldPlace 33 = .ok (.imul, 1) := by decide +kernel
theorem dX1_putAtToldPlace_34 : decode cX1_putAtToldPlace 34 = .ok (.iadd, 1) := by decide +kernel
theorem dX1_putAtToldPlace_35 : decode cX1_putAtToldPlace 35 = .ok (.bipush 9, 2) := by decide +kernel
theorem dX1_putAtToldPlace_37 : decode cX1_putAtToldPlace 37 = .ok (.iadd, 1) := by decide +kernel
theorem dX1_putAtToldPlace_38 : decode cX1_putAtToldPlace 38 = .ok (.ireturn, 1) := by decide +kernel
theorem dX1_quotientOfDoubles_0 : decode cX1_quotientOfDoubles 0 = .ok (.iload_n 1, 1) := by decide +kernel
theorem dX1_quotientOfDoubles_1 : decode cX1_quotientOfDoubles 1 = .ok (.ifCond .ne 23, 3) := by decide +kernel
theorem dX1_quotientOfDoubles_4 : decode cX1_quotientOfDoubles 4 = .ok (.iload_n 0, 1) := by decide +kernel
theorem dX1_quotientOfDoubles_5 : decode cX1_quotientOfDoubles 5 = .ok (.ifCond .ne 7, 3) := by decide +kernel
theorem dX1_quotientOfDoubles_8 : decode cX1_quotientOfDoubles 8 = .ok (.iconst 0, 1) := by decide +kernel
theorem dX1_quotientOfDoubles_9 : decode cX1_quotientOfDoubles 9 = .ok (.goto 14, 3) := by decide +kernel
theorem dX1_quotientOfDoubles_12 : decode cX1_quotientOfDoubles 12 = .ok (.iload_n 0, 1) := by decide +kernel
theorem dX1_quotientOfDoubles_13 : decode cX1_quotientOfDoubles 13 = .ok (.ifCond .le 8, 3) := by decide +kernel
theorem dX1_quotientOfDoubles_16 : decode cX1_quotientOfDoubles 16 = .ok (.ldc 181, 2) := by decide +kernel
theorem dX1_quotientOfDoubles_18 : decode cX1_quotientOfDoubles 18 = .ok (.goto 5, 3) := by decide +kernel
theorem dX1_quotientOfDoubles_21 : decode cX1_quotientOfDoubles 21 = .ok (.ldc 182, 2) := by decide +kernel
theorem dX1_quotientOfDoubles_23 : decode cX1_quotientOfDoubles 23 = .ok (.ireturn, 1) := by decide +kernel
theorem dX1_quotientOfDoubles_24 : decode cX1_quotientOfDoubles 24 = .ok (.iload_n 0, 1) := by decide +kernel
theorem dX1_quotientOfDoubles_25 : decode cX1_quotientOfDoubles 25 = .ok (.i2d, 1) := by decide +kernel
theorem dX1_quotientOfDoubles_26 : decode cX1_quotientOfDoubles 26 = .ok (.iload_n 1, 1) := by decide +kernel
theorem dX1_quotientOfDoubles_27 : decode cX1_quotientOfDoubles 27 = .ok (.i2d, 1) := by decide +kernel
theorem dX1_quotientOfDoubles_28 : decode cX1_quotientOfDoubles 28 = .ok (.ddiv, 1) := by decide +kernel
theorem dX1_quotientOfDoubles_29 : decode cX1_quotientOfDoubles 29 = .ok (.d2i, 1) := by decide +kernel
theorem dX1_quotientOfDoubles_30 : decode cX1_quotientOfDoubles 30 = .ok (.ireturn, 1) := by decide +kernel
theorem dX1_decimalLength_0 : decode cX1_decimalLength 0 = .ok (.iload_n 0, 1) := by decide +kernel
theorem dX1_decimalLength_1 : decode cX1_decimalLength 1 = .ok (.ifCond .ge 7, 3) := by decide +kernel
theorem dX1_decimalLength_4 : decode cX1_decimalLength 4 = .ok (.iconst 2, 1) := by decide +kernel
theorem dX1_decimalLength_5 : decode cX1_decimalLength 5 = .ok (.goto 4, 3) := by decide +kernel
theorem dX1_decimalLength_8 : decode cX1_decimalLength 8 = .ok (.iconst 1, 1) := by decide +kernel
theorem dX1_decimalLength_9 : decode cX1_decimalLength 9 = .ok (.istore_n 1, 1) := by decide +kernel
theorem dX1_decimalLength_10 : decode cX1_decimalLength 10 = .ok (.iload_n 0, 1) := by decide +kernel
theorem dX1_decimalLength_11 : decode cX1_decimalLength 11 = .ok (.bipush 10, 2) := by decide +kernel
theorem dX1_decimalLength_13 : decode cX1_decimalLength 13 = .ok (.idiv, 1) := by decide +kernel
theorem dX1_decimalLength_14 : decode cX1_decimalLength 14 = .ok (.istore_n 2, 1) := by decide +kernel
theorem dX1_decimalLength_15 : decode cX1_decimalLength 15 = .ok (.iconst 1, 1) := by decide +kernel
theorem dX1_decimalLength_16 : decode cX1_decimalLength 16 = .ok (.istore_n 3, 1) := by decide +kernel
theorem dX1_decimalLength_17 : decode cX1_decimalLength 17 = .ok (.iload_n 3, 1) := by decide +kernel
theorem dX1_decimalLength_18 : decode cX1_decimalLength 18 = .ok (.bipush 10, 2) := by decide +kernel
theorem dX1_decimalLength_20 : decode cX1_decimalLength 20 = .ok (.if_icmp .ge 21, 3) := by decide +kernel
theorem dX1_decimalLength_23 : decode cX1_decimalLength 23 = .ok (.iload_n 2, 1) := by decide +kernel
theorem dX1_decimalLength_24 : decode cX1_decimalLength 24 = .ok (.ifCond .eq 17, 3) := by decide +kernel
theorem dX1_decimalLength_27 : decode cX1_decimalLength 27 = .ok (.iinc 1 1, 3) := by decide +kernel
theorem dX1_decimalLength_30 : decode cX1_decimalLength 30 = .ok (.iload_n 2, 1) := by decide +kernel
theorem dX1_decimalLength_31 : decode cX1_decimalLength 31 = .ok (.bipush 10, 2) := by decide +kernel
theorem dX1_decimalLength_33 : decode cX1_decimalLength 33 = .ok (.idiv, 1) := by decide +kernel
theorem dX1_decimalLength_34 : decode cX1_decimalLength 34 = .ok (.istore_n 2, 1) := by decide +kernel
theorem dX1_decimalLength_35 : decode cX1_decimalLength 35 = .ok (.iinc 3 1, 3) := by decide +kernel
theorem dX1_decimalLength_38 : decode cX1_decimalLength 38 = .ok (.goto (-21), 3) := by decide +kernel
theorem dX1_decimalLength_41 : decode cX1_decimalLength 41 = .ok (.iload_n 1, 1) := by decide +kernel
theorem dX1_decimalLength_42 : decode cX1_decimalLength 42 = .ok (.ireturn, 1) := by decide +kernel
set_option maxRecDepth 20000 in
theorem ggL_law_X1_init : GoodIn wsL_law wsX1_init := goodIn_r _ [5, 6, 7, 8, 9, 10, 11, 12, 13, 14, 15, 16, 17, 18, 19, 20, 21, 22, 23, 24, 25, 203, 204, 205, 206, 207, 208, 194, 195, 196, 197, 198, 199, 200, 201, 202] (by decide +kernel) (by decide +kernel)
set_option maxRecDepth 20000 in
theorem gL_law_X1_init : GoodIn wsL_law (wsX1_init) := ggL_law_X1_init
set_option maxRecDepth 20000 in
theorem ggL_law_X1_make : GoodIn wsL_law wsX1_make := goodIn_r _ [29, 14, 30, 31, 2, 32, 33, 34, 35, 36, 9, 10, 11, 19, 20, 21, 7, 8, 22, 23, 24, 25, 37, 38, 39, 40, 12, 13, 41, 42, 43, 44, 45, 46, 47, 48, 49, 50, 51, 18, 52, 194, 195, 196, 197, 198, 199, 200, 201, 202, 203, 204, 205, 206, 207, 208] (by decide +kernel) (by decide +kernel)
set_option maxRecDepth 20000 in
theorem gL_law_X1_make : GoodIn wsL_law (wsV RL 13 RX1 yX1_make wsX1_make) := goodIn_app (goodIn_of _ (by decide +kernel)) ggL_law_X1_make
set_option maxRecDepth 20000 in
theorem ggL_law_X1_drop : GoodIn wsL_law wsX1_drop := goodIn_r _ [56, 14, 30, 31, 2, 32, 194, 195, 196, 197, 198, 199, 200, 201, 202] (by decide +kernel) (by decide +kernel)
set_option maxRecDepth 20000 in
theorem gL_law_X1_drop : GoodIn wsL_law (wsV RL 18 RX1 yX1_drop wsX1_drop) := goodIn_app (goodIn_of _ (by decide +kernel)) ggL_law_X1_drop
set_option maxRecDepth 20000 in
theorem ggL_law_X1_probe : GoodIn wsL_law wsX1_probe := goodIn_r _ [60, 61, 14, 30, 31, 2, 32, 62, 63, 64, 65, 66, 67, 68, 69, 70, 71, 72, 73, 74, 75, 76, 77, 78, 79, 80, 81, 82, 83, 84, 85, 86, 87, 88, 89, 90, 91, 92, 93, 94, 95, 96, 97, 98, 99, 100, 101, 102, 103, 104, 105, 106, 107, 108, 109, 110, 111, 112, 113, 114, 115, 45, 46, 47, 194, 195, 196, 197, 198, 199, 200, 201, 202, 203, 204, 205, 206, 207, 208] (by decide +kernel) (by decide +kernel)
set_option maxRecDepth 20000 in
theorem gL_law_X1_probe : GoodIn wsL_law (wsV RL 23 RX1 yX1_probe wsX1_probe) := goodIn_app (goodIn_of _ (by decide +kernel)) ggL_law_X1_probe
set_option maxRecDepth 20000 in
theorem ggL_law_X1_value : GoodIn wsL_law wsX1_value := goodIn_r _ [119, 72, 194, 195, 196, 197, 198, 199, 200, 201, 202] (by decide +kernel) (by decide +kernel)
set_option maxRecDepth 20000 in
theorem gL_law_X1_value : GoodIn wsL_law (wsV RL 28 RX1 yX1_value wsX1_value) := goodIn_app (goodIn_of _ (by decide +kernel)) ggL_law_X1_value
set_option maxRecDepth 20000 in
theorem ggL_law_X1_is : GoodIn wsL_law wsX1_is := goodIn_r _ [123, 14, 30, 31, 2, 32, 76, 77, 78, 79, 62, 63, 64, 194, 195, 196, 197, 198, 199, 200, 201, 202, 203, 204, 205, 206, 207, 208] (by decide +kernel) (by decide +kernel)
set_option maxRecDepth 20000 in
theorem gL_law_X1_is : GoodIn wsL_law (wsV RL 33 RX1 yX1_is wsX1_is) := goodIn_app (goodIn_of _ (by decide +kernel)) ggL_law_X1_is
set_option maxRecDepth 20000 in
theorem ggL_law_X1_same : GoodIn wsL_law wsX1_same := goodIn_r _ [127, 14, 30, 31, 2, 32, 194, 195, 196, 197, 198, 199, 200, 201, 202] (by decide +kernel) (by decide +kernel)
set_option maxRecDepth 20000 in
theorem gL_law_X1_same : GoodIn wsL_law (wsV RL 38 RX1 yX1_same wsX1_same) := goodIn_app (goodIn_of _ (by decide +kernel)) ggL_law_X1_same
set_option maxRecDepth 20000 in
theorem ggL_law_X1_store : GoodIn wsL_law wsX1_store := goodIn_r _ [131, 14, 30, 31, 2, 32, 132, 133, 134, 135, 136, 15, 76, 77, 78, 79, 62, 63, 64, 194, 195, 196, 197, 198, 199, 200, 201, 202, 203, 204, 205, 206, 207, 208] (by decide +kernel) (by decide +kernel)
set_option maxRecDepth 20000 in
theorem gL_law_X1_store : GoodIn wsL_law (wsV RL 42 RX1 yX1_store wsX1_store) := goodIn_app (goodIn_of _ (by decide +kernel)) ggL_law_X1_store
set_option maxRecDepth 20000 in
theorem ggL_law_X1_load : GoodIn wsL_law wsX1_load := goodIn_r _ [140, 14, 15, 30, 31, 2, 32, 194, 195, 196, 197, 198, 199, 200, 201, 202] (by decide +kernel) (by decide +kernel)
set_option maxRecDepth 20000 in
theorem gL_law_X1_load : GoodIn wsL_law (wsV RL 46 RX1 yX1_load wsX1_load) := goodIn_app (goodIn_of _ (by decide +kernel)) ggL_law_X1_load
set_option maxRecDepth 20000 in
theorem ggL_law_X1_copy : GoodIn wsL_law wsX1_copy := goodIn_r _ [144, 16, 15, 30, 31, 2, 32, 145, 146, 147, 132, 133, 134, 135, 136, 76, 77, 78, 79, 62, 63, 64, 194, 195, 196, 197, 198, 199, 200, 201, 202, 203, 204, 205, 206, 207, 208] (by decide +kernel) (by decide +kernel)
set_option maxRecDepth 20000 in
theorem gL_law_X1_copy : GoodIn wsL_law (wsV RL 50 RX1 yX1_copy wsX1_copy) := goodIn_app (goodIn_of _ (by decide +kernel)) ggL_law_X1_copy
set_option maxRecDepth 20000 in
theorem ggL_law_X1_compare : GoodIn wsL_law wsX1_compare := goodIn_r _ [151, 14, 30, 31, 2, 32, 76, 77, 78, 79, 62, 63, 64, 68, 69, 70, 71, 72, 194, 195, 196, 197, 198, 199, 200, 201, 202, 203, 204, 205, 206, 207, 208] (by decide +kernel) (by decide +kernel)
set_option maxRecDepth 20000 in
theorem gL_law_X1_compare : GoodIn wsL_law (wsV RL 54 RX1 yX1_compare wsX1_compare) := goodIn_app (goodIn_of _ (by decide +kernel)) ggL_law_X1_compare
set_option maxRecDepth 20000 in
theorem ggL_law_X1_flow : GoodIn wsL_law wsX1_flow := goodIn_r _ [155, 156, 157, 158, 2, 159, 48, 49, 50, 51, 18, 52, 68, 69, 70, 71, 72, 160, 161, 162, 163, 164, 165, 166, 167, 168, 169, 170, 171, 172, 173, 174, 175, 176, 177, 30, 31, 32, 178, 179, 180, 194, 195, 196, 197, 198, 199, 200, 201, 202] (by decide +kernel) (by decide +kernel)
set_option maxRecDepth 20000 in
theorem gL_law_X1_flow : GoodIn wsL_law (wsV RL 59 RX1 yX1_flow wsX1_flow) := goodIn_app (goodIn_of _ (by decide +kernel)) ggL_law_X1_flow
set_option maxRecDepth 20000 in
theorem ggL_law_X1_number : GoodIn wsL_law wsX1_number := goodIn_r _ [184, 185, 68, 69, 70, 2, 71, 72, 186, 187, 188, 189, 190, 191, 192, 193, 194, 195, 196, 197, 198, 199, 200, 201, 202] (by decide +kernel) (by decide +kernel)
set_option maxRecDepth 20000 in
theorem gL_law_X1_number : GoodIn wsL_law (wsV RL 63 RX1 yX1_number wsX1_number) := goodIn_app (goodIn_of _ (by decide +kernel)) ggL_law_X1_number
theorem dL_law_0 : decode cL_law 0 = .ok (.new 7, 3) := by decide +kernel
theorem dL_law_3 : decode cL_law 3 = .ok (.dup, 1) := by decide +kernel
theorem dL_law_4 : decode cL_law 4 = .ok (.invokespecial 9, 3) := by decide +kernel
theorem dL_law_7 : decode cL_law 7 = .ok (.astore_n 1, 1) := by decide +kernel
theorem dL_law_8 : decode cL_law 8 = .ok (.new 10, 3) := by decide +kernel
theorem dL_law_11 : decode cL_law 11 = .ok (.dup, 1) := by decide +kernel
theorem dL_law_12 : decode cL_law 12 = .ok (.invokespecial 12, 3) := by decide +kernel
theorem dL_law_15 : decode cL_law 15 = .ok (.astore_n 2, 1) := by decide +kernel
theorem dL_law_16 : decode cL_law 16 = .ok (.iconst 0, 1) := by decide +kernel
theorem dL_law_17 : decode cL_law 17 = .ok (.istore_n 3, 1) := by decide +kernel
theorem dL_law_18 : decode cL_law 18 = .ok (.iload_n 3, 1) := by decide +kernel
theorem dL_law_19 : decode cL_law 19 = .ok (.aload_n 0, 1) := by decide +kernel
theorem dL_law_20 : decode cL_law 20 = .ok (.arraylength, 1) := by decide +kernel
theorem dL_law_21 : decode cL_law 21 = .ok (.bipush 6, 2) := by decide +kernel
theorem dL_law_23 : decode cL_law 23 = .ok (.isub, 1) := by decide +kernel
theorem dL_law_24 : decode cL_law 24 = .ok (.if_icmp .gt 598, 3) := by decide +kernel
theorem dL_law_27 : decode cL_law 27 = .ok (.aload_n 0, 1) := by decide +kernel
theorem dL_law_28 : decode cL_law 28 = .ok (.iload_n 3, 1) := by decide +kernel
theorem dL_law_29 : decode cL_law 29 = .ok (.iaload, 1) := by decide +kernel
theorem dL_law_30 : decode cL_law 30 = .ok (.bipush 15, 2) := by decide +kernel
theorem dL_law_32 : decode cL_law 32 = .ok (.iand, 1) := by decide +kernel
theorem dL_law_33 : decode cL_law 33 = .ok (.tableswitch 583 0 13 #[71, 114, 137, 200, 213, 246, 279, 322, 365, 428, 461, 504, 547, 560], 71) := by decide +kernel
theorem dL_law_104 : decode cL_law 104 = .ok (.aload_n 1, 1) := by decide +kernel
theorem dL_law_105 : decode cL_law 105 = .ok (.aload_n 0, 1) := by decide +kernel
theorem dL_law_106 : decode cL_law 106 = .ok (.iload_n 3, 1) := by decide +kernel
theorem dL_law_107 : decode cL_law 107 = .ok (.iconst 1, 1) := by decide +kernel
theorem dL_law_108 : decode cL_law 108 = .ok (.iadd, 1) := by decide +kernel
theorem dL_law_109 : decode cL_law 109 = .ok (.iaload, 1) := by decide +kernel
theorem dL_law_110 : decode cL_law 110 = .ok (.aload_n 0, 1) := by decide +kernel
theorem dL_law_111 : decode cL_law 111 = .ok (.iload_n 3, 1) := by decide +kernel
theorem dL_law_112 : decode cL_law 112 = .ok (.iconst 2, 1) := by decide +kernel
theorem dL_law_113 : decode cL_law 113 = .ok (.iadd, 1) := by decide +kernel
theorem dL_law_114 : decode cL_law 114 = .ok (.iaload, 1) := by decide +kernel
theorem dL_law_115 : decode cL_law 115 = .ok (.aload_n 0, 1) := by decide +kernel
theorem dL_law_116 : decode cL_law 116 = .ok (.iload_n 3, 1) := by decide +kernel
theorem dL_law_117 : decode cL_law 117 = .ok (.iconst 3, 1) := by decide +kernel
theorem dL_law_118 : decode cL_law 118 = .ok (.iadd, 1) := by decide +kernel
theorem dL_law_119 : decode cL_law 119 = .ok (.iaload, 1) := by decide +kernel
theorem dL_law_120 : decode cL_law 120 = .ok (.invokevirtual 13, 3) := by decide +kernel
theorem dL_law_123 : decode cL_law 123 = .ok (.aload_n 2, 1) := by decide +kernel
theorem dL_law_124 : decode cL_law 124 = .ok (.aload_n 0, 1) := by decide +kernel
theorem dL_law_125 : decode cL_law 125 = .ok (.iload_n 3, 1) := by decide +kernel
theorem dL_law_126 : decode cL_law 126 = .ok (.iconst 1, 1) := by decide +kernel
theorem dL_law_127 : decode cL_law 127 = .ok (.iadd, 1) := by decide +kernel
theorem dL_law_128 : decode cL_law 128 = .ok (.iaload, 1) := by decide +kernel
theorem dL_law_129 : decode cL_law 129 = .ok (.aload_n 0, 1) := by decide +kernel
theorem dL_law_130 : decode cL_law 130 = .ok (.iload_n 3, 1) := by decide +kernel
theorem dL_law_131 : decode cL_law 131 = .ok (.iconst 2, 1) := by decide +kernel
theorem dL_law_132 : decode cL_law 132 = .ok (.iadd, 1) := by decide +kernel
theorem dL_law_133 : decode cL_law 133 = .ok (.iaload, 1) := by decide +kernel
theorem dL_law_134 : decode cL_law 134 = .ok (.aload_n 0, 1) := by decide +kernel
theorem dL_law_135 : decode cL_law 135 = .ok (.iload_n 3, 1) := by decide +kernel
theorem dL_law_136 : decode cL_law 136 = .ok (.iconst 3, 1) := by decide +kernel
theorem dL_law_137 : decode cL_law 137 = .ok (.iadd, 1) := by decide +kernel
theorem dL_law_138 : decode cL_law 138 = .ok (.iaload, 1) := by decide +kernel
theorem dL_law_139 : decode cL_law 139 = .ok (.invokevirtual 17, 3) := by decide +kernel
theorem dL_law_142 : decode cL_law 142 = .ok (.if_icmp .eq 474, 3) := by decide +kernel
theorem dL_law_145 : decode cL_law 145 = .ok (.iconst 0, 1) := by decide +kernel
theorem dL_law_146 : decode cL_law 146 = .ok (.ireturn, 1) := by decide +kernel
theorem dL_law_147 : decode cL_law 147 = .ok (.aload_n 1, 1) := by decide +kernel
theorem dL_law_148 : decode cL_law 148 = .ok (.aload_n 0, 1) := by decide +kernel
theorem dL_law_149 : decode cL_law 149 = .ok (.iload_n 3, 1) := by decide +kernel
theorem dL_law_150 : decode cL_law 150 = .ok (.iconst 1, 1) := by decide +kernel
theorem dL_law_151 : decode cL_law 151 = .ok (.iadd, 1) := by decide +kernel
theorem dL_law_152 : decode cL_law 152 = .ok (.iaload, 1) := by decide +kernel
theorem dL_law_153 : decode cL_law 153 = .ok (.invokevirtual 18, 3) := by decide +kernel
theorem dL_law_156 : decode cL_law 156 = .ok (.aload_n 2, 1) := by decide +kernel
theorem dL_law_157 : decode cL_law 157 = .ok (.aload_n 0, 1) := by decide +kernel
theorem dL_law_158 : decode cL_law 158 = .ok (.iload_n 3, 1) := by decide +kernel
theorem dL_law_159 : decode cL_law 159 = .ok (.iconst 1, 1) := by decide +kernel
theorem dL_law_160 : decode cL_law 160 = .ok (.iadd, 1) := by decide +kernel
theorem dL_law_161 : decode cL_law 161 = .ok (.iaload, 1) := by decide +kernel
theorem dL_law_162 : decode cL_law 162 = .ok (.invokevirtual 22, 3) := by decide +kernel
theorem dL_law_165 : decode cL_law 165 = .ok (.if_icmp .eq 451, 3) := by decide +kernel
theorem dL_law_168 : decode cL_law 168 = .ok (.iconst 0, 1) := by decide +kernel
theorem dL_law_169 : decode cL_law 169 = .ok (.ireturn, 1) := by decide +kernel
theorem dL_law_170 : decode cL_law 170 = .ok (.aload_n 1, 1) := by decide +kernel
theorem dL_law_171 : decode cL_law 171 = .ok (.aload_n 0, 1) := by decide +kernel
theorem dL_law_172 : decode cL_law 172 = .ok (.iload_n 3, 1) := by decide +kernel
theorem dL_law_173 : decode cL_law 173 = .ok (.iconst 1, 1) := by decide +kernel
theorem dL_law_174 : decode cL_law 174 = .ok (.iadd, 1) := by decide +kernel
theorem dL_law_175 : decode cL_law 175 = .ok (.iaload, 1) := by decide +kernel
theorem dL_law_176 : decode cL_law 176 = .ok (.aload_n 0, 1) := by decide +kernel
theorem dL_law_177 : decode cL_law 177 = .ok (.iload_n 3, 1) := by decide +kernel
theorem dL_law_178 : decode cL_law 178 = .ok (.iconst 2, 1) := by decide +kernel
theorem dL_law_179 : decode cL_law 179 = .ok (.iadd, 1) := by decide +kernel
theorem dL_law_180 : decode cL_law 180 = .ok (.iaload, 1) := by decide +kernel
theorem dL_law_181 : decode cL_law 181 = .ok (.aload_n 0, 1) := by decide +kernel
theorem dL_law_182 : decode cL_law 182 = .ok (.iload_n 3, 1) := by decide +kernel
theorem dL_law_183 : decode cL_law 183 = .ok (.iconst 3, 1) := by decide +kernel
theorem dL_law_184 : decode cL_law 184 = .ok (.iadd, 1) := by decide +kernel
theorem dL_law_185 : decode cL_law 185 = .ok (.iaload, 1) := by decide +kernel
theorem dL_law_186 : decode cL_law 186 = .ok (.aload_n 0, 1) := by decide +kernel
theorem dL_law_187 : decode cL_law 187 = .ok (.iload_n 3, 1) := by decide +kernel
theorem dL_law_188 : decode cL_law 188 = .ok (.iconst 4, 1) := by decide +kernel
theorem dL_law_189 : decode cL_law 189 = .ok (.iadd, 1) := by decide +kernel
theorem dL_law_190 : decode cL_law 190 = .ok (.iaload, 1) := by decide +kernel
theorem dL_law_191 : decode cL_law 191 = .ok (.aload_n 0, 1) := by decide +kernel
theorem dL_law_192 : decode cL_law 192 = .ok (.iload_n 3, 1) := by decide +kernel
theorem dL_law_193 : decode cL_law 193 = .ok (.iconst 5, 1) := by decide +kernel
theorem dL_law_194 : decode cL_law 194 = .ok (.iadd, 1) := by decide +kernel
theorem dL_law_195 : decode cL_law 195 = .ok (.iaload, 1) := by decide +kernel
theorem dL_law_196 : decode cL_law 196 = .ok (.invokevirtual 23, 3) := by decide +kernel
theorem dL_law_199 : decode cL_law 199 = .ok (.aload_n 2, 1) := by decide +kernel
theorem dL_law_200 : decode cL_law 200 = .ok (.aload_n 0, 1) := by decide +kernel
theorem dL_law_201 : decode cL_law 201 = .ok (.iload_n 3, 1) := by decide +kernel
theorem dL_law_202 : decode cL_law 202 = .ok (.iconst 1, 1) := by decide +kernel
theorem dL_law_203 : decode cL_law 203 = .ok (.iadd, 1) := by decide +kernel
theorem dL_law_204 : decode cL_law 204 = .ok (.iaload, 1) := by decide +kernel
theorem dL_law_205 : decode cL_law 205 = .ok (.aload_n 0, 1) := by decide +kernel
theorem dL_law_206 : decode cL_law 206 = .ok (.iload_n 3, 1) := by decide +kernel
theorem dL_law_207 : decode cL_law 207 = .ok (.iconst 2, 1) := by decide +kernel
theorem dL_law_208 : decode cL_law 208 = .ok (.iadd, 1) := by decide +kernel
theorem dL_law_209 : decode cL_law 209 = .ok (.iaload, 1) := by decide +kernel
theorem dL_law_210 : decode cL_law 210 = .ok (.aload_n 0, 1) := by decide +kernel
theorem dL_law_211 : decode cL_law 211 = .ok (.iload_n 3, 1) := by decide +kernel
theorem dL_law_212 : decode cL_law 212 = .ok (.iconst 3, 1) := by decide +kernel
theorem dL_law_213 : decode cL_law 213 = .ok (.iadd, 1) := by decide +kernel
theorem dL_law_214 : decode cL_law 214 = .ok (.iaload, 1) := by decide +kernel
theorem dL_law_215 : decode cL_law 215 = .ok (.aload_n 0, 1) := by decide +kernel
theorem dL_law_216 : decode cL_law 216 = .ok (.iload_n 3, 1) := by decide +kernel
theorem dL_law_217 : decode cL_law 217 = .ok (.iconst 4, 1) := by decide +kernel
theorem dL_law_218 : decode cL_law 218 = .ok (.iadd, 1) := by decide +kernel
theorem dL_law_219 : decode cL_law 219 = .ok (.iaload, 1) := by decide +kernel
theorem dL_law_220 : decode cL_law 220 = .ok (.aload_n 0, 1) := by decide +kernel
theorem dL_law_221 : decode cL_law 221 = .ok (.iload_n 3, 1) := by decide +kernel
theorem dL_law_222 : decode cL_law 222 = .ok (.iconst 5, 1) := by decide +kernel
theorem dL_law_223 : decode cL_law 223 = .ok (.iadd, 1) := by decide +kernel
theorem dL_law_224 : decode cL_law 224 = .ok (.iaload, 1) := by decide +kernel
theorem dL_law_225 : decode cL_law 225 = .ok (.invokevirtual 27, 3) := by decide +kernel
theorem dL_law_228 : decode cL_law 228 = .ok (.if_icmp .eq 388, 3) := by decide +kernel
theorem dL_law_231 : decode cL_law 231 = .ok (.iconst 0, 1) := by decide +kernel
theorem dL_law_232 : decode cL_law 232 = .ok (.ireturn, 1) := by decide +kernel
theorem dL_law_233 : decode cL_law 233 = .ok (.aload_n 1, 1) := by decide +kernel
theorem dL_law_234 : decode cL_law 234 = .ok (.invokevirtual 28, 3) := by decide +kernel
theorem dL_law_237 : decode cL_law 237 = .ok (.aload_n 2, 1) := by decide +kernel
theorem dL_law_238 : decode cL_law 238 = .ok (.invokevirtual 32, 3) := by decide +kernel
theorem dL_law_241 : decode cL_law 241 = .ok (.if_icmp .eq 375, 3) := by decide +kernel
theorem dL_law_244 : decode cL_law 244 = .ok (.iconst 0, 1) := by decide +kernel
theorem dL_law_245 : decode cL_law 245 = .ok (.ireturn, 1) := by decide +kernel
theorem dL_law_246 : decode cL_law 246 = .ok (.aload_n 1, 1) := by decide +kernel
theorem dL_law_247 : decode cL_law 247 = .ok (.aload_n 0, 1) := by decide +kernel
theorem dL_law_248 : decode cL_law 248 = .ok (.iload_n 3, 1) := by decide +kernel
theorem dL_law_249 : decode cL_law 249 = .ok (.iconst 1, 1) := by decide +kernel
theorem dL_law_250 : decode cL_law 250 = .ok (.iadd, 1) := by decide +kernel
theorem dL_law_251 : decode cL_law 251 = .ok (.iaload, 1) := by decide +kernel
theorem dL_law_252 : decode cL_law 252 = .ok (.aload_n 0, 1) := by decide +kernel
theorem dL_law_253 : decode cL_law 253 = .ok (.iload_n 3, 1) := by decide +kernel
theorem dL_law_254 : decode cL_law 254 = .ok (.iconst 2, 1) := by decide +kernel
theorem dL_law_255 : decode cL_law 255 = .ok (.iadd, 1) := by decide +kernel
theorem dL_law_256 : decode cL_law 256 = .ok (.iaload, 1) := by decide +kernel
theorem dL_law_257 : decode cL_law 257 = .ok (.invokevirtual 33, 3) := by decide +kernel
theorem dL_law_260 : decode cL_law 260 = .ok (.aload_n 2, 1) := by decide +kernel
theorem dL_law_261 : decode cL_law 261 = .ok (.aload_n 0, 1) := by decide +kernel
theorem dL_law_262 : decode cL_law 262 = .ok (.iload_n 3, 1) := by decide +kernel
theorem dL_law_263 : decode cL_law 263 = .ok (.iconst 1, 1) := by decide +kernel
theorem dL_law_264 : decode cL_law 264 = .ok (.iadd, 1) := by decide +kernel
theorem dL_law_265 : decode cL_law 265 = .ok (.iaload, 1) := by decide +kernel
theorem dL_law_266 : decode cL_law 266 = .ok (.aload_n 0, 1) := by decide +kernel
theorem dL_law_267 : decode cL_law 267 = .ok (.iload_n 3, 1) := by decide +kernel
theorem dL_law_268 : decode cL_law 268 = .ok (.iconst 2, 1) := by decide +kernel
theorem dL_law_269 : decode cL_law 269 = .ok (.iadd, 1) := by decide +kernel
theorem dL_law_270 : decode cL_law 270 = .ok (.iaload, 1) := by decide +kernel
theorem dL_law_271 : decode cL_law 271 = .ok (.invokevirtual 37, 3) := by decide +kernel
theorem dL_law_274 : decode cL_law 274 = .ok (.if_icmp .eq 342, 3) := by decide +kernel
theorem dL_law_277 : decode cL_law 277 = .ok (.iconst 0, 1) := by decide +kernel
theorem dL_law_278 : decode cL_law 278 = .ok (.ireturn, 1) := by decide +kernel
theorem dL_law_279 : decode cL_law 279 = .ok (.aload_n 1, 1) := by decide +kernel
theorem dL_law_280 : decode cL_law 280 = .ok (.aload_n 0, 1) := by decide +kernel
theorem dL_law_281 : decode cL_law 281 = .ok (.iload_n 3, 1) := by decide +kernel
theorem dL_law_282 : decode cL_law 282 = .ok (.iconst 1, 1) := by decide +kernel
theorem dL_law_283 : decode cL_law 283 = .ok (.iadd, 1) := by decide +kernel
theorem dL_law_284 : decode cL_law 284 = .ok (.iaload, 1) := by decide +kernel
theorem dL_law_285 : decode cL_law 285 = .ok (.aload_n 0, 1) := by decide +kernel
theorem dL_law_286 : decode cL_law 286 = .ok (.iload_n 3, 1) := by decide +kernel
theorem dL_law_287 : decode cL_law 287 = .ok (.iconst 2, 1) := by decide +kernel
theorem dL_law_288 : decode cL_law 288 = .ok (.iadd, 1) := by decide +kernel
theorem dL_law_289 : decode cL_law 289 = .ok (.iaload, 1) := by decide +kernel
theorem dL_law_290 : decode cL_law 290 = .ok (.invokevirtual 38, 3) := by decide +kernel
theorem dL_law_293 : decode cL_law 293 = .ok (.aload_n 2, 1) := by decide +kernel
theorem dL_law_294 : decode cL_law 294 = .ok (.aload_n 0, 1) := by decide +kernel
theorem dL_law_295 : decode cL_law 295 = .ok (.iload_n 3, 1) := by decide +kernel
theorem dL_law_296 : decode cL_law 296 = .ok (.iconst 1, 1) := by decide +kernel
theorem dL_law_297 : decode cL_law 297 = .ok (.iadd, 1) := by decide +kernel
theorem dL_law_298 : decode cL_law 298 = .ok (.iaload, 1) := by decide +kernel
theorem dL_law_299 : decode cL_law 299 = .ok (.aload_n 0, 1) := by decide +kernel
theorem dL_law_300 : decode cL_law 300 = .ok (.iload_n 3, 1) := by decide +kernel
theorem dL_law_301 : decode cL_law 301 = .ok (.iconst 2, 1) := by decide +kernel
theorem dL_law_302 : decode cL_law 302 = .ok (.iadd, 1) := by decide +kernel
theorem dL_law_303 : decode cL_law 303 = .ok (.iaload, 1) := by decide +kernel
theorem dL_law_304 : decode cL_law 304 = .ok (.invokevirtual 41, 3) := by decide +kernel
theorem dL_law_307 : decode cL_law 307 = .ok (.if_icmp .eq 309, 3) := by decide +kernel
theorem dL_law_310 : decode cL_law 310 = .ok (.iconst 0, 1) := by decide +kernel
theorem dL_law_311 : decode cL_law 311 = .ok (.ireturn, 1) := by decide +kernel
theorem dL_law_312 : decode cL_law 312 = .ok (.aload_n 1, 1) := by decide +kernel
theorem dL_law_313 : decode cL_law 313 = .ok (.aload_n 0, 1) := by decide +kernel
theorem dL_law_314 : decode cL_law 314 = .ok (.iload_n 3, 1) := by decide +kernel
theorem dL_law_315 : decode cL_law 315 = .ok (.iconst 1, 1) := by decide +kernel
theorem dL_law_316 : decode cL_law 316 = .ok (.iadd, 1) := by decide +kernel
theorem dL_law_317 : decode cL_law 317 = .ok (.iaload, 1) := by decide +kernel
theorem dL_law_318 : decode cL_law 318 = .ok (.aload_n 0, 1) := by decide +kernel
theorem dL_law_319 : decode cL_law 319 = .ok (.iload_n 3, 1) := by decide +kernel
theorem dL_law_320 : decode cL_law 320 = .ok (.iconst 2, 1) := by decide +kernel
theorem dL_law_321 : decode cL_law 321 = .ok (.iadd, 1) := by decide +kernel
theorem dL_law_322 : decode cL_law 322 = .ok (.iaload, 1) := by decide +kernel
theorem dL_law_323 : decode cL_law 323 = .ok (.aload_n 0, 1) := by decide +kernel
theorem dL_law_324 : decode cL_law 324 = .ok (.iload_n 3, 1) := by decide +kernel
theorem dL_law_325 : decode cL_law 325 = .ok (.iconst 3, 1) := by decide +kernel
theorem dL_law_326 : decode cL_law 326 = .ok (.iadd, 1) := by decide +kernel
theorem dL_law_327 : decode cL_law 327 = .ok (.iaload, 1) := by decide +kernel
theorem dL_law_328 : decode cL_law 328 = .ok (.invokevirtual 42, 3) := by decide +kernel
theorem dL_law_331 : decode cL_law 331 = .ok (.aload_n 2, 1) := by decide +kernel
theorem dL_law_332 : decode cL_law 332 = .ok (.aload_n 0, 1) := by decide +kernel
theorem dL_law_333 : decode cL_law 333 = .ok (.iload_n 3, 1) := by decide +kernel
theorem dL_law_334 : decode cL_law 334 = .ok (.iconst 1, 1) := by decide +kernel
theorem dL_law_335 : decode cL_law 335 = .ok (.iadd, 1) := by decide +kernel
theorem dL_law_336 : decode cL_law 336 = .ok (.iaload, 1) := by decide +kernel
theorem dL_law_337 : decode cL_law 337 = .ok (.aload_n 0, 1) := by decide +kernel
theorem dL_law_338 : decode cL_law 338 = .ok (.iload_n 3, 1) := by decide +kernel
theorem dL_law_339 : decode cL_law 339 = .ok (.iconst 2, 1) := by decide +kernel
theorem dL_law_340 : decode cL_law 340 = .ok (.iadd, 1) := by decide +kernel
theorem dL_law_341 : decode cL_law 341 = .ok (.iaload, 1) := by decide +kernel
theorem dL_law_342 : decode cL_law 342 = .ok (.aload_n 0, 1) := by decide +kernel
theorem dL_law_343 : decode cL_law 343 = .ok (.iload_n 3, 1) := by decide +kernel
theorem dL_law_344 : decode cL_law 344 = .ok (.iconst 3, 1) := by decide +kernel
theorem dL_law_345 : decode cL_law 345 = .ok (.iadd, 1) := by decide +kernel
theorem dL_law_346 : decode cL_law 346 = .ok (.iaload, 1) := by decide +kernel
theorem dL_law_347 : decode cL_law 347 = .ok (.invokevirtual 45, 3) := by decide +kernel
theorem dL_law_350 : decode cL_law 350 = .ok (.if_icmp .eq 266, 3) := by decide +kernel
theorem dL_law_353 : decode cL_law 353 = .ok (.iconst 0, 1) := by decide +kernel
theorem dL_law_354 : decode cL_law 354 = .ok (.ireturn, 1) := by decide +kernel
theorem dL_law_355 : decode cL_law 355 = .ok (.aload_n 1, 1) := by decide +kernel
theorem dL_law_356 : decode cL_law 356 = .ok (.aload_n 0, 1) := by decide +kernel
theorem dL_law_357 : decode cL_law 357 = .ok (.iload_n 3, 1) := by decide +kernel
theorem dL_law_358 : decode cL_law 358 = .ok (.iconst 1, 1) := by decide +kernel
theorem dL_law_359 : decode cL_law 359 = .ok (.iadd, 1) := by decide +kernel
theorem dL_law_360 : decode cL_law 360 = .ok (.iaload, 1) := by decide +kernel
theorem dL_law_361 : decode cL_law 361 = .ok (.aload_n 0, 1) := by decide +kernel
theorem dL_law_362 : decode cL_law 362 = .ok (.iload_n 3, 1) := by decide +kernel
theorem dL_law_363 : decode cL_law 363 = .ok (.iconst 2, 1) := by decide +kernel
theorem dL_law_364 : decode cL_law 364 = .ok (.iadd, 1) := by decide +kernel
theorem dL_law_365 : decode cL_law 365 = .ok (.iaload, 1) := by decide +kernel
theorem dL_law_366 : decode cL_law 366 = .ok (.aload_n 0, 1) := by decide +kernel
theorem dL_law_367 : decode cL_law 367 = .ok (.iload_n 3, 1) := by decide +kernel
theorem dL_law_368 : decode cL_law 368 = .ok (.iconst 3, 1) := by decide +kernel
theorem dL_law_369 : decode cL_law 369 = .ok (.iadd, 1) := by decide +kernel
theorem dL_law_370 : decode cL_law 370 = .ok (.iaload, 1) := by decide +kernel
theorem dL_law_371 : decode cL_law 371 = .ok (.invokevirtual 46, 3) := by decide +kernel
theorem dL_law_374 : decode cL_law 374 = .ok (.aload_n 2, 1) := by decide +kernel
theorem dL_law_375 : decode cL_law 375 = .ok (.aload_n 0, 1) := by decide +kernel
theorem dL_law_376 : decode cL_law 376 = .ok (.iload_n 3, 1) := by decide +kernel
theorem dL_law_377 : decode cL_law 377 = .ok (.iconst 1, 1) := by decide +kernel
theorem dL_law_378 : decode cL_law 378 = .ok (.iadd, 1) := by decide +kernel
theorem dL_law_379 : decode cL_law 379 = .ok (.iaload, 1) := by decide +kernel
theorem dL_law_380 : decode cL_law 380 = .ok (.aload_n 0, 1) := by decide +kernel
theorem dL_law_381 : decode cL_law 381 = .ok (.iload_n 3, 1) := by decide +kernel
theorem dL_law_382 : decode cL_law 382 = .ok (.iconst 2, 1) := by decide +kernel
theorem dL_law_383 : decode cL_law 383 = .ok (.iadd, 1) := by decide +kernel
theorem dL_law_384 : decode cL_law 384 = .ok (.iaload, 1) := by decide +kernel
theorem dL_law_385 : decode cL_law 385 = .ok (.aload_n 0, 1) := by decide +kernel
theorem dL_law_386 : decode cL_law 386 = .ok (.iload_n 3, 1) := by decide +kernel
theorem dL_law_387 : decode cL_law 387 = .ok (.iconst 3, 1) := by decide +kernel
theorem dL_law_388 : decode cL_law 388 = .ok (.iadd, 1) := by decide +kernel
theorem dL_law_389 : decode cL_law 389 = .ok (.iaload, 1) := by decide +kernel
theorem dL_law_390 : decode cL_law 390 = .ok (.invokevirtual 49, 3) := by decide +kernel
theorem dL_law_393 : decode cL_law 393 = .ok (.if_icmp .eq 223, 3) := by decide +kernel
theorem dL_law_396 : decode cL_law 396 = .ok (.iconst 0, 1) := by decide +kernel
theorem dL_law_397 : decode cL_law 397 = .ok (.ireturn, 1) := by decide +kernel
theorem dL_law_398 : decode cL_law 398 = .ok (.aload_n 1, 1) := by decide +kernel
theorem dL_law_399 : decode cL_law 399 = .ok (.aload_n 0, 1) := by decide +kernel
theorem dL_law_400 : decode cL_law 400 = .ok (.iload_n 3, 1) := by decide +kernel
theorem dL_law_401 : decode cL_law 401 = .ok (.iconst 1, 1) := by decide +kernel
theorem dL_law_402 : decode cL_law 402 = .ok (.iadd, 1) := by decide +kernel
theorem dL_law_403 : decode cL_law 403 = .ok (.iaload, 1) := by decide +kernel
theorem dL_law_404 : decode cL_law 404 = .ok (.aload_n 0, 1) := by decide +kernel
theorem dL_law_405 : decode cL_law 405 = .ok (.iload_n 3, 1) := by decide +kernel
theorem dL_law_406 : decode cL_law 406 = .ok (.iconst 2, 1) := by decide +kernel
theorem dL_law_407 : decode cL_law 407 = .ok (.iadd, 1) := by decide +kernel
theorem dL_law_408 : decode cL_law 408 = .ok (.iaload, 1) := by decide +kernel
theorem dL_law_409 : decode cL_law 409 = .ok (.aload_n 0, 1) := by decide +kernel
theorem dL_law_410 : decode cL_law 410 = .ok (.iload_n 3, 1) := by decide +kernel
theorem dL_law_411 : decode cL_law 411 = .ok (.iconst 3, 1) := by decide +kernel
theorem dL_law_412 : decode cL_law 412 = .ok (.iadd, 1) := by decide +kernel
theorem dL_law_413 : decode cL_law 413 = .ok (.iaload, 1) := by decide +kernel
theorem dL_law_414 : decode cL_law 414 = .ok (.aload_n 0, 1) := by decide +kernel
theorem dL_law_415 : decode cL_law 415 = .ok (.iload_n 3, 1) := by decide +kernel
theorem dL_law_416 : decode cL_law 416 = .ok (.iconst 4, 1) := by decide +kernel
theorem dL_law_417 : decode cL_law 417 = .ok (.iadd, 1) := by decide +kernel
theorem dL_law_418 : decode cL_law 418 = .ok (.iaload, 1) := by decide +kernel
theorem dL_law_419 : decode cL_law 419 = .ok (.aload_n 0, 1) := by decide +kernel
theorem dL_law_420 : decode cL_law 420 = .ok (.iload_n 3, 1) := by decide +kernel
theorem dL_law_421 : decode cL_law 421 = .ok (.iconst 5, 1) := by decide +kernel
theorem dL_law_422 : decode cL_law 422 = .ok (.iadd, 1) := by decide +kernel
theorem dL_law_423 : decode cL_law 423 = .ok (.iaload, 1) := by decide +kernel
theorem dL_law_424 : decode cL_law 424 = .ok (.invokevirtual 50, 3) := by decide +kernel
theorem dL_law_427 : decode cL_law 427 = .ok (.aload_n 2, 1) := by decide +kernel
theorem dL_law_428 : decode cL_law 428 = .ok (.aload_n 0, 1) := by decide +kernel
theorem dL_law_429 : decode cL_law 429 = .ok (.iload_n 3, 1) := by decide +kernel
theorem dL_law_430 : decode cL_law 430 = .ok (.iconst 1, 1) := by decide +kernel
theorem dL_law_431 : decode cL_law 431 = .ok (.iadd, 1) := by decide +kernel
theorem dL_law_432 : decode cL_law 432 = .ok (.iaload, 1) := by decide +kernel
theorem dL_law_433 : decode cL_law 433 = .ok (.aload_n 0, 1) := by decide +kernel
theorem dL_law_434 : decode cL_law 434 = .ok (.iload_n 3, 1) := by decide +kernel
theorem dL_law_435 : decode cL_law 435 = .ok (.iconst 2, 1) := by decide +kernel
theorem dL_law_436 : decode cL_law 436 = .ok (.iadd, 1) := by decide +kernel
theorem dL_law_437 : decode cL_law 437 = .ok (.iaload, 1) := by decide +kernel
theorem dL_law_438 : decode cL_law 438 = .ok (.aload_n 0, 1) := by decide +kernel
theorem dL_law_439 : decode cL_law 439 = .ok (.iload_n 3, 1) := by decide +kernel
theorem dL_law_440 : decode cL_law 440 = .ok (.iconst 3, 1) := by decide +kernel
theorem dL_law_441 : decode cL_law 441 = .ok (.iadd, 1) := by decide +kernel
theorem dL_law_442 : decode cL_law 442 = .ok (.iaload, 1) := by decide +kernel
theorem dL_law_443 : decode cL_law 443 = .ok (.aload_n 0, 1) := by decide +kernel
theorem dL_law_444 : decode cL_law 444 = .ok (.iload_n 3, 1) := by decide +kernel
theorem dL_law_445 : decode cL_law 445 = .ok (.iconst 4, 1) := by decide +kernel
theorem dL_law_446 : decode cL_law 446 = .ok (.iadd, 1) := by decide +kernel
theorem dL_law_447 : decode cL_law 447 = .ok (.iaload, 1) := by decide +kernel
theorem dL_law_448 : decode cL_law 448 = .ok (.aload_n 0, 1) := by decide +kernel
theorem dL_law_449 : decode cL_law 449 = .ok (.iload_n 3, 1) := by decide +kernel
theorem dL_law_450 : decode cL_law 450 = .ok (.iconst 5, 1) := by decide +kernel
theorem dL_law_451 : decode cL_law 451 = .ok (.iadd, 1) := by decide +kernel
theorem dL_law_452 : decode cL_law 452 = .ok (.iaload, 1) := by decide +kernel
theorem dL_law_453 : decode cL_law 453 = .ok (.invokevirtual 53, 3) := by decide +kernel
theorem dL_law_456 : decode cL_law 456 = .ok (.if_icmp .eq 160, 3) := by decide +kernel
theorem dL_law_459 : decode cL_law 459 = .ok (.iconst 0, 1) := by decide +kernel
theorem dL_law_460 : decode cL_law 460 = .ok (.ireturn, 1) := by decide +kernel
theorem dL_law_461 : decode cL_law 461 = .ok (.aload_n 1, 1) := by decide +kernel
theorem dL_law_462 : decode cL_law 462 = .ok (.aload_n 0, 1) := by decide +kernel
theorem dL_law_463 : decode cL_law 463 = .ok (.iload_n 3, 1) := by decide +kernel
theorem dL_law_464 : decode cL_law 464 = .ok (.iconst 1, 1) := by decide +kernel
theorem dL_law_465 : decode cL_law 465 = .ok (.iadd, 1) := by decide +kernel
theorem dL_law_466 : decode cL_law 466 = .ok (.iaload, 1) := by decide +kernel
theorem dL_law_467 : decode cL_law 467 = .ok (.aload_n 0, 1) := by decide +kernel
theorem dL_law_468 : decode cL_law 468 = .ok (.iload_n 3, 1) := by decide +kernel
theorem dL_law_469 : decode cL_law 469 = .ok (.iconst 2, 1) := by decide +kernel
theorem dL_law_470 : decode cL_law 470 = .ok (.iadd, 1) := by decide +kernel
theorem dL_law_471 : decode cL_law 471 = .ok (.iaload, 1) := by decide +kernel
theorem dL_law_472 : decode cL_law 472 = .ok (.invokevirtual 54, 3) := by decide +kernel
theorem dL_law_475 : decode cL_law 475 = .ok (.aload_n 2, 1) := by decide +kernel
theorem dL_law_476 : decode cL_law 476 = .ok (.aload_n 0, 1) := by decide +kernel
theorem dL_law_477 : decode cL_law 477 = .ok (.iload_n 3, 1) := by decide +kernel
theorem dL_law_478 : decode cL_law 478 = .ok (.iconst 1, 1) := by decide +kernel
theorem dL_law_479 : decode cL_law 479 = .ok (.iadd, 1) := by decide +kernel
theorem dL_law_480 : decode cL_law 480 = .ok (.iaload, 1) := by decide +kernel
theorem dL_law_481 : decode cL_law 481 = .ok (.aload_n 0, 1) := by decide +kernel
theorem dL_law_482 : decode cL_law 482 = .ok (.iload_n 3, 1) := by decide +kernel
theorem dL_law_483 : decode cL_law 483 = .ok (.iconst 2, 1) := by decide +kernel
theorem dL_law_484 : decode cL_law 484 = .ok (.iadd, 1) := by decide +kernel
theorem dL_law_485 : decode cL_law 485 = .ok (.iaload, 1) := by decide +kernel
theorem dL_law_486 : decode cL_law 486 = .ok (.invokevirtual 58, 3) := by decide +kernel
theorem dL_law_489 : decode cL_law 489 = .ok (.if_icmp .eq 127, 3) := by decide +kernel
theorem dL_law_492 : decode cL_law 492 = .ok (.iconst 0, 1) := by decide +kernel
theorem dL_law_493 : decode cL_law 493 = .ok (.ireturn, 1) := by decide +kernel
theorem dL_law_494 : decode cL_law 494 = .ok (.aload_n 1, 1) := by decide +kernel
theorem dL_law_495 : decode cL_law 495 = .ok (.aload_n 0, 1) := by decide +kernel
theorem dL_law_496 : decode cL_law 496 = .ok (.iload_n 3, 1) := by decide +kernel
theorem dL_law_497 : decode cL_law 497 = .ok (.iconst 1, 1) := by decide +kernel
theorem dL_law_498 : decode cL_law 498 = .ok (.iadd, 1) := by decide +kernel
theorem dL_law_499 : decode cL_law 499 = .ok (.iaload, 1) := by decide +kernel
theorem dL_law_500 : decode cL_law 500 = .ok (.aload_n 0, 1) := by decide +kernel
theorem dL_law_501 : decode cL_law 501 = .ok (.iload_n 3, 1) := by decide +kernel
theorem dL_law_502 : decode cL_law 502 = .ok (.iconst 2, 1) := by decide +kernel
theorem dL_law_503 : decode cL_law 503 = .ok (.iadd, 1) := by decide +kernel
theorem dL_law_504 : decode cL_law 504 = .ok (.iaload, 1) := by decide +kernel
theorem dL_law_505 : decode cL_law 505 = .ok (.aload_n 0, 1) := by decide +kernel
theorem dL_law_506 : decode cL_law 506 = .ok (.iload_n 3, 1) := by decide +kernel
theorem dL_law_507 : decode cL_law 507 = .ok (.iconst 3, 1) := by decide +kernel
theorem dL_law_508 : decode cL_law 508 = .ok (.iadd, 1) := by decide +kernel
theorem dL_law_509 : decode cL_law 509 = .ok (.iaload, 1) := by decide +kernel
theorem dL_law_510 : decode cL_law 510 = .ok (.invokevirtual 59, 3) := by decide +kernel
theorem dL_law_513 : decode cL_law 513 = .ok (.aload_n 2, 1) := by decide +kernel
theorem dL_law_514 : decode cL_law 514 = .ok (.aload_n 0, 1) := by decide +kernel
theorem dL_law_515 : decode cL_law 515 = .ok (.iload_n 3, 1) := by decide +kernel
theorem dL_law_516 : decode cL_law 516 = .ok (.iconst 1, 1) := by decide +kernel
theorem dL_law_517 : decode cL_law 517 = .ok (.iadd, 1) := by decide +kernel
theorem dL_law_518 : decode cL_law 518 = .ok (.iaload, 1) := by decide +kernel
theorem dL_law_519 : decode cL_law 519 = .ok (.aload_n 0, 1) := by decide +kernel
theorem dL_law_520 : decode cL_law 520 = .ok (.iload_n 3, 1) := by decide +kernel
theorem dL_law_521 : decode cL_law 521 = .ok (.iconst 2, 1) := by decide +kernel
theorem dL_law_522 : decode cL_law 522 = .ok (.iadd, 1) := by decide +kernel
theorem dL_law_523 : decode cL_law 523 = .ok (.iaload, 1) := by decide +kernel
theorem dL_law_524 : decode cL_law 524 = .ok (.aload_n 0, 1) := by decide +kernel
theorem dL_law_525 : decode cL_law 525 = .ok (.iload_n 3, 1) := by decide +kernel
theorem dL_law_526 : decode cL_law 526 = .ok (.iconst 3, 1) := by decide +kernel
theorem dL_law_527 : decode cL_law 527 = .ok (.iadd, 1) := by decide +kernel
theorem dL_law_528 : decode cL_law 528 = .ok (.iaload, 1) := by decide +kernel
theorem dL_law_529 : decode cL_law 529 = .ok (.invokevirtual 62, 3) := by decide +kernel
theorem dL_law_532 : decode cL_law 532 = .ok (.if_icmp .eq 84, 3) := by decide +kernel
theorem dL_law_535 : decode cL_law 535 = .ok (.iconst 0, 1) := by decide +kernel
theorem dL_law_536 : decode cL_law 536 = .ok (.ireturn, 1) := by decide +kernel
theorem dL_law_537 : decode cL_law 537 = .ok (.aload_n 1, 1) := by decide +kernel
theorem dL_law_538 : decode cL_law 538 = .ok (.aload_n 0, 1) := by decide +kernel
theorem dL_law_539 : decode cL_law 539 = .ok (.iload_n 3, 1) := by decide +kernel
theorem dL_law_540 : decode cL_law 540 = .ok (.iconst 1, 1) := by decide +kernel
theorem dL_law_541 : decode cL_law 541 = .ok (.iadd, 1) := by decide +kernel
theorem dL_law_542 : decode cL_law 542 = .ok (.iaload, 1) := by decide +kernel
theorem dL_law_543 : decode cL_law 543 = .ok (.aload_n 0, 1) := by decide +kernel
theorem dL_law_544 : decode cL_law 544 = .ok (.iload_n 3, 1) := by decide +kernel
theorem dL_law_545 : decode cL_law 545 = .ok (.iconst 2, 1) := by decide +kernel
theorem dL_law_546 : decode cL_law 546 = .ok (.iadd, 1) := by decide +kernel
theorem dL_law_547 : decode cL_law 547 = .ok (.iaload, 1) := by decide +kernel
theorem dL_law_548 : decode cL_law 548 = .ok (.aload_n 0, 1) := by decide +kernel
theorem dL_law_549 : decode cL_law 549 = .ok (.iload_n 3, 1) := by decide +kernel
theorem dL_law_550 : decode cL_law 550 = .ok (.iconst 3, 1) := by decide +kernel
theorem dL_law_551 : decode cL_law 551 = .ok (.iadd, 1) := by decide +kernel
theorem dL_law_552 : decode cL_law 552 = .ok (.iaload, 1) := by decide +kernel
theorem dL_law_553 : decode cL_law 553 = .ok (.invokevirtual 63, 3) := by decide +kernel
theorem dL_law_556 : decode cL_law 556 = .ok (.aload_n 2, 1) := by decide +kernel
theorem dL_law_557 : decode cL_law 557 = .ok (.aload_n 0, 1) := by decide +kernel
theorem dL_law_558 : decode cL_law 558 = .ok (.iload_n 3, 1) := by decide +kernel
theorem dL_law_559 : decode cL_law 559 = .ok (.iconst 1, 1) := by decide +kernel
theorem dL_law_560 : decode cL_law 560 = .ok (.iadd, 1) := by decide +kernel
theorem dL_law_561 : decode cL_law 561 = .ok (.iaload, 1) := by decide +kernel
theorem dL_law_562 : decode cL_law 562 = .ok (.aload_n 0, 1) := by decide +kernel
theorem dL_law_563 : decode cL_law 563 = .ok (.iload_n 3, 1) := by decide +kernel
theorem dL_law_564 : decode cL_law 564 = .ok (.iconst 2, 1) := by decide +kernel
theorem dL_law_565 : decode cL_law 565 = .ok (.iadd, 1) := by decide +kernel
theorem dL_law_566 : decode cL_law 566 = .ok (.iaload, 1) := by decide +kernel
theorem dL_law_567 : decode cL_law 567 = .ok (.aload_n 0, 1) := by decide +kernel
theorem dL_law_568 : decode cL_law 568 = .ok (.iload_n 3, 1) := by decide +kernel
theorem dL_law_569 : decode cL_law 569 = .ok (.iconst 3, 1) := by decide +kernel
theorem dL_law_570 : decode cL_law 570 = .ok (.iadd, 1) := by decide +kernel
theorem dL_law_571 : decode cL_law 571 = .ok (.iaload, 1) := by decide +kernel
theorem dL_law_572 : decode cL_law 572 = .ok (.invokevirtual 66, 3) := by decide +kernel
theorem dL_law_575 : decode cL_law 575 = .ok (.if_icmp .eq 41, 3) := by decide +kernel
theorem dL_law_578 : decode cL_law 578 = .ok (.iconst 0, 1) := by decide +kernel
theorem dL_law_579 : decode cL_law 579 = .ok (.ireturn, 1) := by decide +kernel
theorem dL_law_580 : decode cL_law 580 = .ok (.aload_n 1, 1) := by decide +kernel
theorem dL_law_581 : decode cL_law 581 = .ok (.invokevirtual 67, 3) := by decide +kernel
theorem dL_law_584 : decode cL_law 584 = .ok (.aload_n 2, 1) := by decide +kernel
theorem dL_law_585 : decode cL_law 585 = .ok (.invokevirtual 70, 3) := by decide +kernel
theorem dL_law_588 : decode cL_law 588 = .ok (.if_icmp .eq 28, 3) := by decide +kernel
theorem dL_law_591 : decode cL_law 591 = .ok (.iconst 0, 1) := by decide +kernel
theorem dL_law_592 : decode cL_law 592 = .ok (.ireturn, 1) := by decide +kernel
theorem dL_law_593 : decode cL_law 593 = .ok (.aload_n 1, 1) := by decide +kernel
theorem dL_law_594 : decode cL_law 594 = .ok (.aload_n 0, 1) := by decide +kernel
theorem dL_law_595 : decode cL_law 595 = .ok (.iload_n 3, 1) := by decide +kernel
theorem dL_law_596 : decode cL_law 596 = .ok (.iconst 1, 1) := by decide +kernel
theorem dL_law_597 : decode cL_law 597 = .ok (.iadd, 1) := by decide +kernel
theorem dL_law_598 : decode cL_law 598 = .ok (.iaload, 1) := by decide +kernel
theorem dL_law_599 : decode cL_law 599 = .ok (.invokevirtual 71, 3) := by decide +kernel
theorem dL_law_602 : decode cL_law 602 = .ok (.aload_n 2, 1) := by decide +kernel
theorem dL_law_603 : decode cL_law 603 = .ok (.aload_n 0, 1) := by decide +kernel
theorem dL_law_604 : decode cL_law 604 = .ok (.iload_n 3, 1) := by decide +kernel
theorem dL_law_605 : decode cL_law 605 = .ok (.iconst 1, 1) := by decide +kernel
theorem dL_law_606 : decode cL_law 606 = .ok (.iadd, 1) := by decide +kernel
theorem dL_law_607 : decode cL_law 607 = .ok (.iaload, 1) := by decide +kernel
theorem dL_law_608 : decode cL_law 608 = .ok (.invokevirtual 74, 3) := by decide +kernel
theorem dL_law_611 : decode cL_law 611 = .ok (.if_icmp .eq 5, 3) := by decide +kernel
theorem dL_law_614 : decode cL_law 614 = .ok (.iconst 0, 1) := by decide +kernel
theorem dL_law_615 : decode cL_law 615 = .ok (.ireturn, 1) := by decide +kernel
theorem dL_law_616 : decode cL_law 616 = .ok (.iinc 3 6, 3) := by decide +kernel
theorem dL_law_619 : decode cL_law 619 = .ok (.goto (-601), 3) := by decide +kernel
theorem dL_law_622 : decode cL_law 622 = .ok (.iconst 1, 1) := by decide +kernel
theorem dL_law_623 : decode cL_law 623 = .ok (.ireturn, 1) := by decide +kernel
end
section
def RY : String := "FamilyProbesModel"
def TY : u_T := fun k => match k with
  | 0 => ("FamilyProbesModel", "kind", "[I", true)
  | 1 => ("FamilyProbesModel", "n", "[I", true)
  | 2 => ("FamilyProbesModel", "inner", "[I", true)
  | 3 => ("FamilyProbesModel", "things", "I", false)
  | 4 => ("FamilyProbesModel", "slot", "[I", true)
  | 5 => ("FamilyProbesModel", "row", "[I", true)
  | 6 => ("FamilyProbesModel", "third", "[I", true)
  | 7 => ("FamilyProbesModel", "types", "[I", true)
  | 8 => ("FamilyProbesModel", "members", "[I", true)
  | 9 => ("FamilyProbesModel", "shadowCalls", "I", false)
  | 10 => ("FamilyProbesModel", "value", "I", false)
  | 11 => ("FamilyProbesModel", "event", "[I", true)
  | _ => ("FamilyProbesModel", "events", "I", false)
def tyY : Nat → FieldType := fun k => match k with
  | 0 => .array .int
  | 1 => .array .int
  | 2 => .array .int
  | 3 => .int
  | 4 => .array .int
  | 5 => .array .int
  | 6 => .array .int
  | 7 => .array .int
  | 8 => .array .int
  | 9 => .int
  | 10 => .int
  | 11 => .array .int
  | _ => .int
theorem nmY : ∀ a, a < 13 → ∀ b, b < 13 → a ≠ b → (TY a).2.1 ≠ (TY b).2.1 := by decide +kernel
theorem tyY_ok : ∀ k, k < 13 → parseFieldDescriptor (TY k).2.2.1 = some (tyY k) := by decide +kernel
abbrev vwCl : List vw_C := [(RX0, TX0, 6), (RX1, TX1, 9), (RY, TY, 13)]
/-- all words of the tables that stay -/
def yAll : List Cond := lw_tbl.filter goodWord
theorem yIn {i : Nat} {w : Cond} (h : lw_tbl[i]? = some w) (g : goodWord w = true) : w ∈ yAll := List.mem_filter.mpr ⟨List.mem_of_getElem? h, g⟩
abbrev cY_init : ByteArray := prog_4_method_1_code
def yY_init : MethodName := ⟨RY, "<init>", "()V"⟩
abbrev wY_init : List Cond := .code yY_init cY_init 2 (Option.none : Option Jvm.ClassFile.FieldType) :: yAll
abbrev cY_bits : ByteArray := prog_4_method_2_code
def yY_bits : MethodName := ⟨RY, "bits", "(IIII)I"⟩
abbrev wY_bits : List Cond := .code yY_bits cY_bits 4 (Option.some Jvm.ClassFile.FieldType.int) :: yAll
abbrev cY_make : ByteArray := prog_4_method_7_code
def yY_make : MethodName := ⟨RY, "make", "(III)I"⟩
abbrev wY_make : List Cond := .code yY_make cY_make 5 (Option.some Jvm.ClassFile.FieldType.int) :: yAll
abbrev cY_inn : ByteArray := prog_4_method_3_code
def yY_inn : MethodName := ⟨RY, "in", "(III)Z"⟩
abbrev wY_inn : List Cond := .code yY_inn cY_inn 3 (Option.some Jvm.ClassFile.FieldType.boolean) :: yAll
abbrev cY_depth : ByteArray := prog_4_method_6_code
def yY_depth : MethodName := ⟨RY, "depth", "(I)I"⟩
abbrev wY_depth : List Cond := .code yY_depth cY_depth 4 (Option.some Jvm.ClassFile.FieldType.int) :: yAll
abbrev cY_note : ByteArray := prog_4_method_4_code
def yY_note : MethodName := ⟨RY, "note", "(I)V"⟩
abbrev wY_note : List Cond := .code yY_note cY_note 3 (Option.none : Option Jvm.ClassFile.FieldType) :: yAll
abbrev cY_of : ByteArray := prog_4_method_5_code
def yY_of : MethodName := ⟨RY, "of", "(II)Z"⟩
abbrev wY_of : List Cond := .code yY_of cY_of 3 (Option.some Jvm.ClassFile.FieldType.boolean) :: yAll
abbrev cY_seed : ByteArray := prog_4_method_13_code
def yY_seed : MethodName := ⟨RY, "seed", "(I)I"⟩
abbrev wY_seed : List Cond := .code yY_seed cY_seed 2 (Option.some Jvm.ClassFile.FieldType.int) :: yAll
abbrev cY_drop : ByteArray := prog_4_method_8_code
def yY_drop : MethodName := ⟨RY, "drop", "(I)I"⟩
abbrev wY_drop : List Cond := .code yY_drop cY_drop 3 (Option.some Jvm.ClassFile.FieldType.int) :: yAll
abbrev cY_probe : ByteArray := prog_4_method_15_code
def yY_probe : MethodName := ⟨RY, "probe", "(IIIII)I"⟩
abbrev wY_probe : List Cond := .code yY_probe cY_probe 7 (Option.some Jvm.ClassFile.FieldType.int) :: yAll
abbrev cY_answer : ByteArray := prog_4_method_14_code
def yY_answer : MethodName := ⟨RY, "answer", "(IIII)I"⟩
abbrev wY_answer : List Cond := .code yY_answer cY_answer 5 (Option.some Jvm.ClassFile.FieldType.int) :: yAll
abbrev cY_call : ByteArray := prog_4_method_9_code
def yY_call : MethodName := ⟨RY, "call", "(II)I"⟩
abbrev wY_call : List Cond := .code yY_call cY_call 4 (Option.some Jvm.ClassFile.FieldType.int) :: yAll
abbrev cY_twice : ByteArray := prog_4_method_10_code
def yY_twice : MethodName := ⟨RY, "twice", "(II)I"⟩
abbrev wY_twice : List Cond := .code yY_twice cY_twice 4 (Option.some Jvm.ClassFile.FieldType.int) :: yAll
abbrev cY_volume : ByteArray := prog_4_method_11_code
def yY_volume : MethodName := ⟨RY, "volume", "(II)I"⟩
abbrev wY_volume : List Cond := .code yY_volume cY_volume 4 (Option.some Jvm.ClassFile.FieldType.int) :: yAll
abbrev cY_weight : ByteArray := prog_4_method_12_code
def yY_weight : MethodName := ⟨RY, "weight", "(I)I"⟩
abbrev wY_weight : List Cond := .code yY_weight cY_weight 2 (Option.some Jvm.ClassFile.FieldType.int) :: yAll
abbrev cY_value : ByteArray := prog_4_method_16_code
def yY_value : MethodName := ⟨RY, "value", "()I"⟩
abbrev wY_value : List Cond := .code yY_value cY_value 1 (Option.some Jvm.ClassFile.FieldType.int) :: yAll
abbrev cY_is_ : ByteArray := prog_4_method_17_code
def yY_is_ : MethodName := ⟨RY, "is", "(II)Z"⟩
abbrev wY_is_ : List Cond := .code yY_is_ cY_is_ 3 (Option.some Jvm.ClassFile.FieldType.boolean) :: yAll
abbrev cY_same : ByteArray := prog_4_method_18_code
def yY_same : MethodName := ⟨RY, "same", "(II)Z"⟩
abbrev wY_same : List Cond := .code yY_same cY_same 3 (Option.some Jvm.ClassFile.FieldType.boolean) :: yAll
abbrev cY_store : ByteArray := prog_4_method_20_code
def yY_store : MethodName := ⟨RY, "store", "(III)I"⟩
abbrev wY_store : List Cond := .code yY_store cY_store 4 (Option.some Jvm.ClassFile.FieldType.int) :: yAll
abbrev cY_fits : ByteArray := prog_4_method_19_code
def yY_fits : MethodName := ⟨RY, "fits", "(II)Z"⟩
abbrev wY_fits : List Cond := .code yY_fits cY_fits 3 (Option.some Jvm.ClassFile.FieldType.boolean) :: yAll
abbrev cY_load : ByteArray := prog_4_method_21_code
def yY_load : MethodName := ⟨RY, "load", "(III)I"⟩
abbrev wY_load : List Cond := .code yY_load cY_load 4 (Option.some Jvm.ClassFile.FieldType.int) :: yAll
abbrev cY_copy : ByteArray := prog_4_method_22_code
def yY_copy : MethodName := ⟨RY, "copy", "(IIIII)I"⟩
abbrev wY_copy : List Cond := .code yY_copy cY_copy 7 (Option.some Jvm.ClassFile.FieldType.int) :: yAll
abbrev cY_compare : ByteArray := prog_4_method_23_code
def yY_compare : MethodName := ⟨RY, "compare", "(II)I"⟩
abbrev wY_compare : List Cond := .code yY_compare cY_compare 5 (Option.some Jvm.ClassFile.FieldType.int) :: yAll
abbrev cY_flow : ByteArray := prog_4_method_27_code
def yY_flow : MethodName := ⟨RY, "flow", "(III)I"⟩
abbrev wY_flow : List Cond := .code yY_flow cY_flow 4 (Option.some Jvm.ClassFile.FieldType.int) :: yAll
abbrev cY_given : ByteArray := prog_4_method_24_code
def yY_given : MethodName := ⟨RY, "given", "(I)I"⟩
abbrev wY_given : List Cond := .code yY_given cY_given 2 (Option.some Jvm.ClassFile.FieldType.int) :: yAll
abbrev cY_turns : ByteArray := prog_4_method_25_code
def yY_turns : MethodName := ⟨RY, "turns", "(II)I"⟩
abbrev wY_turns : List Cond := .code yY_turns cY_turns 7 (Option.some Jvm.ClassFile.FieldType.int) :: yAll
abbrev cY_closings : ByteArray := prog_4_method_26_code
def yY_closings : MethodName := ⟨RY, "closings", "(II)I"⟩
abbrev wY_closings : List Cond := .code yY_closings cY_closings 6 (Option.some Jvm.ClassFile.FieldType.int) :: yAll
abbrev cY_number : ByteArray := prog_4_method_32_code
def yY_number : MethodName := ⟨RY, "number", "(III)I"⟩
abbrev wY_number : List Cond := .code yY_number cY_number 4 (Option.some Jvm.ClassFile.FieldType.int) :: yAll
abbrev cY_rounded : ByteArray := prog_4_method_28_code
def yY_rounded : MethodName := ⟨RY, "rounded", "(I)J"⟩
abbrev wY_rounded : List Cond := .code yY_rounded cY_rounded 9 (Option.some Jvm.ClassFile.FieldType.long) :: yAll
abbrev cY_held : ByteArray := prog_4_method_29_code
def yY_held : MethodName := ⟨RY, "held", "(J)I"⟩
abbrev wY_held : List Cond := .code yY_held cY_held 2 (Option.some Jvm.ClassFile.FieldType.int) :: yAll
abbrev cY_quotient : ByteArray := prog_4_method_30_code
def yY_quotient : MethodName := ⟨RY, "quotient", "(II)I"⟩
abbrev wY_quotient : List Cond := .code yY_quotient cY_quotient 2 (Option.some Jvm.ClassFile.FieldType.int) :: yAll
abbrev cY_decimals : ByteArray := prog_4_method_31_code
def yY_decimals : MethodName := ⟨RY, "decimals", "(I)I"⟩
abbrev wY_decimals : List Cond := .code yY_decimals cY_decimals 4 (Option.some Jvm.ClassFile.FieldType.int) :: yAll
abbrev cY_events : ByteArray := prog_4_method_33_code
def yY_events : MethodName := ⟨RY, "events", "()I"⟩
abbrev wY_events : List Cond := .code yY_events cY_events 1 (Option.some Jvm.ClassFile.FieldType.int) :: yAll
abbrev cY_event : ByteArray := prog_4_method_34_code
def yY_event : MethodName := ⟨RY, "event", "(I)I"⟩
abbrev wY_event : List Cond := .code yY_event cY_event 2 (Option.some Jvm.ClassFile.FieldType.int) :: yAll
set_option maxRecDepth 100000 in
theorem yini : .initialized RY ∈ yAll := yIn (i := 31) rfl rfl
set_option maxRecDepth 100000 in
theorem ymobj : .instanceMethod objectInit ∈ yAll := yIn (i := 38) rfl rfl
set_option maxRecDepth 100000 in
theorem ycobj : .code objectInit ⟨#[0xb1]⟩ 1 none ∈ yAll := yIn (i := 39) rfl rfl
set_option maxRecDepth 100000 in
theorem yarr : .arrayClass .int ∈ yAll := yIn (i := 98) rfl rfl
set_option maxRecDepth 100000 in
theorem ylcl : .classLink RL 10 RY ∈ yAll := yIn (i := 275) rfl rfl
set_option maxRecDepth 100000 in
theorem yinst : .instantiable RY 13 ∈ yAll := yIn (i := 276) rfl rfl
set_option maxRecDepth 100000 in
theorem ylL_12 : .methodLink RL 12 yY_init ∈ yAll := yIn (i := 277) rfl rfl
set_option maxRecDepth 100000 in
theorem ym_init : .instanceMethod yY_init ∈ yAll := yIn (i := 278) rfl rfl
set_option maxRecDepth 100000 in
theorem yc_init : .code yY_init cY_init 2 (Option.none : Option Jvm.ClassFile.FieldType) ∈ yAll := yIn (i := 279) rfl rfl
set_option maxRecDepth 100000 in
theorem ylobj : .methodLink RY 1 objectInit ∈ yAll := yIn (i := 280) rfl rfl
set_option maxRecDepth 100000 in
theorem ylY_41 : .methodLink RY 41 yY_bits ∈ yAll := yIn (i := 281) rfl rfl
set_option maxRecDepth 100000 in
theorem ym_bits : .static yY_bits ∈ yAll := yIn (i := 282) rfl rfl
set_option maxRecDepth 100000 in
theorem yc_bits : .code yY_bits cY_bits 4 (Option.some Jvm.ClassFile.FieldType.int) ∈ yAll := yIn (i := 283) rfl rfl
set_option maxRecDepth 100000 in
theorem yf_7 : .fieldLink RY 7 "FamilyProbesModel" "kind" "[I" ∈ yAll := yIn (i := 284) rfl rfl
set_option maxRecDepth 100000 in
theorem yf_13 : .fieldLink RY 13 "FamilyProbesModel" "n" "[I" ∈ yAll := yIn (i := 285) rfl rfl
set_option maxRecDepth 100000 in
theorem yf_16 : .fieldLink RY 16 "FamilyProbesModel" "inner" "[I" ∈ yAll := yIn (i := 286) rfl rfl
set_option maxRecDepth 100000 in
theorem yf_19 : .fieldLink RY 19 "FamilyProbesModel" "things" "I" ∈ yAll := yIn (i := 287) rfl rfl
set_option maxRecDepth 100000 in
theorem yf_23 : .fieldLink RY 23 "FamilyProbesModel" "slot" "[I" ∈ yAll := yIn (i := 288) rfl rfl
set_option maxRecDepth 100000 in
theorem yf_26 : .fieldLink RY 26 "FamilyProbesModel" "row" "[I" ∈ yAll := yIn (i := 289) rfl rfl
set_option maxRecDepth 100000 in
theorem yf_29 : .fieldLink RY 29 "FamilyProbesModel" "third" "[I" ∈ yAll := yIn (i := 290) rfl rfl
set_option maxRecDepth 100000 in
theorem yf_32 : .fieldLink RY 32 "FamilyProbesModel" "types" "[I" ∈ yAll := yIn (i := 291) rfl rfl
set_option maxRecDepth 100000 in
theorem yf_35 : .fieldLink RY 35 "FamilyProbesModel" "members" "[I" ∈ yAll := yIn (i := 292) rfl rfl
set_option maxRecDepth 100000 in
theorem yf_67 : .fieldLink RY 67 "FamilyProbesModel" "shadowCalls" "I" ∈ yAll := yIn (i := 293) rfl rfl
set_option maxRecDepth 100000 in
theorem yf_86 : .fieldLink RY 86 "FamilyProbesModel" "value" "I" ∈ yAll := yIn (i := 294) rfl rfl
set_option maxRecDepth 100000 in
theorem yf_38 : .fieldLink RY 38 "FamilyProbesModel" "event" "[I" ∈ yAll := yIn (i := 295) rfl rfl
set_option maxRecDepth 100000 in
theorem yf_45 : .fieldLink RY 45 "FamilyProbesModel" "events" "I" ∈ yAll := yIn (i := 296) rfl rfl
set_option maxRecDepth 100000 in
theorem yy_kind : .laysFinal RY "FamilyProbesModel" "kind" "[I" ∈ yAll := yIn (i := 297) rfl rfl
set_option maxRecDepth 100000 in
theorem yy_n : .laysFinal RY "FamilyProbesModel" "n" "[I" ∈ yAll := yIn (i := 299) rfl rfl
set_option maxRecDepth 100000 in
theorem yy_inner : .laysFinal RY "FamilyProbesModel" "inner" "[I" ∈ yAll := yIn (i := 301) rfl rfl
set_option maxRecDepth 100000 in
theorem yy_things : .lays RY "FamilyProbesModel" "things" "I" ∈ yAll := yIn (i := 303) rfl rfl
set_option maxRecDepth 100000 in
theorem yy_slot : .laysFinal RY "FamilyProbesModel" "slot" "[I" ∈ yAll := yIn (i := 305) rfl rfl
set_option maxRecDepth 100000 in
theorem yy_row : .laysFinal RY "FamilyProbesModel" "row" "[I" ∈ yAll := yIn (i := 307) rfl rfl
set_option maxRecDepth 100000 in
theorem yy_third : .laysFinal RY "FamilyProbesModel" "third" "[I" ∈ yAll := yIn (i := 309) rfl rfl
set_option maxRecDepth 100000 in
theorem yy_types : .laysFinal RY "FamilyProbesModel" "types" "[I" ∈ yAll := yIn (i := 311) rfl rfl
set_option maxRecDepth 100000 in
theorem yy_members : .laysFinal RY "FamilyProbesModel" "members" "[I" ∈ yAll := yIn (i := 313) rfl rfl
set_option maxRecDepth 100000 in
theorem yy_shadowCalls : .lays RY "FamilyProbesModel" "shadowCalls" "I" ∈ yAll := yIn (i := 315) rfl rfl
set_option maxRecDepth 100000 in
theorem yy_value : .lays RY "FamilyProbesModel" "value" "I" ∈ yAll := yIn (i := 317) rfl rfl
set_option maxRecDepth 100000 in
theorem yy_event : .laysFinal RY "FamilyProbesModel" "event" "[I" ∈ yAll := yIn (i := 319) rfl rfl
set_option maxRecDepth 100000 in
theorem yy_events : .lays RY "FamilyProbesModel" "events" "I" ∈ yAll := yIn (i := 321) rfl rfl
set_option maxRecDepth 100000 in
theorem ylL_17 : .methodLink RL 17 yY_make ∈ yAll := yIn (i := 324) rfl rfl
set_option maxRecDepth 100000 in
theorem ym_make : .instanceMethod yY_make ∈ yAll := yIn (i := 325) rfl rfl
set_option maxRecDepth 100000 in
theorem ys_make : .selects RY yY_make yY_make ∈ yAll := yIn (i := 326) rfl rfl
set_option maxRecDepth 100000 in
theorem yc_make : .code yY_make cY_make 5 (Option.some Jvm.ClassFile.FieldType.int) ∈ yAll := yIn (i := 327) rfl rfl
set_option maxRecDepth 100000 in
theorem ylY_48 : .methodLink RY 48 yY_inn ∈ yAll := yIn (i := 328) rfl rfl
set_option maxRecDepth 100000 in
theorem ym_inn : .static yY_inn ∈ yAll := yIn (i := 329) rfl rfl
set_option maxRecDepth 100000 in
theorem yc_inn : .code yY_inn cY_inn 3 (Option.some Jvm.ClassFile.FieldType.boolean) ∈ yAll := yIn (i := 330) rfl rfl
set_option maxRecDepth 100000 in
theorem ylY_52 : .methodLink RY 52 yY_depth ∈ yAll := yIn (i := 331) rfl rfl
set_option maxRecDepth 100000 in
theorem ym_depth : .instanceMethod yY_depth ∈ yAll := yIn (i := 333) rfl rfl
set_option maxRecDepth 100000 in
theorem yc_depth : .code yY_depth cY_depth 4 (Option.some Jvm.ClassFile.FieldType.int) ∈ yAll := yIn (i := 334) rfl rfl
set_option maxRecDepth 100000 in
theorem ylY_56 : .methodLink RY 56 yY_note ∈ yAll := yIn (i := 335) rfl rfl
set_option maxRecDepth 100000 in
theorem ym_note : .instanceMethod yY_note ∈ yAll := yIn (i := 337) rfl rfl
set_option maxRecDepth 100000 in
theorem yc_note : .code yY_note cY_note 3 (Option.none : Option Jvm.ClassFile.FieldType) ∈ yAll := yIn (i := 338) rfl rfl
set_option maxRecDepth 100000 in
theorem ylY_60 : .methodLink RY 60 yY_of ∈ yAll := yIn (i := 339) rfl rfl
set_option maxRecDepth 100000 in
theorem ym_of : .instanceMethod yY_of ∈ yAll := yIn (i := 341) rfl rfl
set_option maxRecDepth 100000 in
theorem yc_of : .code yY_of cY_of 3 (Option.some Jvm.ClassFile.FieldType.boolean) ∈ yAll := yIn (i := 342) rfl rfl
set_option maxRecDepth 100000 in
theorem ylY_64 : .methodLink RY 64 yY_seed ∈ yAll := yIn (i := 343) rfl rfl
set_option maxRecDepth 100000 in
theorem ym_seed : .instanceMethod yY_seed ∈ yAll := yIn (i := 345) rfl rfl
set_option maxRecDepth 100000 in
theorem yc_seed : .code yY_seed cY_seed 2 (Option.some Jvm.ClassFile.FieldType.int) ∈ yAll := yIn (i := 346) rfl rfl
set_option maxRecDepth 100000 in
theorem ylL_22 : .methodLink RL 22 yY_drop ∈ yAll := yIn (i := 347) rfl rfl
set_option maxRecDepth 100000 in
theorem ym_drop : .instanceMethod yY_drop ∈ yAll := yIn (i := 348) rfl rfl
set_option maxRecDepth 100000 in
theorem ys_drop : .selects RY yY_drop yY_drop ∈ yAll := yIn (i := 349) rfl rfl
set_option maxRecDepth 100000 in
theorem yc_drop : .code yY_drop cY_drop 3 (Option.some Jvm.ClassFile.FieldType.int) ∈ yAll := yIn (i := 350) rfl rfl
set_option maxRecDepth 100000 in
theorem ylL_27 : .methodLink RL 27 yY_probe ∈ yAll := yIn (i := 351) rfl rfl
set_option maxRecDepth 100000 in
theorem ym_probe : .instanceMethod yY_probe ∈ yAll := yIn (i := 352) rfl rfl
set_option maxRecDepth 100000 in
theorem ys_probe : .selects RY yY_probe yY_probe ∈ yAll := yIn (i := 353) rfl rfl
set_option maxRecDepth 100000 in
theorem yc_probe : .code yY_probe cY_probe 7 (Option.some Jvm.ClassFile.FieldType.int) ∈ yAll := yIn (i := 354) rfl rfl
set_option maxRecDepth 100000 in
theorem ylY_83 : .methodLink RY 83 yY_answer ∈ yAll := yIn (i := 355) rfl rfl
set_option maxRecDepth 100000 in
theorem ym_answer : .instanceMethod yY_answer ∈ yAll := yIn (i := 357) rfl rfl
set_option maxRecDepth 100000 in
theorem yc_answer : .code yY_answer cY_answer 5 (Option.some Jvm.ClassFile.FieldType.int) ∈ yAll := yIn (i := 358) rfl rfl
set_option maxRecDepth 100000 in
theorem ylY_70 : .methodLink RY 70 yY_call ∈ yAll := yIn (i := 359) rfl rfl
set_option maxRecDepth 100000 in
theorem ym_call : .instanceMethod yY_call ∈ yAll := yIn (i := 361) rfl rfl
set_option maxRecDepth 100000 in
theorem yc_call : .code yY_call cY_call 4 (Option.some Jvm.ClassFile.FieldType.int) ∈ yAll := yIn (i := 362) rfl rfl
set_option maxRecDepth 100000 in
theorem ylY_74 : .methodLink RY 74 yY_twice ∈ yAll := yIn (i := 363) rfl rfl
set_option maxRecDepth 100000 in
theorem ym_twice : .instanceMethod yY_twice ∈ yAll := yIn (i := 365) rfl rfl
set_option maxRecDepth 100000 in
theorem yc_twice : .code yY_twice cY_twice 4 (Option.some Jvm.ClassFile.FieldType.int) ∈ yAll := yIn (i := 366) rfl rfl
set_option maxRecDepth 100000 in
theorem ylY_77 : .methodLink RY 77 yY_volume ∈ yAll := yIn (i := 367) rfl rfl
set_option maxRecDepth 100000 in
theorem ym_volume : .instanceMethod yY_volume ∈ yAll := yIn (i := 369) rfl rfl
set_option maxRecDepth 100000 in
theorem yc_volume : .code yY_volume cY_volume 4 (Option.some Jvm.ClassFile.FieldType.int) ∈ yAll := yIn (i := 370) rfl rfl
set_option maxRecDepth 100000 in
theorem ylY_80 : .methodLink RY 80 yY_weight ∈ yAll := yIn (i := 371) rfl rfl
set_option maxRecDepth 100000 in
theorem ym_weight : .instanceMethod yY_weight ∈ yAll := yIn (i := 373) rfl rfl
set_option maxRecDepth 100000 in
theorem yc_weight : .code yY_weight cY_weight 2 (Option.some Jvm.ClassFile.FieldType.int) ∈ yAll := yIn (i := 374) rfl rfl
set_option maxRecDepth 100000 in
theorem ylL_32 : .methodLink RL 32 yY_value ∈ yAll := yIn (i := 375) rfl rfl
set_option maxRecDepth 100000 in
theorem ym_value : .instanceMethod yY_value ∈ yAll := yIn (i := 376) rfl rfl
set_option maxRecDepth 100000 in
theorem ys_value : .selects RY yY_value yY_value ∈ yAll := yIn (i := 377) rfl rfl
set_option maxRecDepth 100000 in
theorem yc_value : .code yY_value cY_value 1 (Option.some Jvm.ClassFile.FieldType.int) ∈ yAll := yIn (i := 378) rfl rfl
set_option maxRecDepth 100000 in
theorem ylL_37 : .methodLink RL 37 yY_is_ ∈ yAll := yIn (i := 379) rfl rfl
set_option maxRecDepth 100000 in
theorem ym_is_ : .instanceMethod yY_is_ ∈ yAll := yIn (i := 380) rfl rfl
set_option maxRecDepth 100000 in
theorem ys_is_ : .selects RY yY_is_ yY_is_ ∈ yAll := yIn (i := 381) rfl rfl
set_option maxRecDepth 100000 in
theorem yc_is_ : .code yY_is_ cY_is_ 3 (Option.some Jvm.ClassFile.FieldType.boolean) ∈ yAll := yIn (i := 382) rfl rfl
set_option maxRecDepth 100000 in
theorem ylL_41 : .methodLink RL 41 yY_same ∈ yAll := yIn (i := 383) rfl rfl
set_option maxRecDepth 100000 in
theorem ym_same : .instanceMethod yY_same ∈ yAll := yIn (i := 384) rfl rfl
set_option maxRecDepth 100000 in
theorem ys_same : .selects RY yY_same yY_same ∈ yAll := yIn (i := 385) rfl rfl
set_option maxRecDepth 100000 in
theorem yc_same : .code yY_same cY_same 3 (Option.some Jvm.ClassFile.FieldType.boolean) ∈ yAll := yIn (i := 386) rfl rfl
set_option maxRecDepth 100000 in
theorem ylL_45 : .methodLink RL 45 yY_store ∈ yAll := yIn (i := 387) rfl rfl
set_option maxRecDepth 100000 in
theorem ym_store : .instanceMethod yY_store ∈ yAll := yIn (i := 388) rfl rfl
set_option maxRecDepth 100000 in
theorem ys_store : .selects RY yY_store yY_store ∈ yAll := yIn (i := 389) rfl rfl
set_option maxRecDepth 100000 in
theorem yc_store : .code yY_store cY_store 4 (Option.some Jvm.ClassFile.FieldType.int) ∈ yAll := yIn (i := 390) rfl rfl
set_option maxRecDepth 100000 in
theorem ylY_89 : .methodLink RY 89 yY_fits ∈ yAll := yIn (i := 391) rfl rfl
set_option maxRecDepth 100000 in
theorem ym_fits : .instanceMethod yY_fits ∈ yAll := yIn (i := 393) rfl rfl
set_option maxRecDepth 100000 in
theorem yc_fits : .code yY_fits cY_fits 3 (Option.some Jvm.ClassFile.FieldType.boolean) ∈ yAll := yIn (i := 394) rfl rfl
set_option maxRecDepth 100000 in
theorem ylL_49 : .methodLink RL 49 yY_load ∈ yAll := yIn (i := 395) rfl rfl
set_option maxRecDepth 100000 in
theorem ym_load : .instanceMethod yY_load ∈ yAll := yIn (i := 396) rfl rfl
set_option maxRecDepth 100000 in
theorem ys_load : .selects RY yY_load yY_load ∈ yAll := yIn (i := 397) rfl rfl
set_option maxRecDepth 100000 in
theorem yc_load : .code yY_load cY_load 4 (Option.some Jvm.ClassFile.FieldType.int) ∈ yAll := yIn (i := 398) rfl rfl
set_option maxRecDepth 100000 in
theorem ylL_53 : .methodLink RL 53 yY_copy ∈ yAll := yIn (i := 399) rfl rfl
set_option maxRecDepth 100000 in
theorem ym_copy : .instanceMethod yY_copy ∈ yAll := yIn (i := 400) rfl rfl
set_option maxRecDepth 100000 in
theorem ys_copy : .selects RY yY_copy yY_copy ∈ yAll := yIn (i := 401) rfl rfl
set_option maxRecDepth 100000 in
theorem yc_copy : .code yY_copy cY_copy 7 (Option.some Jvm.ClassFile.FieldType.int) ∈ yAll := yIn (i := 402) rfl rfl
set_option maxRecDepth 100000 in
theorem yk_92 : .constantLong RY 92 4 ∈ yAll := yIn (i := 403) rfl rfl
set_option maxRecDepth 100000 in
theorem ylL_58 : .methodLink RL 58 yY_compare ∈ yAll := yIn (i := 404) rfl rfl
set_option maxRecDepth 100000 in
theorem ym_compare : .instanceMethod yY_compare ∈ yAll := yIn (i := 405) rfl rfl
set_option maxRecDepth 100000 in
theorem ys_compare : .selects RY yY_compare yY_compare ∈ yAll := yIn (i := 406) rfl rfl
set_option maxRecDepth 100000 in
theorem yc_compare : .code yY_compare cY_compare 5 (Option.some Jvm.ClassFile.FieldType.int) ∈ yAll := yIn (i := 407) rfl rfl
set_option maxRecDepth 100000 in
theorem ylL_62 : .methodLink RL 62 yY_flow ∈ yAll := yIn (i := 408) rfl rfl
set_option maxRecDepth 100000 in
theorem ym_flow : .instanceMethod yY_flow ∈ yAll := yIn (i := 409) rfl rfl
set_option maxRecDepth 100000 in
theorem ys_flow : .selects RY yY_flow yY_flow ∈ yAll := yIn (i := 410) rfl rfl
set_option maxRecDepth 100000 in
theorem yc_flow : .code yY_flow cY_flow 4 (Option.some Jvm.ClassFile.FieldType.int) ∈ yAll := yIn (i := 411) rfl rfl
set_option maxRecDepth 100000 in
theorem ylY_94 : .methodLink RY 94 yY_given ∈ yAll := yIn (i := 412) rfl rfl
set_option maxRecDepth 100000 in
theorem ym_given : .instanceMethod yY_given ∈ yAll := yIn (i := 414) rfl rfl
set_option maxRecDepth 100000 in
theorem yc_given : .code yY_given cY_given 2 (Option.some Jvm.ClassFile.FieldType.int) ∈ yAll := yIn (i := 415) rfl rfl
set_option maxRecDepth 100000 in
theorem ylY_97 : .methodLink RY 97 yY_turns ∈ yAll := yIn (i := 416) rfl rfl
set_option maxRecDepth 100000 in
theorem ym_turns : .instanceMethod yY_turns ∈ yAll := yIn (i := 418) rfl rfl
set_option maxRecDepth 100000 in
theorem yc_turns : .code yY_turns cY_turns 7 (Option.some Jvm.ClassFile.FieldType.int) ∈ yAll := yIn (i := 419) rfl rfl
set_option maxRecDepth 100000 in
theorem ylY_100 : .methodLink RY 100 yY_closings ∈ yAll := yIn (i := 420) rfl rfl
set_option maxRecDepth 100000 in
theorem ym_closings : .instanceMethod yY_closings ∈ yAll := yIn (i := 422) rfl rfl
set_option maxRecDepth 100000 in
theorem yc_closings : .code yY_closings cY_closings 6 (Option.some Jvm.ClassFile.FieldType.int) ∈ yAll := yIn (i := 423) rfl rfl
set_option maxRecDepth 100000 in
theorem yk_103 : .constant RY 103 250809 ∈ yAll := yIn (i := 424) rfl rfl
set_option maxRecDepth 100000 in
theorem yk_104 : .constant RY 104 72509 ∈ yAll := yIn (i := 425) rfl rfl
set_option maxRecDepth 100000 in
theorem ylL_66 : .methodLink RL 66 yY_number ∈ yAll := yIn (i := 426) rfl rfl
set_option maxRecDepth 100000 in
theorem ym_number : .instanceMethod yY_number ∈ yAll := yIn (i := 427) rfl rfl
set_option maxRecDepth 100000 in
theorem ys_number : .selects RY yY_number yY_number ∈ yAll := yIn (i := 428) rfl rfl
set_option maxRecDepth 100000 in
theorem yc_number : .code yY_number cY_number 4 (Option.some Jvm.ClassFile.FieldType.int) ∈ yAll := yIn (i := 429) rfl rfl
set_option maxRecDepth 100000 in
theorem ylY_123 : .methodLink RY 123 yY_rounded ∈ yAll := yIn (i := 430) rfl rfl
set_option maxRecDepth 100000 in
theorem ym_rounded : .static yY_rounded ∈ yAll := yIn (i := 431) rfl rfl
set_option maxRecDepth 100000 in
theorem yc_rounded : .code yY_rounded cY_rounded 9 (Option.some Jvm.ClassFile.FieldType.long) ∈ yAll := yIn (i := 432) rfl rfl
set_option maxRecDepth 100000 in
theorem yk_105 : .constantLong RY 105 16777216 ∈ yAll := yIn (i := 433) rfl rfl
set_option maxRecDepth 100000 in
theorem yk_107 : .constantLong RY 107 2 ∈ yAll := yIn (i := 434) rfl rfl
set_option maxRecDepth 100000 in
theorem ylY_115 : .methodLink RY 115 yY_held ∈ yAll := yIn (i := 435) rfl rfl
set_option maxRecDepth 100000 in
theorem ym_held : .static yY_held ∈ yAll := yIn (i := 436) rfl rfl
set_option maxRecDepth 100000 in
theorem yc_held : .code yY_held cY_held 2 (Option.some Jvm.ClassFile.FieldType.int) ∈ yAll := yIn (i := 437) rfl rfl
set_option maxRecDepth 100000 in
theorem yk_109 : .constantLong RY 109 2147483647 ∈ yAll := yIn (i := 438) rfl rfl
set_option maxRecDepth 100000 in
theorem yk_111 : .constant RY 111 2147483647 ∈ yAll := yIn (i := 439) rfl rfl
set_option maxRecDepth 100000 in
theorem yk_112 : .constantLong RY 112 (-2147483648) ∈ yAll := yIn (i := 440) rfl rfl
set_option maxRecDepth 100000 in
theorem yk_114 : .constant RY 114 (-2147483648) ∈ yAll := yIn (i := 441) rfl rfl
set_option maxRecDepth 100000 in
theorem ylY_127 : .methodLink RY 127 yY_quotient ∈ yAll := yIn (i := 442) rfl rfl
set_option maxRecDepth 100000 in
theorem ym_quotient : .static yY_quotient ∈ yAll := yIn (i := 443) rfl rfl
set_option maxRecDepth 100000 in
theorem yc_quotient : .code yY_quotient cY_quotient 2 (Option.some Jvm.ClassFile.FieldType.int) ∈ yAll := yIn (i := 444) rfl rfl
set_option maxRecDepth 100000 in
theorem yk_130 : .constant RY 130 65535 ∈ yAll := yIn (i := 445) rfl rfl
set_option maxRecDepth 100000 in
theorem yk_131 : .constantLong RY 131 3 ∈ yAll := yIn (i := 446) rfl rfl
set_option maxRecDepth 100000 in
theorem ylY_133 : .methodLink RY 133 yY_decimals ∈ yAll := yIn (i := 447) rfl rfl
set_option maxRecDepth 100000 in
theorem ym_decimals : .static yY_decimals ∈ yAll := yIn (i := 448) rfl rfl
set_option maxRecDepth 100000 in
theorem yc_decimals : .code yY_decimals cY_decimals 4 (Option.some Jvm.ClassFile.FieldType.int) ∈ yAll := yIn (i := 449) rfl rfl
set_option maxRecDepth 100000 in
theorem yk_119 : .constantLong RY 119 9 ∈ yAll := yIn (i := 450) rfl rfl
set_option maxRecDepth 100000 in
theorem yk_121 : .constantLong RY 121 10 ∈ yAll := yIn (i := 451) rfl rfl
set_option maxRecDepth 100000 in
theorem ylL_70 : .methodLink RL 70 yY_events ∈ yAll := yIn (i := 452) rfl rfl
set_option maxRecDepth 100000 in
theorem ym_events : .instanceMethod yY_events ∈ yAll := yIn (i := 453) rfl rfl
set_option maxRecDepth 100000 in
theorem ys_events : .selects RY yY_events yY_events ∈ yAll := yIn (i := 454) rfl rfl
set_option maxRecDepth 100000 in
theorem yc_events : .code yY_events cY_events 1 (Option.some Jvm.ClassFile.FieldType.int) ∈ yAll := yIn (i := 455) rfl rfl
set_option maxRecDepth 100000 in
theorem ylL_74 : .methodLink RL 74 yY_event ∈ yAll := yIn (i := 456) rfl rfl
set_option maxRecDepth 100000 in
theorem ym_event : .instanceMethod yY_event ∈ yAll := yIn (i := 457) rfl rfl
set_option maxRecDepth 100000 in
theorem ys_event : .selects RY yY_event yY_event ∈ yAll := yIn (i := 458) rfl rfl
set_option maxRecDepth 100000 in
theorem yc_event : .code yY_event cY_event 2 (Option.some Jvm.ClassFile.FieldType.int) ∈ yAll := yIn (i := 459) rfl rfl
set_option maxRecDepth 100000 in
theorem ys_depth : .selects RY yY_depth yY_depth ∈ yAll := yIn (i := 15) rfl rfl
set_option maxRecDepth 100000 in
theorem ys_note : .selects RY yY_note yY_note ∈ yAll := yIn (i := 16) rfl rfl
set_option maxRecDepth 100000 in
theorem ys_of : .selects RY yY_of yY_of ∈ yAll := yIn (i := 17) rfl rfl
set_option maxRecDepth 100000 in
theorem ys_seed : .selects RY yY_seed yY_seed ∈ yAll := yIn (i := 18) rfl rfl
set_option maxRecDepth 100000 in
theorem ys_answer : .selects RY yY_answer yY_answer ∈ yAll := yIn (i := 19) rfl rfl
set_option maxRecDepth 100000 in
theorem ys_call : .selects RY yY_call yY_call ∈ yAll := yIn (i := 20) rfl rfl
set_option maxRecDepth 100000 in
theorem ys_twice : .selects RY yY_twice yY_twice ∈ yAll := yIn (i := 21) rfl rfl
set_option maxRecDepth 100000 in
theorem ys_volume : .selects RY yY_volume yY_volume ∈ yAll := yIn (i := 22) rfl rfl
set_option maxRecDepth 100000 in
theorem ys_weight : .selects RY yY_weight yY_weight ∈ yAll := yIn (i := 23) rfl rfl
set_option maxRecDepth 100000 in
theorem ys_fits : .selects RY yY_fits yY_fits ∈ yAll := yIn (i := 24) rfl rfl
set_option maxRecDepth 100000 in
theorem ys_given : .selects RY yY_given yY_given ∈ yAll := yIn (i := 25) rfl rfl
set_option maxRecDepth 100000 in
theorem ys_turns : .selects RY yY_turns yY_turns ∈ yAll := yIn (i := 26) rfl rfl
set_option maxRecDepth 100000 in
theorem ys_closings : .selects RY yY_closings yY_closings ∈ yAll := yIn (i := 27) rfl rfl
theorem inY : ∀ w ∈ u_ws RY TY 13, w ∈ yAll := by
  intro w hw
  obtain ⟨k, hk, rfl⟩ := List.mem_map.mp hw
  have hk : k < 13 := List.mem_range.mp hk
  match k, hk with
  | 0, _ => exact yy_kind
  | 1, _ => exact yy_n
  | 2, _ => exact yy_inner
  | 3, _ => exact yy_things
  | 4, _ => exact yy_slot
  | 5, _ => exact yy_row
  | 6, _ => exact yy_third
  | 7, _ => exact yy_types
  | 8, _ => exact yy_members
  | 9, _ => exact yy_shadowCalls
  | 10, _ => exact yy_value
  | 11, _ => exact yy_event
  | 12, _ => exact yy_events
  | k + 13, h => omega
theorem yGood {a : Cond} {L : List Cond} (h : ∀ w ∈ L, w ∈ yAll) : GoodIn (a :: yAll) L := fun w hw => ⟨List.mem_cons_of_mem _ (h w hw), good_of_word (List.mem_filter.mp (h w hw)).2⟩
theorem yS {a : Cond} {idx : Nat} {y : MethodName} {b : ByteArray} {n : Nat} {r : Option FieldType} (h1 : Cond.methodLink RY idx y ∈ yAll) (h2 : Cond.static y ∈ yAll) (h3 : Cond.initialized y.cls ∈ yAll) (h4 : Cond.code y b n r ∈ yAll) : GoodIn (a :: yAll) (va_wsS RY idx y (Cond.code y b n r :: yAll)) := yGood (fun w hw => by
  rcases List.mem_append.mp hw with hw | hw
  · simp only [List.mem_cons, List.not_mem_nil, or_false] at hw
    rcases hw with rfl | rfl | rfl
    · exact h1
    · exact h2
    · exact h3
  · rcases List.mem_cons.mp hw with rfl | hw
    · exact h4
    · exact hw)
theorem yV {a : Cond} {idx : Nat} {y : MethodName} {b : ByteArray} {n : Nat} {r : Option FieldType} (h1 : Cond.methodLink RY idx y ∈ yAll) (h2 : Cond.instanceMethod y ∈ yAll) (h0 : Cond.selects RY y y ∈ yAll) (h4 : Cond.code y b n r ∈ yAll) : GoodIn (a :: yAll) (wsV RY idx RY y (Cond.code y b n r :: yAll)) := yGood (fun w hw => by
  rcases List.mem_append.mp hw with hw | hw
  · simp only [List.mem_cons, List.not_mem_nil, or_false] at hw
    rcases hw with rfl | rfl | rfl | rfl
    · exact h1
    · exact h2
    · exact h0
    · exact yini
  · rcases List.mem_cons.mp hw with rfl | hw
    · exact h4
    · exact hw)
abbrev cX1_events : ByteArray := prog_1_method_14_code
def yX1_events : MethodName := ⟨RX1, "events", "()I"⟩
def wsX1_events : List Cond := .code yX1_events cX1_events 1 (some .int) :: ([.fieldLink RX1 112 "FamilyProbes" "eventCount" "I"] ++ wsX10)
theorem dX1_events_0 : decode cX1_events 0 = .ok (.aload_n 0, 1) := by decide +kernel
theorem dX1_events_1 : decode cX1_events 1 = .ok (.getfield 112, 3) := by decide +kernel
theorem dX1_events_4 : decode cX1_events 4 = .ok (.ireturn, 1) := by decide +kernel
abbrev cX1_event : ByteArray := prog_1_method_15_code
def yX1_event : MethodName := ⟨RX1, "event", "(I)I"⟩
def wsX1_event : List Cond := .code yX1_event cX1_event 2 (some .int) :: ([.fieldLink RX1 112 "FamilyProbes" "eventCount" "I", .fieldLink RX1 31 "FamilyProbes" "lastEvents" "[I", .methodLink RX1 35 yX1_isBelow, .static yX1_isBelow, .initialized RX1, .code yX1_isBelow cX1_isBelow 2 (some .boolean)] ++ wsX10)
set_option maxRecDepth 20000 in
theorem gX1_event_X1_isBelow : GoodIn wsX1_event (va_wsS RX1 35 yX1_isBelow wsX1_isBelow) := goodIn_p _ [6] rfl (by decide +kernel)
theorem dX1_event_0 : decode cX1_event 0 = .ok (.iload_n 1, 1) := by decide +kernel
theorem dX1_event_1 : decode cX1_event 1 = .ok (.bipush 16, 2) := by decide +kernel
theorem dX1_event_3 : decode cX1_event 3 = .ok (.invokestatic 35, 3) := by decide +kernel
theorem dX1_event_6 : decode cX1_event 6 = .ok (.ifCond .eq 11, 3) := by decide +kernel
theorem dX1_event_9 : decode cX1_event 9 = .ok (.iload_n 1, 1) := by decide +kernel
theorem dX1_event_10 : decode cX1_event 10 = .ok (.aload_n 0, 1) := by decide +kernel
theorem dX1_event_11 : decode cX1_event 11 = .ok (.getfield 112, 3) := by decide +kernel
theorem dX1_event_14 : decode cX1_event 14 = .ok (.if_icmp .lt 5, 3) := by decide +kernel
theorem dX1_event_17 : decode cX1_event 17 = .ok (.iconst (-1), 1) := by decide +kernel
theorem dX1_event_18 : decode cX1_event 18 = .ok (.ireturn, 1) := by decide +kernel
theorem dX1_event_19 : decode cX1_event 19 = .ok (.aload_n 0, 1) := by decide +kernel
theorem dX1_event_20 : decode cX1_event 20 = .ok (.getfield 31, 3) := by decide +kernel
theorem dX1_event_23 : decode cX1_event 23 = .ok (.aload_n 0, 1) := by decide +kernel
theorem dX1_event_24 : decode cX1_event 24 = .ok (.getfield 112, 3) := by decide +kernel
theorem dX1_event_27 : decode cX1_event 27 = .ok (.iconst 1, 1) := by decide +kernel
theorem dX1_event_28 : decode cX1_event 28 = .ok (.isub, 1) := by decide +kernel
theorem dX1_event_29 : decode cX1_event 29 = .ok (.iload_n 1, 1) := by decide +kernel
theorem dX1_event_30 : decode cX1_event 30 = .ok (.isub, 1) := by decide +kernel
theorem dX1_event_31 : decode cX1_event 31 = .ok (.bipush 15, 2) := by decide +kernel
theorem dX1_event_33 : decode cX1_event 33 = .ok (.iand, 1) := by decide +kernel
theorem dX1_event_34 : decode cX1_event 34 = .ok (.iaload, 1) := by decide +kernel
theorem dX1_event_35 : decode cX1_event 35 = .ok (.ireturn, 1) := by decide +kernel
theorem dY_init_0 : decode cY_init 0 = .ok (.aload_n 0, 1) := by decide +kernel
theorem dY_init_1 : decode cY_init 1 = .ok (.invokespecial 1, 3) := by decide +kernel
theorem dY_init_4 : decode cY_init 4 = .ok (.aload_n 0, 1) := by decide +kernel
theorem dY_init_5 : decode cY_init 5 = .ok (.sipush 520, 3) := by decide +kernel
theorem dY_init_8 : decode cY_init 8 = .ok (.newarray .int, 2) := by decide +kernel
theorem dY_init_10 : decode cY_init 10 = .ok (.putfield 7, 3) := by decide +kernel
theorem dY_init_13 : decode cY_init 13 = .ok (.aload_n 0, 1) := by decide +kernel
theorem dY_init_14 : decode cY_init 14 = .ok (.sipush 520, 3) := by decide +kernel
theorem dY_init_17 : decode cY_init 17 = .ok (.newarray .int, 2) := by decide +kernel
theorem dY_init_19 : decode cY_init 19 = .ok (.putfield 13, 3) := by decide +kernel
theorem dY_init_22 : decode cY_init 22 = .ok (.aload_n 0, 1) := by decide +kernel
theorem dY_init_23 : decode cY_init 23 = .ok (.sipush 520, 3) := by decide +kernel
theorem dY_init_26 : decode cY_init 26 = .ok (.newarray .int, 2) := by decide +kernel
theorem dY_init_28 : decode cY_init 28 = .ok (.putfield 16, 3) := by decide +kernel
theorem dY_init_31 : decode cY_init 31 = .ok (.aload_n 0, 1) := by decide +kernel
theorem dY_init_32 : decode cY_init 32 = .ok (.iconst 2, 1) := by decide +kernel
theorem dY_init_33 : decode cY_init 33 = .ok (.putfield 19, 3) := by decide +kernel
theorem dY_init_36 : decode cY_init 36 = .ok (.aload_n 0, 1) := by decide +kernel
theorem dY_init_37 : decode cY_init 37 = .ok (.bipush 8, 2) := by decide +kernel
theorem dY_init_39 : decode cY_init 39 = .ok (.newarray .int, 2) := by decide +kernel
theorem dY_init_41 : decode cY_init 41 = .ok (.putfield 23, 3) := by decide +kernel
theorem dY_init_44 : decode cY_init 44 = .ok (.aload_n 0, 1) := by decide +kernel
theorem dY_init_45 : decode cY_init 45 = .ok (.bipush 16, 2) := by decide +kernel
theorem dY_init_47 : decode cY_init 47 = .ok (.newarray .int, 2) := by decide +kernel
theorem dY_init_49 : decode cY_init 49 = .ok (.putfield 26, 3) := by decide +kernel
theorem dY_init_52 : decode cY_init 52 = .ok (.aload_n 0, 1) := by decide +kernel
theorem dY_init_53 : decode cY_init 53 = .ok (.iconst 4, 1) := by decide +kernel
theorem dY_init_54 : decode cY_init 54 = .ok (.newarray .int, 2) := by decide +kernel
theorem dY_init_56 : decode cY_init 56 = .ok (.putfield 29, 3) := by decide +kernel
theorem dY_init_59 : decode cY_init 59 = .ok (.aload_n 0, 1) := by decide +kernel
theorem dY_init_60 : decode cY_init 60 = .ok (.bipush 10, 2) := by decide +kernel
theorem dY_init_62 : decode cY_init 62 = .ok (.newarray .int, 2) := by decide +kernel
theorem dY_init_64 : decode cY_init 64 = .ok (.putfield 32, 3) := by decide +kernel
theorem dY_init_67 : decode cY_init 67 = .ok (.aload_n 0, 1) := by decide +kernel
theorem dY_init_68 : decode cY_init 68 = .ok (.bipush 9, 2) := by decide +kernel
theorem dY_init_70 : decode cY_init 70 = .ok (.newarray .int, 2) := by decide +kernel
theorem dY_init_72 : decode cY_init 72 = .ok (.putfield 35, 3) := by decide +kernel
theorem dY_init_75 : decode cY_init 75 = .ok (.aload_n 0, 1) := by decide +kernel
theorem dY_init_76 : decode cY_init 76 = .ok (.bipush 16, 2) := by decide +kernel
theorem dY_init_78 : decode cY_init 78 = .ok (.newarray .int, 2) := by decide +kernel
theorem dY_init_80 : decode cY_init 80 = .ok (.putfield 38, 3) := by decide +kernel
theorem dY_init_83 : decode cY_init 83 = .ok (.aload_n 0, 1) := by decide +kernel
theorem dY_init_84 : decode cY_init 84 = .ok (.getfield 7, 3) := by decide +kernel
theorem dY_init_87 : decode cY_init 87 = .ok (.iconst 1, 1) := by decide +kernel
theorem dY_init_88 : decode cY_init 88 = .ok (.iconst 4, 1) := by decide +kernel
theorem dY_init_89 : decode cY_init 89 = .ok (.iastore, 1) := by decide +kernel
theorem dY_init_90 : decode cY_init 90 = .ok (.aload_n 0, 1) := by decide +kernel
theorem dY_init_91 : decode cY_init 91 = .ok (.getfield 13, 3) := by decide +kernel
theorem dY_init_94 : decode cY_init 94 = .ok (.iconst 1, 1) := by decide +kernel
theorem dY_init_95 : decode cY_init 95 = .ok (.iconst 2, 1) := by decide +kernel
theorem dY_init_96 : decode cY_init 96 = .ok (.iastore, 1) := by decide +kernel
theorem dY_init_97 : decode cY_init 97 = .ok (.aload_n 0, 1) := by decide +kernel
theorem dY_init_98 : decode cY_init 98 = .ok (.getfield 7, 3) := by decide +kernel
theorem dY_init_101 : decode cY_init 101 = .ok (.iconst 2, 1) := by decide +kernel
theorem dY_init_102 : decode cY_init 102 = .ok (.iconst 5, 1) := by decide +kernel
theorem dY_init_103 : decode cY_init 103 = .ok (.iastore, 1) := by decide +kernel
theorem dY_init_104 : decode cY_init 104 = .ok (.aload_n 0, 1) := by decide +kernel
theorem dY_init_105 : decode cY_init 105 = .ok (.getfield 13, 3) := by decide +kernel
theorem dY_init_108 : decode cY_init 108 = .ok (.iconst 2, 1) := by decide +kernel
theorem dY_init_109 : decode cY_init 109 = .ok (.bipush 9, 2) := by decide +kernel
theorem dY_init_111 : decode cY_init 111 = .ok (.iastore, 1) := by decide +kernel
theorem dY_init_112 : decode cY_init 112 = .ok (.aload_n 0, 1) := by decide +kernel
theorem dY_init_113 : decode cY_init 113 = .ok (.getfield 32, 3) := by decide +kernel
theorem dY_init_116 : decode cY_init 116 = .ok (.iconst 0, 1) := by decide +kernel
theorem dY_init_117 : decode cY_init 117 = .ok (.iconst 0, 1) := by decide +kernel
theorem dY_init_118 : decode cY_init 118 = .ok (.iconst 1, 1) := by decide +kernel
theorem dY_init_119 : decode cY_init 119 = .ok (.iconst 3, 1) := by decide +kernel
theorem dY_init_120 : decode cY_init 120 = .ok (.iconst 4, 1) := by decide +kernel
theorem dY_init_121 : decode cY_init 121 = .ok (.invokestatic 41, 3) := by decide +kernel
theorem dY_init_124 : decode cY_init 124 = .ok (.iastore, 1) := by decide +kernel
theorem dY_init_125 : decode cY_init 125 = .ok (.aload_n 0, 1) := by decide +kernel
theorem dY_init_126 : decode cY_init 126 = .ok (.getfield 32, 3) := by decide +kernel
theorem dY_init_129 : decode cY_init 129 = .ok (.iconst 1, 1) := by decide +kernel
theorem dY_init_130 : decode cY_init 130 = .ok (.iconst 0, 1) := by decide +kernel
theorem dY_init_131 : decode cY_init 131 = .ok (.iconst 2, 1) := by decide +kernel
theorem dY_init_132 : decode cY_init 132 = .ok (.iconst 3, 1) := by decide +kernel
theorem dY_init_133 : decode cY_init 133 = .ok (.iconst 5, 1) := by decide +kernel
theorem dY_init_134 : decode cY_init 134 = .ok (.invokestatic 41, 3) := by decide +kernel
theorem dY_init_137 : decode cY_init 137 = .ok (.iastore, 1) := by decide +kernel
theorem dY_init_138 : decode cY_init 138 = .ok (.aload_n 0, 1) := by decide +kernel
theorem dY_init_139 : decode cY_init 139 = .ok (.getfield 32, 3) := by decide +kernel
theorem dY_init_142 : decode cY_init 142 = .ok (.iconst 2, 1) := by decide +kernel
theorem dY_init_143 : decode cY_init 143 = .ok (.iconst 0, 1) := by decide +kernel
theorem dY_init_144 : decode cY_init 144 = .ok (.iconst 2, 1) := by decide +kernel
theorem dY_init_145 : decode cY_init 145 = .ok (.iconst 3, 1) := by decide +kernel
theorem dY_init_146 : decode cY_init 146 = .ok (.iconst 5, 1) := by decide +kernel
theorem dY_init_147 : decode cY_init 147 = .ok (.invokestatic 41, 3) := by decide +kernel
theorem dY_init_150 : decode cY_init 150 = .ok (.iconst 1, 1) := by decide +kernel
theorem dY_init_151 : decode cY_init 151 = .ok (.bipush 6, 2) := by decide +kernel
theorem dY_init_153 : decode cY_init 153 = .ok (.bipush 6, 2) := by decide +kernel
theorem dY_init_155 : decode cY_init 155 = .ok (.bipush 6, 2) := by decide +kernel
theorem dY_init_157 : decode cY_init 157 = .ok (.invokestatic 41, 3) := by decide +kernel
theorem dY_init_160 : decode cY_init 160 = .ok (.ior, 1) := by decide +kernel
theorem dY_init_161 : decode cY_init 161 = .ok (.iastore, 1) := by decide +kernel
theorem dY_init_162 : decode cY_init 162 = .ok (.aload_n 0, 1) := by decide +kernel
theorem dY_init_163 : decode cY_init 163 = .ok (.getfield 32, 3) := by decide +kernel
theorem dY_init_166 : decode cY_init 166 = .ok (.iconst 3, 1) := by decide +kernel
theorem dY_init_167 : decode cY_init 167 = .ok (.iconst 0, 1) := by decide +kernel
theorem dY_init_168 : decode cY_init 168 = .ok (.bipush 7, 2) := by decide +kernel
theorem dY_init_170 : decode cY_init 170 = .ok (.bipush 7, 2) := by decide +kernel
theorem dY_init_172 : decode cY_init 172 = .ok (.bipush 7, 2) := by decide +kernel
theorem dY_init_174 : decode cY_init 174 = .ok (.invokestatic 41, 3) := by decide +kernel
theorem dY_init_177 : decode cY_init 177 = .ok (.iastore, 1) := by decide +kernel
theorem dY_init_178 : decode cY_init 178 = .ok (.aload_n 0, 1) := by decide +kernel
theorem dY_init_179 : decode cY_init 179 = .ok (.getfield 32, 3) := by decide +kernel
theorem dY_init_182 : decode cY_init 182 = .ok (.iconst 4, 1) := by decide +kernel
theorem dY_init_183 : decode cY_init 183 = .ok (.iconst 0, 1) := by decide +kernel
theorem dY_init_184 : decode cY_init 184 = .ok (.iconst 1, 1) := by decide +kernel
theorem dY_init_185 : decode cY_init 185 = .ok (.bipush 8, 2) := by decide +kernel
theorem dY_init_187 : decode cY_init 187 = .ok (.bipush 8, 2) := by decide +kernel
theorem dY_init_189 : decode cY_init 189 = .ok (.invokestatic 41, 3) := by decide +kernel
theorem dY_init_192 : decode cY_init 192 = .ok (.iastore, 1) := by decide +kernel
theorem dY_init_193 : decode cY_init 193 = .ok (.aload_n 0, 1) := by decide +kernel
theorem dY_init_194 : decode cY_init 194 = .ok (.getfield 32, 3) := by decide +kernel
theorem dY_init_197 : decode cY_init 197 = .ok (.iconst 5, 1) := by decide +kernel
theorem dY_init_198 : decode cY_init 198 = .ok (.aload_n 0, 1) := by decide +kernel
theorem dY_init_199 : decode cY_init 199 = .ok (.getfield 32, 3) := by decide +kernel
theorem dY_init_202 : decode cY_init 202 = .ok (.iconst 4, 1) := by decide +kernel
theorem dY_init_203 : decode cY_init 203 = .ok (.iaload, 1) := by decide +kernel
theorem dY_init_204 : decode cY_init 204 = .ok (.iastore, 1) := by decide +kernel
theorem dY_init_205 : decode cY_init 205 = .ok (.aload_n 0, 1) := by decide +kernel
theorem dY_init_206 : decode cY_init 206 = .ok (.getfield 32, 3) := by decide +kernel
theorem dY_init_209 : decode cY_init 209 = .ok (.bipush 6, 2) := by decide +kernel
theorem dY_init_211 : decode cY_init 211 = .ok (.iconst 1, 1) := by decide +kernel
theorem dY_init_212 : decode cY_init 212 = .ok (.iastore, 1) := by decide +kernel
theorem dY_init_213 : decode cY_init 213 = .ok (.aload_n 0, 1) := by decide +kernel
theorem dY_init_214 : decode cY_init 214 = .ok (.getfield 32, 3) := by decide +kernel
theorem dY_init_217 : decode cY_init 217 = .ok (.bipush 7, 2) := by decide +kernel
theorem dY_init_219 : decode cY_init 219 = .ok (.iconst 1, 1) := by decide +kernel
theorem dY_init_220 : decode cY_init 220 = .ok (.iastore, 1) := by decide +kernel
theorem dY_init_221 : decode cY_init 221 = .ok (.aload_n 0, 1) := by decide +kernel
theorem dY_init_222 : decode cY_init 222 = .ok (.getfield 32, 3) := by decide +kernel
theorem dY_init_225 : decode cY_init 225 = .ok (.bipush 8, 2) := by decide +kernel
theorem dY_init_227 : decode cY_init 227 = .ok (.iconst 1, 1) := by decide +kernel
theorem dY_init_228 : decode cY_init 228 = .ok (.iastore, 1) := by decide +kernel
theorem dY_init_229 : decode cY_init 229 = .ok (.aload_n 0, 1) := by decide +kernel
theorem dY_init_230 : decode cY_init 230 = .ok (.getfield 32, 3) := by decide +kernel
theorem dY_init_233 : decode cY_init 233 = .ok (.bipush 9, 2) := by decide +kernel
theorem dY_init_235 : decode cY_init 235 = .ok (.aload_n 0, 1) := by decide +kernel
theorem dY_init_236 : decode cY_init 236 = .ok (.getfield 32, 3) := by decide +kernel
theorem dY_init_239 : decode cY_init 239 = .ok (.iconst 1, 1) := by decide +kernel
theorem dY_init_240 : decode cY_init 240 = .ok (.iaload, 1) := by decide +kernel
theorem dY_init_241 : decode cY_init 241 = .ok (.iastore, 1) := by decide +kernel
theorem dY_init_242 : decode cY_init 242 = .ok (.iconst 0, 1) := by decide +kernel
theorem dY_init_243 : decode cY_init 243 = .ok (.istore_n 1, 1) := by decide +kernel
theorem dY_init_244 : decode cY_init 244 = .ok (.iload_n 1, 1) := by decide +kernel
theorem dY_init_245 : decode cY_init 245 = .ok (.bipush 9, 2) := by decide +kernel
theorem dY_init_247 : decode cY_init 247 = .ok (.if_icmp .ge 16, 3) := by decide +kernel
theorem dY_init_250 : decode cY_init 250 = .ok (.aload_n 0, 1) := by decide +kernel
theorem dY_init_251 : decode cY_init 251 = .ok (.getfield 35, 3) := by decide +kernel
theorem dY_init_254 : decode cY_init 254 = .ok (.iload_n 1, 1) := by decide +kernel
theorem dY_init_255 : decode cY_init 255 = .ok (.iconst 3, 1) := by decide +kernel
theorem dY_init_256 : decode cY_init 256 = .ok (.iastore, 1) := by decide +kernel
theorem dY_init_257 : decode cY_init 257 = .ok (.iinc 1 1, 3) := by decide +kernel
theorem dY_init_260 : decode cY_init 260 = .ok (.goto (-16), 3) := by decide +kernel
theorem dY_init_263 : decode cY_init 263 = .ok (.aload_n 0, 1) := by decide +kernel
theorem dY_init_264 : decode cY_init 264 = .ok (.getfield 35, 3) := by decide +kernel
theorem dY_init_267 : decode cY_init 267 = .ok (.iconst 0, 1) := by decide +kernel
theorem dY_init_268 : decode cY_init 268 = .ok (.dup2, 1) := by decide +kernel
theorem dY_init_269 : decode cY_init 269 = .ok (.iaload, 1) := by decide +kernel
theorem dY_init_270 : decode cY_init 270 = .ok (.sipush 128, 3) := by decide +kernel
theorem dY_init_273 : decode cY_init 273 = .ok (.ior, 1) := by decide +kernel
theorem dY_init_274 : decode cY_init 274 = .ok (.iastore, 1) := by decide +kernel
theorem dY_init_275 : decode cY_init 275 = .ok (.aload_n 0, 1) := by decide +kernel
theorem dY_init_276 : decode cY_init 276 = .ok (.getfield 35, 3) := by decide +kernel
theorem dY_init_279 : decode cY_init 279 = .ok (.iconst 1, 1) := by decide +kernel
theorem dY_init_280 : decode cY_init 280 = .ok (.dup2, 1) := by decide +kernel
theorem dY_init_281 : decode cY_init 281 = .ok (.iaload, 1) := by decide +kernel
theorem dY_init_282 : decode cY_init 282 = .ok (.sipush 132, 3) := by decide +kernel
theorem dY_init_285 : decode cY_init 285 = .ok (.ior, 1) := by decide +kernel
theorem dY_init_286 : decode cY_init 286 = .ok (.iastore, 1) := by decide +kernel
theorem dY_init_287 : decode cY_init 287 = .ok (.aload_n 0, 1) := by decide +kernel
theorem dY_init_288 : decode cY_init 288 = .ok (.getfield 35, 3) := by decide +kernel
theorem dY_init_291 : decode cY_init 291 = .ok (.iconst 2, 1) := by decide +kernel
theorem dY_init_292 : decode cY_init 292 = .ok (.dup2, 1) := by decide +kernel
theorem dY_init_293 : decode cY_init 293 = .ok (.iaload, 1) := by decide +kernel
theorem dY_init_294 : decode cY_init 294 = .ok (.sipush 132, 3) := by decide +kernel
theorem dY_init_297 : decode cY_init 297 = .ok (.ior, 1) := by decide +kernel
theorem dY_init_298 : decode cY_init 298 = .ok (.iastore, 1) := by decide +kernel
theorem dY_init_299 : decode cY_init 299 = .ok (.aload_n 0, 1) := by decide +kernel
theorem dY_init_300 : decode cY_init 300 = .ok (.getfield 35, 3) := by decide +kernel
theorem dY_init_303 : decode cY_init 303 = .ok (.bipush 8, 2) := by decide +kernel
theorem dY_init_305 : decode cY_init 305 = .ok (.dup2, 1) := by decide +kernel
theorem dY_init_306 : decode cY_init 306 = .ok (.iaload, 1) := by decide +kernel
theorem dY_init_307 : decode cY_init 307 = .ok (.sipush 132, 3) := by decide +kernel
theorem dY_init_310 : decode cY_init 310 = .ok (.ior, 1) := by decide +kernel
theorem dY_init_311 : decode cY_init 311 = .ok (.iastore, 1) := by decide +kernel
theorem dY_init_312 : decode cY_init 312 = .ok (.iconst 3, 1) := by decide +kernel
theorem dY_init_313 : decode cY_init 313 = .ok (.istore_n 1, 1) := by decide +kernel
theorem dY_init_314 : decode cY_init 314 = .ok (.iload_n 1, 1) := by decide +kernel
theorem dY_init_315 : decode cY_init 315 = .ok (.bipush 7, 2) := by decide +kernel
theorem dY_init_317 : decode cY_init 317 = .ok (.if_icmp .ge 21, 3) := by decide +kernel
theorem dY_init_320 : decode cY_init 320 = .ok (.aload_n 0, 1) := by decide +kernel
theorem dY_init_321 : decode cY_init 321 = .ok (.getfield 35, 3) := by decide +kernel
theorem dY_init_324 : decode cY_init 324 = .ok (.iload_n 1, 1) := by decide +kernel
theorem dY_init_325 : decode cY_init 325 = .ok (.dup2, 1) := by decide +kernel
theorem dY_init_326 : decode cY_init 326 = .ok (.iaload, 1) := by decide +kernel
theorem dY_init_327 : decode cY_init 327 = .ok (.sipush 888, 3) := by decide +kernel
theorem dY_init_330 : decode cY_init 330 = .ok (.ior, 1) := by decide +kernel
theorem dY_init_331 : decode cY_init 331 = .ok (.iastore, 1) := by decide +kernel
theorem dY_init_332 : decode cY_init 332 = .ok (.iinc 1 1, 3) := by decide +kernel
theorem dY_init_335 : decode cY_init 335 = .ok (.goto (-21), 3) := by decide +kernel
theorem dY_init_338 : decode cY_init 338 = .ok (.aload_n 0, 1) := by decide +kernel
theorem dY_init_339 : decode cY_init 339 = .ok (.getfield 35, 3) := by decide +kernel
theorem dY_init_342 : decode cY_init 342 = .ok (.iconst 3, 1) := by decide +kernel
theorem dY_init_343 : decode cY_init 343 = .ok (.dup2, 1) := by decide +kernel
theorem dY_init_344 : decode cY_init 344 = .ok (.iaload, 1) := by decide +kernel
theorem dY_init_345 : decode cY_init 345 = .ok (.sipush 1024, 3) := by decide +kernel
theorem dY_init_348 : decode cY_init 348 = .ok (.ior, 1) := by decide +kernel
theorem dY_init_349 : decode cY_init 349 = .ok (.iastore, 1) := by decide +kernel
theorem dY_init_350 : decode cY_init 350 = .ok (.iconst 4, 1) := by decide +kernel
theorem dY_init_351 : decode cY_init 351 = .ok (.istore_n 1, 1) := by decide +kernel
theorem dY_init_352 : decode cY_init 352 = .ok (.iload_n 1, 1) := by decide +kernel
theorem dY_init_353 : decode cY_init 353 = .ok (.bipush 7, 2) := by decide +kernel
theorem dY_init_355 : decode cY_init 355 = .ok (.if_icmp .ge 19, 3) := by decide +kernel
theorem dY_init_358 : decode cY_init 358 = .ok (.aload_n 0, 1) := by decide +kernel
theorem dY_init_359 : decode cY_init 359 = .ok (.getfield 35, 3) := by decide +kernel
theorem dY_init_362 : decode cY_init 362 = .ok (.iload_n 1, 1) := by decide +kernel
theorem dY_init_363 : decode cY_init 363 = .ok (.dup2, 1) := by decide +kernel
theorem dY_init_364 : decode cY_init 364 = .ok (.iaload, 1) := by decide +kernel
theorem dY_init_365 : decode cY_init 365 = .ok (.iconst 4, 1) := by decide +kernel
theorem dY_init_366 : decode cY_init 366 = .ok (.ior, 1) := by decide +kernel
theorem dY_init_367 : decode cY_init 367 = .ok (.iastore, 1) := by decide +kernel
theorem dY_init_368 : decode cY_init 368 = .ok (.iinc 1 1, 3) := by decide +kernel
theorem dY_init_371 : decode cY_init 371 = .ok (.goto (-19), 3) := by decide +kernel
theorem dY_init_374 : decode cY_init 374 = .ok (.aload_n 0, 1) := by decide +kernel
theorem dY_init_375 : decode cY_init 375 = .ok (.getfield 35, 3) := by decide +kernel
theorem dY_init_378 : decode cY_init 378 = .ok (.bipush 7, 2) := by decide +kernel
theorem dY_init_380 : decode cY_init 380 = .ok (.dup2, 1) := by decide +kernel
theorem dY_init_381 : decode cY_init 381 = .ok (.iaload, 1) := by decide +kernel
theorem dY_init_382 : decode cY_init 382 = .ok (.sipush 1024, 3) := by decide +kernel
theorem dY_init_385 : decode cY_init 385 = .ok (.ior, 1) := by decide +kernel
theorem dY_init_386 : decode cY_init 386 = .ok (.iastore, 1) := by decide +kernel
theorem dY_init_387 : decode cY_init 387 = .ok (.aload_n 0, 1) := by decide +kernel
theorem dY_init_388 : decode cY_init 388 = .ok (.getfield 35, 3) := by decide +kernel
theorem dY_init_391 : decode cY_init 391 = .ok (.iconst 4, 1) := by decide +kernel
theorem dY_init_392 : decode cY_init 392 = .ok (.dup2, 1) := by decide +kernel
theorem dY_init_393 : decode cY_init 393 = .ok (.iaload, 1) := by decide +kernel
theorem dY_init_394 : decode cY_init 394 = .ok (.sipush 2048, 3) := by decide +kernel
theorem dY_init_397 : decode cY_init 397 = .ok (.ior, 1) := by decide +kernel
theorem dY_init_398 : decode cY_init 398 = .ok (.iastore, 1) := by decide +kernel
theorem dY_init_399 : decode cY_init 399 = .ok (.aload_n 0, 1) := by decide +kernel
theorem dY_init_400 : decode cY_init 400 = .ok (.getfield 35, 3) := by decide +kernel
theorem dY_init_403 : decode cY_init 403 = .ok (.bipush 6, 2) := by decide +kernel
theorem dY_init_405 : decode cY_init 405 = .ok (.dup2, 1) := by decide +kernel
theorem dY_init_406 : decode cY_init 406 = .ok (.iaload, 1) := by decide +kernel
theorem dY_init_407 : decode cY_init 407 = .ok (.sipush 2048, 3) := by decide +kernel
theorem dY_init_410 : decode cY_init 410 = .ok (.ior, 1) := by decide +kernel
theorem dY_init_411 : decode cY_init 411 = .ok (.iastore, 1) := by decide +kernel
theorem dY_init_412 : decode cY_init 412 = .ok (.return_, 1) := by decide +kernel
theorem dY_bits_0 : decode cY_bits 0 = .ok (.iconst 1, 1) := by decide +kernel
theorem dY_bits_1 : decode cY_bits 1 = .ok (.iload_n 0, 1) := by decide +kernel
theorem dY_bits_2 : decode cY_bits 2 = .ok (.ishl, 1) := by decide +kernel
theorem dY_bits_3 : decode cY_bits 3 = .ok (.iconst 1, 1) := by decide +kernel
theorem dY_bits_4 : decode cY_bits 4 = .ok (.iload_n 1, 1) := by decide +kernel
theorem dY_bits_5 : decode cY_bits 5 = .ok (.ishl, 1) := by decide +kernel
theorem dY_bits_6 : decode cY_bits 6 = .ok (.ior, 1) := by decide +kernel
theorem dY_bits_7 : decode cY_bits 7 = .ok (.iconst 1, 1) := by decide +kernel
theorem dY_bits_8 : decode cY_bits 8 = .ok (.iload_n 2, 1) := by decide +kernel
theorem dY_bits_9 : decode cY_bits 9 = .ok (.ishl, 1) := by decide +kernel
theorem dY_bits_10 : decode cY_bits 10 = .ok (.ior, 1) := by decide +kernel
theorem dY_bits_11 : decode cY_bits 11 = .ok (.iconst 1, 1) := by decide +kernel
theorem dY_bits_12 : decode cY_bits 12 = .ok (.iload_n 3, 1) := by decide +kernel
theorem dY_bits_13 : decode cY_bits 13 = .ok (.ishl, 1) := by decide +kernel
theorem dY_bits_14 : decode cY_bits 14 = .ok (.ior, 1) := by decide +kernel
theorem dY_bits_15 : decode cY_bits 15 = .ok (.ireturn, 1) := by decide +kernel
theorem dY_inn_0 : decode cY_inn 0 = .ok (.iload_n 0, 1) := by decide +kernel
theorem dY_inn_1 : decode cY_inn 1 = .ok (.iload_n 1, 1) := by decide +kernel
theorem dY_inn_2 : decode cY_inn 2 = .ok (.if_icmp .lt 12, 3) := by decide +kernel
theorem dY_inn_5 : decode cY_inn 5 = .ok (.iload_n 0, 1) := by decide +kernel
theorem dY_inn_6 : decode cY_inn 6 = .ok (.iload_n 2, 1) := by decide +kernel
theorem dY_inn_7 : decode cY_inn 7 = .ok (.if_icmp .gt 7, 3) := by decide +kernel
theorem dY_inn_10 : decode cY_inn 10 = .ok (.iconst 1, 1) := by decide +kernel
theorem dY_inn_11 : decode cY_inn 11 = .ok (.goto 4, 3) := by decide +kernel
theorem dY_inn_14 : decode cY_inn 14 = .ok (.iconst 0, 1) := by decide +kernel
theorem dY_inn_15 : decode cY_inn 15 = .ok (.ireturn, 1) := by decide +kernel
theorem dY_note_0 : decode cY_note 0 = .ok (.bipush 15, 2) := by decide +kernel
theorem dY_note_2 : decode cY_note 2 = .ok (.istore_n 2, 1) := by decide +kernel
theorem dY_note_3 : decode cY_note 3 = .ok (.iload_n 2, 1) := by decide +kernel
theorem dY_note_4 : decode cY_note 4 = .ok (.ifCond .le 23, 3) := by decide +kernel
theorem dY_note_7 : decode cY_note 7 = .ok (.aload_n 0, 1) := by decide +kernel
theorem dY_note_8 : decode cY_note 8 = .ok (.getfield 38, 3) := by decide +kernel
theorem dY_note_11 : decode cY_note 11 = .ok (.iload_n 2, 1) := by decide +kernel
theorem dY_note_12 : decode cY_note 12 = .ok (.aload_n 0, 1) := by decide +kernel
theorem dY_note_13 : decode cY_note 13 = .ok (.getfield 38, 3) := by decide +kernel
theorem dY_note_16 : decode cY_note 16 = .ok (.iload_n 2, 1) := by decide +kernel
theorem dY_note_17 : decode cY_note 17 = .ok (.iconst 1, 1) := by decide +kernel
theorem dY_note_18 : decode cY_note 18 = .ok (.isub, 1) := by decide +kernel
theorem dY_note_19 : decode cY_note 19 = .ok (.iaload, 1) := by decide +kernel
theorem dY_note_20 : decode cY_note 20 = .ok (.iastore, 1) := by decide +kernel
theorem dY_note_21 : decode cY_note 21 = .ok (.iinc 2 (-1), 3) := by decide +kernel
theorem dY_note_24 : decode cY_note 24 = .ok (.goto (-21), 3) := by decide +kernel
theorem dY_note_27 : decode cY_note 27 = .ok (.aload_n 0, 1) := by decide +kernel
theorem dY_note_28 : decode cY_note 28 = .ok (.getfield 38, 3) := by decide +kernel
theorem dY_note_31 : decode cY_note 31 = .ok (.iconst 0, 1) := by decide +kernel
theorem dY_note_32 : decode cY_note 32 = .ok (.iload_n 1, 1) := by decide +kernel
theorem dY_note_33 : decode cY_note 33 = .ok (.iastore, 1) := by decide +kernel
theorem dY_note_34 : decode cY_note 34 = .ok (.aload_n 0, 1) := by decide +kernel
theorem dY_note_35 : decode cY_note 35 = .ok (.dup, 1) := by decide +kernel
theorem dY_note_36 : decode cY_note 36 = .ok (.getfield 45, 3) := by decide +kernel
theorem dY_note_39 : decode cY_note 39 = .ok (.iconst 1, 1) := by decide +kernel
theorem dY_note_40 : decode cY_note 40 = .ok (.iadd, 1) := by decide +kernel
theorem dY_note_41 : decode cY_note 41 = .ok (.putfield 45, 3) := by decide +kernel
theorem dY_note_44 : decode cY_note 44 = .ok (.return_, 1) := by decide +kernel
theorem dY_of_0 : decode cY_of 0 = .ok (.iload_n 1, 1) := by decide +kernel
theorem dY_of_1 : decode cY_of 1 = .ok (.ifCond .le 25, 3) := by decide +kernel
theorem dY_of_4 : decode cY_of 4 = .ok (.aload_n 0, 1) := by decide +kernel
theorem dY_of_5 : decode cY_of 5 = .ok (.getfield 32, 3) := by decide +kernel
theorem dY_of_8 : decode cY_of 8 = .ok (.aload_n 0, 1) := by decide +kernel
theorem dY_of_9 : decode cY_of 9 = .ok (.getfield 7, 3) := by decide +kernel
theorem dY_of_12 : decode cY_of 12 = .ok (.iload_n 1, 1) := by decide +kernel
theorem dY_of_13 : decode cY_of 13 = .ok (.iaload, 1) := by decide +kernel
theorem dY_of_14 : decode cY_of 14 = .ok (.iaload, 1) := by decide +kernel
theorem dY_of_15 : decode cY_of 15 = .ok (.iload_n 2, 1) := by decide +kernel
theorem dY_of_16 : decode cY_of 16 = .ok (.ishr, 1) := by decide +kernel
theorem dY_of_17 : decode cY_of 17 = .ok (.iconst 1, 1) := by decide +kernel
theorem dY_of_18 : decode cY_of 18 = .ok (.iand, 1) := by decide +kernel
theorem dY_of_19 : decode cY_of 19 = .ok (.ifCond .eq 7, 3) := by decide +kernel
theorem dY_of_22 : decode cY_of 22 = .ok (.iconst 1, 1) := by decide +kernel
theorem dY_of_23 : decode cY_of 23 = .ok (.goto 4, 3) := by decide +kernel
theorem dY_of_26 : decode cY_of 26 = .ok (.iconst 0, 1) := by decide +kernel
theorem dY_of_27 : decode cY_of 27 = .ok (.ireturn, 1) := by decide +kernel
theorem dY_depth_0 : decode cY_depth 0 = .ok (.iconst 0, 1) := by decide +kernel
theorem dY_depth_1 : decode cY_depth 1 = .ok (.istore_n 2, 1) := by decide +kernel
theorem dY_depth_2 : decode cY_depth 2 = .ok (.iload_n 1, 1) := by decide +kernel
theorem dY_depth_3 : decode cY_depth 3 = .ok (.istore_n 3, 1) := by decide +kernel
theorem dY_depth_4 : decode cY_depth 4 = .ok (.aload_n 0, 1) := by decide +kernel
theorem dY_depth_5 : decode cY_depth 5 = .ok (.getfield 7, 3) := by decide +kernel
theorem dY_depth_8 : decode cY_depth 8 = .ok (.iload_n 3, 1) := by decide +kernel
theorem dY_depth_9 : decode cY_depth 9 = .ok (.iaload, 1) := by decide +kernel
theorem dY_depth_10 : decode cY_depth 10 = .ok (.bipush 8, 2) := by decide +kernel
theorem dY_depth_12 : decode cY_depth 12 = .ok (.if_icmp .ne 20, 3) := by decide +kernel
theorem dY_depth_15 : decode cY_depth 15 = .ok (.iload_n 3, 1) := by decide +kernel
theorem dY_depth_16 : decode cY_depth 16 = .ok (.ifCond .le 16, 3) := by decide +kernel
theorem dY_depth_19 : decode cY_depth 19 = .ok (.iinc 2 1, 3) := by decide +kernel
theorem dY_depth_22 : decode cY_depth 22 = .ok (.aload_n 0, 1) := by decide +kernel
theorem dY_depth_23 : decode cY_depth 23 = .ok (.getfield 16, 3) := by decide +kernel
theorem dY_depth_26 : decode cY_depth 26 = .ok (.iload_n 3, 1) := by decide +kernel
theorem dY_depth_27 : decode cY_depth 27 = .ok (.iaload, 1) := by decide +kernel
theorem dY_depth_28 : decode cY_depth 28 = .ok (.istore_n 3, 1) := by decide +kernel
theorem dY_depth_29 : decode cY_depth 29 = .ok (.goto (-25), 3) := by decide +kernel
theorem dY_depth_32 : decode cY_depth 32 = .ok (.iload_n 2, 1) := by decide +kernel
theorem dY_depth_33 : decode cY_depth 33 = .ok (.ireturn, 1) := by decide +kernel
theorem dY_make_0 : decode cY_make 0 = .ok (.iload_n 1, 1) := by decide +kernel
theorem dY_make_1 : decode cY_make 1 = .ok (.iconst 0, 1) := by decide +kernel
theorem dY_make_2 : decode cY_make 2 = .ok (.bipush 7, 2) := by decide +kernel
theorem dY_make_4 : decode cY_make 4 = .ok (.invokestatic 48, 3) := by decide +kernel
theorem dY_make_7 : decode cY_make 7 = .ok (.ifCond .eq 13, 3) := by decide +kernel
theorem dY_make_10 : decode cY_make 10 = .ok (.iload_n 2, 1) := by decide +kernel
theorem dY_make_11 : decode cY_make 11 = .ok (.iconst 0, 1) := by decide +kernel
theorem dY_make_12 : decode cY_make 12 = .ok (.bipush 9, 2) := by decide +kernel
theorem dY_make_14 : decode cY_make 14 = .ok (.invokestatic 48, 3) := by decide +kernel
theorem dY_make_17 : decode cY_make 17 = .ok (.ifCond .ne 5, 3) := by decide +kernel
theorem dY_make_20 : decode cY_make 20 = .ok (.iconst (-1), 1) := by decide +kernel
theorem dY_make_21 : decode cY_make 21 = .ok (.ireturn, 1) := by decide +kernel
theorem dY_make_22 : decode cY_make 22 = .ok (.iload_n 2, 1) := by decide +kernel
theorem dY_make_23 : decode cY_make 23 = .ok (.iconst 4, 1) := by decide +kernel
theorem dY_make_24 : decode cY_make 24 = .ok (.if_icmp .eq 8, 3) := by decide +kernel
theorem dY_make_27 : decode cY_make 27 = .ok (.iload_n 2, 1) := by decide +kernel
theorem dY_make_28 : decode cY_make 28 = .ok (.iconst 5, 1) := by decide +kernel
theorem dY_make_29 : decode cY_make 29 = .ok (.if_icmp .ne 21, 3) := by decide +kernel
theorem dY_make_32 : decode cY_make 32 = .ok (.aload_n 0, 1) := by decide +kernel
theorem dY_make_33 : decode cY_make 33 = .ok (.getfield 23, 3) := by decide +kernel
theorem dY_make_36 : decode cY_make 36 = .ok (.iload_n 1, 1) := by decide +kernel
theorem dY_make_37 : decode cY_make 37 = .ok (.iload_n 2, 1) := by decide +kernel
theorem dY_make_38 : decode cY_make 38 = .ok (.iconst 4, 1) := by decide +kernel
theorem dY_make_39 : decode cY_make 39 = .ok (.if_icmp .ne 7, 3) := by decide +kernel
theorem dY_make_42 : decode cY_make 42 = .ok (.iconst 1, 1) := by decide +kernel
theorem dY_make_43 : decode cY_make 43 = .ok (.goto 4, 3) := by decide +kernel
theorem dY_make_46 : decode cY_make 46 = .ok (.iconst 2, 1) := by decide +kernel
theorem dY_make_47 : decode cY_make 47 = .ok (.iastore, 1) := by decide +kernel
theorem dY_make_48 : decode cY_make 48 = .ok (.iconst 0, 1) := by decide +kernel
theorem dY_make_49 : decode cY_make 49 = .ok (.ireturn, 1) := by decide +kernel
theorem dY_make_50 : decode cY_make 50 = .ok (.aload_n 0, 1) := by decide +kernel
theorem dY_make_51 : decode cY_make 51 = .ok (.getfield 23, 3) := by decide +kernel
theorem dY_make_54 : decode cY_make 54 = .ok (.iload_n 3, 1) := by decide +kernel
theorem dY_make_55 : decode cY_make 55 = .ok (.bipush 7, 2) := by decide +kernel
theorem dY_make_57 : decode cY_make 57 = .ok (.iand, 1) := by decide +kernel
theorem dY_make_58 : decode cY_make 58 = .ok (.iaload, 1) := by decide +kernel
theorem dY_make_59 : decode cY_make 59 = .ok (.istore 4, 2) := by decide +kernel
theorem dY_make_61 : decode cY_make 61 = .ok (.iload_n 2, 1) := by decide +kernel
theorem dY_make_62 : decode cY_make 62 = .ok (.bipush 8, 2) := by decide +kernel
theorem dY_make_64 : decode cY_make 64 = .ok (.if_icmp .ne 10, 3) := by decide +kernel
theorem dY_make_67 : decode cY_make 67 = .ok (.iload 4, 2) := by decide +kernel
theorem dY_make_69 : decode cY_make 69 = .ok (.ifCond .ne 5, 3) := by decide +kernel
theorem dY_make_72 : decode cY_make 72 = .ok (.iconst 2, 1) := by decide +kernel
theorem dY_make_73 : decode cY_make 73 = .ok (.ireturn, 1) := by decide +kernel
theorem dY_make_74 : decode cY_make 74 = .ok (.iload_n 2, 1) := by decide +kernel
theorem dY_make_75 : decode cY_make 75 = .ok (.bipush 8, 2) := by decide +kernel
theorem dY_make_77 : decode cY_make 77 = .ok (.if_icmp .ne 15, 3) := by decide +kernel
theorem dY_make_80 : decode cY_make 80 = .ok (.aload_n 0, 1) := by decide +kernel
theorem dY_make_81 : decode cY_make 81 = .ok (.iload 4, 2) := by decide +kernel
theorem dY_make_83 : decode cY_make 83 = .ok (.invokevirtual 52, 3) := by decide +kernel
theorem dY_make_86 : decode cY_make 86 = .ok (.iconst 3, 1) := by decide +kernel
theorem dY_make_87 : decode cY_make 87 = .ok (.if_icmp .ne 5, 3) := by decide +kernel
theorem dY_make_90 : decode cY_make 90 = .ok (.iconst (-1), 1) := by decide +kernel
theorem dY_make_91 : decode cY_make 91 = .ok (.ireturn, 1) := by decide +kernel
theorem dY_make_92 : decode cY_make 92 = .ok (.aload_n 0, 1) := by decide +kernel
theorem dY_make_93 : decode cY_make 93 = .ok (.dup, 1) := by decide +kernel
theorem dY_make_94 : decode cY_make 94 = .ok (.getfield 19, 3) := by decide +kernel
theorem dY_make_97 : decode cY_make 97 = .ok (.iconst 1, 1) := by decide +kernel
theorem dY_make_98 : decode cY_make 98 = .ok (.iadd, 1) := by decide +kernel
theorem dY_make_99 : decode cY_make 99 = .ok (.putfield 19, 3) := by decide +kernel
theorem dY_make_102 : decode cY_make 102 = .ok (.aload_n 0, 1) := by decide +kernel
theorem dY_make_103 : decode cY_make 103 = .ok (.getfield 7, 3) := by decide +kernel
theorem dY_make_106 : decode cY_make 106 = .ok (.aload_n 0, 1) := by decide +kernel
theorem dY_make_107 : decode cY_make 107 = .ok (.getfield 19, 3) := by decide +kernel
theorem dY_make_110 : decode cY_make 110 = .ok (.iload_n 2, 1) := by decide +kernel
theorem dY_make_111 : decode cY_make 111 = .ok (.iastore, 1) := by decide +kernel
theorem dY_make_112 : decode cY_make 112 = .ok (.aload_n 0, 1) := by decide +kernel
theorem dY_make_113 : decode cY_make 113 = .ok (.getfield 13, 3) := by decide +kernel
theorem dY_make_116 : decode cY_make 116 = .ok (.aload_n 0, 1) := by decide +kernel
theorem dY_make_117 : decode cY_make 117 = .ok (.getfield 19, 3) := by decide +kernel
theorem dY_make_120 : decode cY_make 120 = .ok (.iload_n 3, 1) := by decide +kernel
theorem dY_make_121 : decode cY_make 121 = .ok (.iastore, 1) := by decide +kernel
theorem dY_make_122 : decode cY_make 122 = .ok (.aload_n 0, 1) := by decide +kernel
theorem dY_make_123 : decode cY_make 123 = .ok (.getfield 16, 3) := by decide +kernel
theorem dY_make_126 : decode cY_make 126 = .ok (.aload_n 0, 1) := by decide +kernel
theorem dY_make_127 : decode cY_make 127 = .ok (.getfield 19, 3) := by decide +kernel
theorem dY_make_130 : decode cY_make 130 = .ok (.iload 4, 2) := by decide +kernel
theorem dY_make_132 : decode cY_make 132 = .ok (.iastore, 1) := by decide +kernel
theorem dY_make_133 : decode cY_make 133 = .ok (.aload_n 0, 1) := by decide +kernel
theorem dY_make_134 : decode cY_make 134 = .ok (.getfield 23, 3) := by decide +kernel
theorem dY_make_137 : decode cY_make 137 = .ok (.iload_n 1, 1) := by decide +kernel
theorem dY_make_138 : decode cY_make 138 = .ok (.aload_n 0, 1) := by decide +kernel
theorem dY_make_139 : decode cY_make 139 = .ok (.getfield 19, 3) := by decide +kernel
theorem dY_make_142 : decode cY_make 142 = .ok (.iastore, 1) := by decide +kernel
theorem dY_make_143 : decode cY_make 143 = .ok (.iload_n 2, 1) := by decide +kernel
theorem dY_make_144 : decode cY_make 144 = .ok (.ifCond .ne 12, 3) := by decide +kernel
theorem dY_make_147 : decode cY_make 147 = .ok (.aload_n 0, 1) := by decide +kernel
theorem dY_make_148 : decode cY_make 148 = .ok (.bipush 20, 2) := by decide +kernel
theorem dY_make_150 : decode cY_make 150 = .ok (.invokevirtual 56, 3) := by decide +kernel
theorem dY_make_153 : decode cY_make 153 = .ok (.goto 27, 3) := by decide +kernel
theorem dY_make_156 : decode cY_make 156 = .ok (.aload_n 0, 1) := by decide +kernel
theorem dY_make_157 : decode cY_make 157 = .ok (.aload_n 0, 1) := by decide +kernel
theorem dY_make_158 : decode cY_make 158 = .ok (.getfield 19, 3) := by decide +kernel
theorem dY_make_161 : decode cY_make 161 = .ok (.iconst 3, 1) := by decide +kernel
theorem dY_make_162 : decode cY_make 162 = .ok (.invokevirtual 60, 3) := by decide +kernel
theorem dY_make_165 : decode cY_make 165 = .ok (.ifCond .eq 15, 3) := by decide +kernel
theorem dY_make_168 : decode cY_make 168 = .ok (.aload_n 0, 1) := by decide +kernel
theorem dY_make_169 : decode cY_make 169 = .ok (.aload_n 0, 1) := by decide +kernel
theorem dY_make_170 : decode cY_make 170 = .ok (.aload_n 0, 1) := by decide +kernel
theorem dY_make_171 : decode cY_make 171 = .ok (.getfield 19, 3) := by decide +kernel
theorem dY_make_174 : decode cY_make 174 = .ok (.invokevirtual 64, 3) := by decide +kernel
theorem dY_make_177 : decode cY_make 177 = .ok (.invokevirtual 56, 3) := by decide +kernel
theorem dY_make_180 : decode cY_make 180 = .ok (.iload_n 2, 1) := by decide +kernel
theorem dY_make_181 : decode cY_make 181 = .ok (.bipush 9, 2) := by decide +kernel
theorem dY_make_183 : decode cY_make 183 = .ok (.if_icmp .ne 10, 3) := by decide +kernel
theorem dY_make_186 : decode cY_make 186 = .ok (.aload_n 0, 1) := by decide +kernel
theorem dY_make_187 : decode cY_make 187 = .ok (.iload_n 3, 1) := by decide +kernel
theorem dY_make_188 : decode cY_make 188 = .ok (.iconst 1, 1) := by decide +kernel
theorem dY_make_189 : decode cY_make 189 = .ok (.iadd, 1) := by decide +kernel
theorem dY_make_190 : decode cY_make 190 = .ok (.invokevirtual 56, 3) := by decide +kernel
theorem dY_make_193 : decode cY_make 193 = .ok (.iconst 0, 1) := by decide +kernel
theorem dY_make_194 : decode cY_make 194 = .ok (.ireturn, 1) := by decide +kernel
theorem dY_drop_0 : decode cY_drop 0 = .ok (.iload_n 1, 1) := by decide +kernel
theorem dY_drop_1 : decode cY_drop 1 = .ok (.iconst 0, 1) := by decide +kernel
theorem dY_drop_2 : decode cY_drop 2 = .ok (.bipush 7, 2) := by decide +kernel
theorem dY_drop_4 : decode cY_drop 4 = .ok (.invokestatic 48, 3) := by decide +kernel
theorem dY_drop_7 : decode cY_drop 7 = .ok (.ifCond .ne 5, 3) := by decide +kernel
theorem dY_drop_10 : decode cY_drop 10 = .ok (.iconst (-1), 1) := by decide +kernel
theorem dY_drop_11 : decode cY_drop 11 = .ok (.ireturn, 1) := by decide +kernel
theorem dY_drop_12 : decode cY_drop 12 = .ok (.aload_n 0, 1) := by decide +kernel
theorem dY_drop_13 : decode cY_drop 13 = .ok (.getfield 23, 3) := by decide +kernel
theorem dY_drop_16 : decode cY_drop 16 = .ok (.iload_n 1, 1) := by decide +kernel
theorem dY_drop_17 : decode cY_drop 17 = .ok (.iaload, 1) := by decide +kernel
theorem dY_drop_18 : decode cY_drop 18 = .ok (.istore_n 2, 1) := by decide +kernel
theorem dY_drop_19 : decode cY_drop 19 = .ok (.aload_n 0, 1) := by decide +kernel
theorem dY_drop_20 : decode cY_drop 20 = .ok (.getfield 23, 3) := by decide +kernel
theorem dY_drop_23 : decode cY_drop 23 = .ok (.iload_n 1, 1) := by decide +kernel
theorem dY_drop_24 : decode cY_drop 24 = .ok (.iconst 0, 1) := by decide +kernel
theorem dY_drop_25 : decode cY_drop 25 = .ok (.iastore, 1) := by decide +kernel
theorem dY_drop_26 : decode cY_drop 26 = .ok (.iload_n 2, 1) := by decide +kernel
theorem dY_drop_27 : decode cY_drop 27 = .ok (.ifCond .ne 7, 3) := by decide +kernel
theorem dY_drop_30 : decode cY_drop 30 = .ok (.iconst 2, 1) := by decide +kernel
theorem dY_drop_31 : decode cY_drop 31 = .ok (.goto 4, 3) := by decide +kernel
theorem dY_drop_34 : decode cY_drop 34 = .ok (.iconst 0, 1) := by decide +kernel
theorem dY_drop_35 : decode cY_drop 35 = .ok (.ireturn, 1) := by decide +kernel
theorem dY_call_0 : decode cY_call 0 = .ok (.iload_n 1, 1) := by decide +kernel
theorem dY_call_1 : decode cY_call 1 = .ok (.istore_n 3, 1) := by decide +kernel
theorem dY_call_2 : decode cY_call 2 = .ok (.aload_n 0, 1) := by decide +kernel
theorem dY_call_3 : decode cY_call 3 = .ok (.getfield 7, 3) := by decide +kernel
theorem dY_call_6 : decode cY_call 6 = .ok (.iload_n 3, 1) := by decide +kernel
theorem dY_call_7 : decode cY_call 7 = .ok (.iaload, 1) := by decide +kernel
theorem dY_call_8 : decode cY_call 8 = .ok (.bipush 8, 2) := by decide +kernel
theorem dY_call_10 : decode cY_call 10 = .ok (.if_icmp .ne 13, 3) := by decide +kernel
theorem dY_call_13 : decode cY_call 13 = .ok (.aload_n 0, 1) := by decide +kernel
theorem dY_call_14 : decode cY_call 14 = .ok (.getfield 16, 3) := by decide +kernel
theorem dY_call_17 : decode cY_call 17 = .ok (.iload_n 3, 1) := by decide +kernel
theorem dY_call_18 : decode cY_call 18 = .ok (.iaload, 1) := by decide +kernel
theorem dY_call_19 : decode cY_call 19 = .ok (.istore_n 3, 1) := by decide +kernel
theorem dY_call_20 : decode cY_call 20 = .ok (.goto (-18), 3) := by decide +kernel
theorem dY_call_23 : decode cY_call 23 = .ok (.aload_n 0, 1) := by decide +kernel
theorem dY_call_24 : decode cY_call 24 = .ok (.getfield 7, 3) := by decide +kernel
theorem dY_call_27 : decode cY_call 27 = .ok (.iload_n 3, 1) := by decide +kernel
theorem dY_call_28 : decode cY_call 28 = .ok (.iaload, 1) := by decide +kernel
theorem dY_call_29 : decode cY_call 29 = .ok (.tableswitch 126 0 9 #[55, 64, 73, 126, 84, 88, 93, 117, 126, 64], 55) := by decide +kernel
theorem dY_call_84 : decode cY_call 84 = .ok (.iload_n 2, 1) := by decide +kernel
theorem dY_call_85 : decode cY_call 85 = .ok (.aload_n 0, 1) := by decide +kernel
theorem dY_call_86 : decode cY_call 86 = .ok (.getfield 13, 3) := by decide +kernel
theorem dY_call_89 : decode cY_call 89 = .ok (.iload_n 3, 1) := by decide +kernel
theorem dY_call_90 : decode cY_call 90 = .ok (.iaload, 1) := by decide +kernel
theorem dY_call_91 : decode cY_call 91 = .ok (.iadd, 1) := by decide +kernel
theorem dY_call_92 : decode cY_call 92 = .ok (.ireturn, 1) := by decide +kernel
theorem dY_call_93 : decode cY_call 93 = .ok (.iload_n 2, 1) := by decide +kernel
theorem dY_call_94 : decode cY_call 94 = .ok (.aload_n 0, 1) := by decide +kernel
theorem dY_call_95 : decode cY_call 95 = .ok (.getfield 13, 3) := by decide +kernel
theorem dY_call_98 : decode cY_call 98 = .ok (.iload_n 3, 1) := by decide +kernel
theorem dY_call_99 : decode cY_call 99 = .ok (.iaload, 1) := by decide +kernel
theorem dY_call_100 : decode cY_call 100 = .ok (.isub, 1) := by decide +kernel
theorem dY_call_101 : decode cY_call 101 = .ok (.ireturn, 1) := by decide +kernel
theorem dY_call_102 : decode cY_call 102 = .ok (.iconst 2, 1) := by decide +kernel
theorem dY_call_103 : decode cY_call 103 = .ok (.iload_n 2, 1) := by decide +kernel
theorem dY_call_104 : decode cY_call 104 = .ok (.aload_n 0, 1) := by decide +kernel
theorem dY_call_105 : decode cY_call 105 = .ok (.getfield 13, 3) := by decide +kernel
theorem dY_call_108 : decode cY_call 108 = .ok (.iload_n 3, 1) := by decide +kernel
theorem dY_call_109 : decode cY_call 109 = .ok (.iaload, 1) := by decide +kernel
theorem dY_call_110 : decode cY_call 110 = .ok (.isub, 1) := by decide +kernel
theorem dY_call_111 : decode cY_call 111 = .ok (.imul, 1) := by decide +kernel
theorem dY_call_112 : decode cY_call 112 = .ok (.ireturn, 1) := by decide +kernel
theorem dY_call_113 : decode cY_call 113 = .ok (.iload_n 2, 1) := by decide +kernel
theorem dY_call_114 : decode cY_call 114 = .ok (.iconst 2, 1) := by decide +kernel
theorem dY_call_115 : decode cY_call 115 = .ok (.iadd, 1) := by decide +kernel
theorem dY_call_116 : decode cY_call 116 = .ok (.ireturn, 1) := by decide +kernel
theorem dY_call_117 : decode cY_call 117 = .ok (.bipush 9, 2) := by decide +kernel
theorem dY_call_119 : decode cY_call 119 = .ok (.iload_n 2, 1) := by decide +kernel
theorem dY_call_120 : decode cY_call 120 = .ok (.imul, 1) := by decide +kernel
theorem dY_call_121 : decode cY_call 121 = .ok (.ireturn, 1) := by decide +kernel
theorem dY_call_122 : decode cY_call 122 = .ok (.aload_n 0, 1) := by decide +kernel
theorem dY_call_123 : decode cY_call 123 = .ok (.dup, 1) := by decide +kernel
theorem dY_call_124 : decode cY_call 124 = .ok (.getfield 67, 3) := by decide +kernel
theorem dY_call_127 : decode cY_call 127 = .ok (.iconst 1, 1) := by decide +kernel
theorem dY_call_128 : decode cY_call 128 = .ok (.iadd, 1) := by decide +kernel
theorem dY_call_129 : decode cY_call 129 = .ok (.putfield 67, 3) := by decide +kernel
theorem dY_call_132 : decode cY_call 132 = .ok (.iload_n 2, 1) := by decide +kernel
theorem dY_call_133 : decode cY_call 133 = .ok (.aload_n 0, 1) := by decide +kernel
theorem dY_call_134 : decode cY_call 134 = .ok (.getfield 13, 3) := by decide +kernel
theorem dY_call_137 : decode cY_call 137 = .ok (.iload_n 3, 1) := by decide +kernel
theorem dY_call_138 : decode cY_call 138 = .ok (.iaload, 1) := by decide +kernel
theorem dY_call_139 : decode cY_call 139 = .ok (.iadd, 1) := by decide +kernel
theorem dY_call_140 : decode cY_call 140 = .ok (.aload_n 0, 1) := by decide +kernel
theorem dY_call_141 : decode cY_call 141 = .ok (.getfield 67, 3) := by decide +kernel
theorem dY_call_144 : decode cY_call 144 = .ok (.iadd, 1) := by decide +kernel
theorem dY_call_145 : decode cY_call 145 = .ok (.ireturn, 1) := by decide +kernel
theorem dY_call_146 : decode cY_call 146 = .ok (.iload_n 2, 1) := by decide +kernel
theorem dY_call_147 : decode cY_call 147 = .ok (.aload_n 0, 1) := by decide +kernel
theorem dY_call_148 : decode cY_call 148 = .ok (.getfield 13, 3) := by decide +kernel
theorem dY_call_151 : decode cY_call 151 = .ok (.iload_n 3, 1) := by decide +kernel
theorem dY_call_152 : decode cY_call 152 = .ok (.iaload, 1) := by decide +kernel
theorem dY_call_153 : decode cY_call 153 = .ok (.imul, 1) := by decide +kernel
theorem dY_call_154 : decode cY_call 154 = .ok (.ireturn, 1) := by decide +kernel
theorem dY_call_155 : decode cY_call 155 = .ok (.iload_n 2, 1) := by decide +kernel
theorem dY_call_156 : decode cY_call 156 = .ok (.ireturn, 1) := by decide +kernel
theorem dY_twice_0 : decode cY_twice 0 = .ok (.aload_n 0, 1) := by decide +kernel
theorem dY_twice_1 : decode cY_twice 1 = .ok (.getfield 7, 3) := by decide +kernel
theorem dY_twice_4 : decode cY_twice 4 = .ok (.iload_n 1, 1) := by decide +kernel
theorem dY_twice_5 : decode cY_twice 5 = .ok (.iaload, 1) := by decide +kernel
theorem dY_twice_6 : decode cY_twice 6 = .ok (.tableswitch 83 0 9 #[54, 63, 72, 83, 54, 54, 83, 83, 83, 63], 54) := by decide +kernel
theorem dY_twice_60 : decode cY_twice 60 = .ok (.iconst 2, 1) := by decide +kernel
theorem dY_twice_61 : decode cY_twice 61 = .ok (.aload_n 0, 1) := by decide +kernel
theorem dY_twice_62 : decode cY_twice 62 = .ok (.iload_n 1, 1) := by decide +kernel
theorem dY_twice_63 : decode cY_twice 63 = .ok (.iload_n 2, 1) := by decide +kernel
theorem dY_twice_64 : decode cY_twice 64 = .ok (.invokevirtual 70, 3) := by decide +kernel
theorem dY_twice_67 : decode cY_twice 67 = .ok (.imul, 1) := by decide +kernel
theorem dY_twice_68 : decode cY_twice 68 = .ok (.ireturn, 1) := by decide +kernel
theorem dY_twice_69 : decode cY_twice 69 = .ok (.aload_n 0, 1) := by decide +kernel
theorem dY_twice_70 : decode cY_twice 70 = .ok (.iload_n 1, 1) := by decide +kernel
theorem dY_twice_71 : decode cY_twice 71 = .ok (.iload_n 2, 1) := by decide +kernel
theorem dY_twice_72 : decode cY_twice 72 = .ok (.invokevirtual 70, 3) := by decide +kernel
theorem dY_twice_75 : decode cY_twice 75 = .ok (.iconst 1, 1) := by decide +kernel
theorem dY_twice_76 : decode cY_twice 76 = .ok (.isub, 1) := by decide +kernel
theorem dY_twice_77 : decode cY_twice 77 = .ok (.ireturn, 1) := by decide +kernel
theorem dY_twice_78 : decode cY_twice 78 = .ok (.iconst 3, 1) := by decide +kernel
theorem dY_twice_79 : decode cY_twice 79 = .ok (.aload_n 0, 1) := by decide +kernel
theorem dY_twice_80 : decode cY_twice 80 = .ok (.iload_n 1, 1) := by decide +kernel
theorem dY_twice_81 : decode cY_twice 81 = .ok (.iload_n 2, 1) := by decide +kernel
theorem dY_twice_82 : decode cY_twice 82 = .ok (.invokevirtual 70, 3) := by decide +kernel
theorem dY_twice_85 : decode cY_twice 85 = .ok (.imul, 1) := by decide +kernel
theorem dY_twice_86 : decode cY_twice 86 = .ok (.iconst 1, 1) := by decide +kernel
theorem dY_twice_87 : decode cY_twice 87 = .ok (.isub, 1) := by decide +kernel
theorem dY_twice_88 : decode cY_twice 88 = .ok (.ireturn, 1) := by decide +kernel
theorem dY_twice_89 : decode cY_twice 89 = .ok (.aload_n 0, 1) := by decide +kernel
theorem dY_twice_90 : decode cY_twice 90 = .ok (.iload_n 1, 1) := by decide +kernel
theorem dY_twice_91 : decode cY_twice 91 = .ok (.iload_n 2, 1) := by decide +kernel
theorem dY_twice_92 : decode cY_twice 92 = .ok (.invokevirtual 70, 3) := by decide +kernel
theorem dY_twice_95 : decode cY_twice 95 = .ok (.istore_n 3, 1) := by decide +kernel
theorem dY_twice_96 : decode cY_twice 96 = .ok (.aload_n 0, 1) := by decide +kernel
theorem dY_twice_97 : decode cY_twice 97 = .ok (.iload_n 1, 1) := by decide +kernel
theorem dY_twice_98 : decode cY_twice 98 = .ok (.iload_n 3, 1) := by decide +kernel
theorem dY_twice_99 : decode cY_twice 99 = .ok (.invokevirtual 70, 3) := by decide +kernel
theorem dY_twice_102 : decode cY_twice 102 = .ok (.ireturn, 1) := by decide +kernel
theorem dY_volume_0 : decode cY_volume 0 = .ok (.aload_n 0, 1) := by decide +kernel
theorem dY_volume_1 : decode cY_volume 1 = .ok (.getfield 7, 3) := by decide +kernel
theorem dY_volume_4 : decode cY_volume 4 = .ok (.iload_n 1, 1) := by decide +kernel
theorem dY_volume_5 : decode cY_volume 5 = .ok (.iaload, 1) := by decide +kernel
theorem dY_volume_6 : decode cY_volume 6 = .ok (.istore_n 3, 1) := by decide +kernel
theorem dY_volume_7 : decode cY_volume 7 = .ok (.iload_n 3, 1) := by decide +kernel
theorem dY_volume_8 : decode cY_volume 8 = .ok (.iconst 2, 1) := by decide +kernel
theorem dY_volume_9 : decode cY_volume 9 = .ok (.if_icmp .ne 12, 3) := by decide +kernel
theorem dY_volume_12 : decode cY_volume 12 = .ok (.iconst 3, 1) := by decide +kernel
theorem dY_volume_13 : decode cY_volume 13 = .ok (.iload_n 2, 1) := by decide +kernel
theorem dY_volume_14 : decode cY_volume 14 = .ok (.bipush 10, 2) := by decide +kernel
theorem dY_volume_16 : decode cY_volume 16 = .ok (.iadd, 1) := by decide +kernel
theorem dY_volume_17 : decode cY_volume 17 = .ok (.imul, 1) := by decide +kernel
theorem dY_volume_18 : decode cY_volume 18 = .ok (.goto 25, 3) := by decide +kernel
theorem dY_volume_21 : decode cY_volume 21 = .ok (.iload_n 3, 1) := by decide +kernel
theorem dY_volume_22 : decode cY_volume 22 = .ok (.iconst 1, 1) := by decide +kernel
theorem dY_volume_23 : decode cY_volume 23 = .ok (.if_icmp .eq 9, 3) := by decide +kernel
theorem dY_volume_26 : decode cY_volume 26 = .ok (.iload_n 3, 1) := by decide +kernel
theorem dY_volume_27 : decode cY_volume 27 = .ok (.bipush 9, 2) := by decide +kernel
theorem dY_volume_29 : decode cY_volume 29 = .ok (.if_icmp .ne 10, 3) := by decide +kernel
theorem dY_volume_32 : decode cY_volume 32 = .ok (.iload_n 2, 1) := by decide +kernel
theorem dY_volume_33 : decode cY_volume 33 = .ok (.bipush 10, 2) := by decide +kernel
theorem dY_volume_35 : decode cY_volume 35 = .ok (.isub, 1) := by decide +kernel
theorem dY_volume_36 : decode cY_volume 36 = .ok (.goto 7, 3) := by decide +kernel
theorem dY_volume_39 : decode cY_volume 39 = .ok (.iload_n 2, 1) := by decide +kernel
theorem dY_volume_40 : decode cY_volume 40 = .ok (.bipush 10, 2) := by decide +kernel
theorem dY_volume_42 : decode cY_volume 42 = .ok (.iadd, 1) := by decide +kernel
theorem dY_volume_43 : decode cY_volume 43 = .ok (.ireturn, 1) := by decide +kernel
theorem dY_weight_0 : decode cY_weight 0 = .ok (.aload_n 0, 1) := by decide +kernel
theorem dY_weight_1 : decode cY_weight 1 = .ok (.getfield 7, 3) := by decide +kernel
theorem dY_weight_4 : decode cY_weight 4 = .ok (.iload_n 1, 1) := by decide +kernel
theorem dY_weight_5 : decode cY_weight 5 = .ok (.iaload, 1) := by decide +kernel
theorem dY_weight_6 : decode cY_weight 6 = .ok (.tableswitch 56 0 2 #[26, 37, 46], 26) := by decide +kernel
theorem dY_weight_32 : decode cY_weight 32 = .ok (.iconst 2, 1) := by decide +kernel
theorem dY_weight_33 : decode cY_weight 33 = .ok (.aload_n 0, 1) := by decide +kernel
theorem dY_weight_34 : decode cY_weight 34 = .ok (.getfield 13, 3) := by decide +kernel
theorem dY_weight_37 : decode cY_weight 37 = .ok (.iload_n 1, 1) := by decide +kernel
theorem dY_weight_38 : decode cY_weight 38 = .ok (.iaload, 1) := by decide +kernel
theorem dY_weight_39 : decode cY_weight 39 = .ok (.imul, 1) := by decide +kernel
theorem dY_weight_40 : decode cY_weight 40 = .ok (.iconst 1, 1) := by decide +kernel
theorem dY_weight_41 : decode cY_weight 41 = .ok (.iadd, 1) := by decide +kernel
theorem dY_weight_42 : decode cY_weight 42 = .ok (.ireturn, 1) := by decide +kernel
theorem dY_weight_43 : decode cY_weight 43 = .ok (.iconst 3, 1) := by decide +kernel
theorem dY_weight_44 : decode cY_weight 44 = .ok (.aload_n 0, 1) := by decide +kernel
theorem dY_weight_45 : decode cY_weight 45 = .ok (.getfield 13, 3) := by decide +kernel
theorem dY_weight_48 : decode cY_weight 48 = .ok (.iload_n 1, 1) := by decide +kernel
theorem dY_weight_49 : decode cY_weight 49 = .ok (.iaload, 1) := by decide +kernel
theorem dY_weight_50 : decode cY_weight 50 = .ok (.imul, 1) := by decide +kernel
theorem dY_weight_51 : decode cY_weight 51 = .ok (.ireturn, 1) := by decide +kernel
theorem dY_weight_52 : decode cY_weight 52 = .ok (.bipush 6, 2) := by decide +kernel
theorem dY_weight_54 : decode cY_weight 54 = .ok (.aload_n 0, 1) := by decide +kernel
theorem dY_weight_55 : decode cY_weight 55 = .ok (.getfield 13, 3) := by decide +kernel
theorem dY_weight_58 : decode cY_weight 58 = .ok (.iload_n 1, 1) := by decide +kernel
theorem dY_weight_59 : decode cY_weight 59 = .ok (.iaload, 1) := by decide +kernel
theorem dY_weight_60 : decode cY_weight 60 = .ok (.imul, 1) := by decide +kernel
theorem dY_weight_61 : decode cY_weight 61 = .ok (.ireturn, 1) := by decide +kernel
theorem dY_weight_62 : decode cY_weight 62 = .ok (.iconst 4, 1) := by decide +kernel
theorem dY_weight_63 : decode cY_weight 63 = .ok (.aload_n 0, 1) := by decide +kernel
theorem dY_weight_64 : decode cY_weight 64 = .ok (.getfield 13, 3) := by decide +kernel
theorem dY_weight_67 : decode cY_weight 67 = .ok (.iload_n 1, 1) := by decide +kernel
theorem dY_weight_68 : decode cY_weight 68 = .ok (.iaload, 1) := by decide +kernel
theorem dY_weight_69 : decode cY_weight 69 = .ok (.imul, 1) := by decide +kernel
theorem dY_weight_70 : decode cY_weight 70 = .ok (.iconst 1, 1) := by decide +kernel
theorem dY_weight_71 : decode cY_weight 71 = .ok (.iadd, 1) := by decide +kernel
theorem dY_weight_72 : decode cY_weight 72 = .ok (.ireturn, 1) := by decide +kernel
theorem dY_seed_0 : decode cY_seed 0 = .ok (.aload_n 0, 1) := by decide +kernel
theorem dY_seed_1 : decode cY_seed 1 = .ok (.getfield 7, 3) := by decide +kernel
theorem dY_seed_4 : decode cY_seed 4 = .ok (.iload_n 1, 1) := by decide +kernel
theorem dY_seed_5 : decode cY_seed 5 = .ok (.iaload, 1) := by decide +kernel
theorem dY_seed_6 : decode cY_seed 6 = .ok (.ifCond .ne 8, 3) := by decide +kernel
theorem dY_seed_9 : decode cY_seed 9 = .ok (.bipush 24, 2) := by decide +kernel
theorem dY_seed_11 : decode cY_seed 11 = .ok (.goto 26, 3) := by decide +kernel
theorem dY_seed_14 : decode cY_seed 14 = .ok (.aload_n 0, 1) := by decide +kernel
theorem dY_seed_15 : decode cY_seed 15 = .ok (.getfield 7, 3) := by decide +kernel
theorem dY_seed_18 : decode cY_seed 18 = .ok (.iload_n 1, 1) := by decide +kernel
theorem dY_seed_19 : decode cY_seed 19 = .ok (.iaload, 1) := by decide +kernel
theorem dY_seed_20 : decode cY_seed 20 = .ok (.iconst 2, 1) := by decide +kernel
theorem dY_seed_21 : decode cY_seed 21 = .ok (.if_icmp .ne 15, 3) := by decide +kernel
theorem dY_seed_24 : decode cY_seed 24 = .ok (.bipush 30, 2) := by decide +kernel
theorem dY_seed_26 : decode cY_seed 26 = .ok (.aload_n 0, 1) := by decide +kernel
theorem dY_seed_27 : decode cY_seed 27 = .ok (.getfield 13, 3) := by decide +kernel
theorem dY_seed_30 : decode cY_seed 30 = .ok (.iload_n 1, 1) := by decide +kernel
theorem dY_seed_31 : decode cY_seed 31 = .ok (.iaload, 1) := by decide +kernel
theorem dY_seed_32 : decode cY_seed 32 = .ok (.iadd, 1) := by decide +kernel
theorem dY_seed_33 : decode cY_seed 33 = .ok (.goto 4, 3) := by decide +kernel
theorem dY_seed_36 : decode cY_seed 36 = .ok (.iconst 1, 1) := by decide +kernel
theorem dY_seed_37 : decode cY_seed 37 = .ok (.ireturn, 1) := by decide +kernel
theorem dY_answer_0 : decode cY_answer 0 = .ok (.iload_n 3, 1) := by decide +kernel
theorem dY_answer_1 : decode cY_answer 1 = .ok (.tableswitch 178 0 10 #[59, 67, 75, 83, 89, 98, 104, 124, 140, 165, 171], 59) := by decide +kernel
theorem dY_answer_60 : decode cY_answer 60 = .ok (.aload_n 0, 1) := by decide +kernel
theorem dY_answer_61 : decode cY_answer 61 = .ok (.iload_n 1, 1) := by decide +kernel
theorem dY_answer_62 : decode cY_answer 62 = .ok (.iload 4, 2) := by decide +kernel
theorem dY_answer_64 : decode cY_answer 64 = .ok (.invokevirtual 70, 3) := by decide +kernel
theorem dY_answer_67 : decode cY_answer 67 = .ok (.ireturn, 1) := by decide +kernel
theorem dY_answer_68 : decode cY_answer 68 = .ok (.aload_n 0, 1) := by decide +kernel
theorem dY_answer_69 : decode cY_answer 69 = .ok (.iload_n 1, 1) := by decide +kernel
theorem dY_answer_70 : decode cY_answer 70 = .ok (.iload 4, 2) := by decide +kernel
theorem dY_answer_72 : decode cY_answer 72 = .ok (.invokevirtual 74, 3) := by decide +kernel
theorem dY_answer_75 : decode cY_answer 75 = .ok (.ireturn, 1) := by decide +kernel
theorem dY_answer_76 : decode cY_answer 76 = .ok (.aload_n 0, 1) := by decide +kernel
theorem dY_answer_77 : decode cY_answer 77 = .ok (.iload_n 1, 1) := by decide +kernel
theorem dY_answer_78 : decode cY_answer 78 = .ok (.iload 4, 2) := by decide +kernel
theorem dY_answer_80 : decode cY_answer 80 = .ok (.invokevirtual 77, 3) := by decide +kernel
theorem dY_answer_83 : decode cY_answer 83 = .ok (.ireturn, 1) := by decide +kernel
theorem dY_answer_84 : decode cY_answer 84 = .ok (.aload_n 0, 1) := by decide +kernel
theorem dY_answer_85 : decode cY_answer 85 = .ok (.iload_n 1, 1) := by decide +kernel
theorem dY_answer_86 : decode cY_answer 86 = .ok (.invokevirtual 80, 3) := by decide +kernel
theorem dY_answer_89 : decode cY_answer 89 = .ok (.ireturn, 1) := by decide +kernel
theorem dY_answer_90 : decode cY_answer 90 = .ok (.aload_n 0, 1) := by decide +kernel
theorem dY_answer_91 : decode cY_answer 91 = .ok (.iload_n 1, 1) := by decide +kernel
theorem dY_answer_92 : decode cY_answer 92 = .ok (.invokevirtual 80, 3) := by decide +kernel
theorem dY_answer_95 : decode cY_answer 95 = .ok (.bipush 100, 2) := by decide +kernel
theorem dY_answer_97 : decode cY_answer 97 = .ok (.iadd, 1) := by decide +kernel
theorem dY_answer_98 : decode cY_answer 98 = .ok (.ireturn, 1) := by decide +kernel
theorem dY_answer_99 : decode cY_answer 99 = .ok (.iload 4, 2) := by decide +kernel
theorem dY_answer_101 : decode cY_answer 101 = .ok (.bipush 100, 2) := by decide +kernel
theorem dY_answer_103 : decode cY_answer 103 = .ok (.iadd, 1) := by decide +kernel
theorem dY_answer_104 : decode cY_answer 104 = .ok (.ireturn, 1) := by decide +kernel
theorem dY_answer_105 : decode cY_answer 105 = .ok (.iload_n 2, 1) := by decide +kernel
theorem dY_answer_106 : decode cY_answer 106 = .ok (.iconst 3, 1) := by decide +kernel
theorem dY_answer_107 : decode cY_answer 107 = .ok (.if_icmp .ne 7, 3) := by decide +kernel
theorem dY_answer_110 : decode cY_answer 110 = .ok (.iconst 1, 1) := by decide +kernel
theorem dY_answer_111 : decode cY_answer 111 = .ok (.goto 13, 3) := by decide +kernel
theorem dY_answer_114 : decode cY_answer 114 = .ok (.iload_n 2, 1) := by decide +kernel
theorem dY_answer_115 : decode cY_answer 115 = .ok (.iconst 4, 1) := by decide +kernel
theorem dY_answer_116 : decode cY_answer 116 = .ok (.if_icmp .ne 7, 3) := by decide +kernel
theorem dY_answer_119 : decode cY_answer 119 = .ok (.iconst 2, 1) := by decide +kernel
theorem dY_answer_120 : decode cY_answer 120 = .ok (.goto 4, 3) := by decide +kernel
theorem dY_answer_123 : decode cY_answer 123 = .ok (.iconst 3, 1) := by decide +kernel
theorem dY_answer_124 : decode cY_answer 124 = .ok (.ireturn, 1) := by decide +kernel
theorem dY_answer_125 : decode cY_answer 125 = .ok (.iload_n 2, 1) := by decide +kernel
theorem dY_answer_126 : decode cY_answer 126 = .ok (.ifCond .eq 8, 3) := by decide +kernel
theorem dY_answer_129 : decode cY_answer 129 = .ok (.iload_n 2, 1) := by decide +kernel
theorem dY_answer_130 : decode cY_answer 130 = .ok (.iconst 2, 1) := by decide +kernel
theorem dY_answer_131 : decode cY_answer 131 = .ok (.if_icmp .ne 7, 3) := by decide +kernel
theorem dY_answer_134 : decode cY_answer 134 = .ok (.iconst 5, 1) := by decide +kernel
theorem dY_answer_135 : decode cY_answer 135 = .ok (.goto 5, 3) := by decide +kernel
theorem dY_answer_138 : decode cY_answer 138 = .ok (.bipush 7, 2) := by decide +kernel
theorem dY_answer_140 : decode cY_answer 140 = .ok (.ireturn, 1) := by decide +kernel
theorem dY_answer_141 : decode cY_answer 141 = .ok (.iload 4, 2) := by decide +kernel
theorem dY_answer_143 : decode cY_answer 143 = .ok (.iload_n 2, 1) := by decide +kernel
theorem dY_answer_144 : decode cY_answer 144 = .ok (.iconst 4, 1) := by decide +kernel
theorem dY_answer_145 : decode cY_answer 145 = .ok (.if_icmp .ne 7, 3) := by decide +kernel
theorem dY_answer_148 : decode cY_answer 148 = .ok (.iconst 2, 1) := by decide +kernel
theorem dY_answer_149 : decode cY_answer 149 = .ok (.goto 15, 3) := by decide +kernel
theorem dY_answer_152 : decode cY_answer 152 = .ok (.iload_n 2, 1) := by decide +kernel
theorem dY_answer_153 : decode cY_answer 153 = .ok (.bipush 6, 2) := by decide +kernel
theorem dY_answer_155 : decode cY_answer 155 = .ok (.if_icmp .ne 8, 3) := by decide +kernel
theorem dY_answer_158 : decode cY_answer 158 = .ok (.bipush 6, 2) := by decide +kernel
theorem dY_answer_160 : decode cY_answer 160 = .ok (.goto 4, 3) := by decide +kernel
theorem dY_answer_163 : decode cY_answer 163 = .ok (.iconst 1, 1) := by decide +kernel
theorem dY_answer_164 : decode cY_answer 164 = .ok (.iadd, 1) := by decide +kernel
theorem dY_answer_165 : decode cY_answer 165 = .ok (.ireturn, 1) := by decide +kernel
theorem dY_answer_166 : decode cY_answer 166 = .ok (.aload_n 0, 1) := by decide +kernel
theorem dY_answer_167 : decode cY_answer 167 = .ok (.iload_n 1, 1) := by decide +kernel
theorem dY_answer_168 : decode cY_answer 168 = .ok (.invokevirtual 64, 3) := by decide +kernel
theorem dY_answer_171 : decode cY_answer 171 = .ok (.ireturn, 1) := by decide +kernel
theorem dY_answer_172 : decode cY_answer 172 = .ok (.aload_n 0, 1) := by decide +kernel
theorem dY_answer_173 : decode cY_answer 173 = .ok (.getfield 13, 3) := by decide +kernel
theorem dY_answer_176 : decode cY_answer 176 = .ok (.iload_n 1, 1) := by decide +kernel
theorem dY_answer_177 : decode cY_answer 177 = .ok (.iaload, 1) := by decide +kernel
theorem dY_answer_178 : decode cY_answer 178 = .ok (.ireturn, 1) := by decide +kernel
theorem dY_answer_179 : decode cY_answer 179 = .ok (.aload_n 0, 1) := by decide +kernel
theorem dY_answer_180 : decode cY_answer 180 = .ok (.getfield 7, 3) := by decide +kernel
theorem dY_answer_183 : decode cY_answer 183 = .ok (.iload_n 1, 1) := by decide +kernel
theorem dY_answer_184 : decode cY_answer 184 = .ok (.iaload, 1) := by decide +kernel
theorem dY_answer_185 : decode cY_answer 185 = .ok (.ifCond .ne 14, 3) := by decide +kernel
theorem dY_answer_188 : decode cY_answer 188 = .ok (.iconst 2, 1) := by decide +kernel
theorem dY_answer_189 : decode cY_answer 189 = .ok (.aload_n 0, 1) := by decide +kernel
theorem dY_answer_190 : decode cY_answer 190 = .ok (.getfield 13, 3) := by decide +kernel
theorem dY_answer_193 : decode cY_answer 193 = .ok (.iload_n 1, 1) := by decide +kernel
theorem dY_answer_194 : decode cY_answer 194 = .ok (.iaload, 1) := by decide +kernel
theorem dY_answer_195 : decode cY_answer 195 = .ok (.imul, 1) := by decide +kernel
theorem dY_answer_196 : decode cY_answer 196 = .ok (.goto 11, 3) := by decide +kernel
theorem dY_answer_199 : decode cY_answer 199 = .ok (.iconst 3, 1) := by decide +kernel
theorem dY_answer_200 : decode cY_answer 200 = .ok (.aload_n 0, 1) := by decide +kernel
theorem dY_answer_201 : decode cY_answer 201 = .ok (.getfield 13, 3) := by decide +kernel
theorem dY_answer_204 : decode cY_answer 204 = .ok (.iload_n 1, 1) := by decide +kernel
theorem dY_answer_205 : decode cY_answer 205 = .ok (.iaload, 1) := by decide +kernel
theorem dY_answer_206 : decode cY_answer 206 = .ok (.imul, 1) := by decide +kernel
theorem dY_answer_207 : decode cY_answer 207 = .ok (.ireturn, 1) := by decide +kernel
theorem dY_probe_0 : decode cY_probe 0 = .ok (.iload_n 1, 1) := by decide +kernel
theorem dY_probe_1 : decode cY_probe 1 = .ok (.iconst 0, 1) := by decide +kernel
theorem dY_probe_2 : decode cY_probe 2 = .ok (.bipush 7, 2) := by decide +kernel
theorem dY_probe_4 : decode cY_probe 4 = .ok (.invokestatic 48, 3) := by decide +kernel
theorem dY_probe_7 : decode cY_probe 7 = .ok (.ifCond .eq 46, 3) := by decide +kernel
theorem dY_probe_10 : decode cY_probe 10 = .ok (.iload_n 2, 1) := by decide +kernel
theorem dY_probe_11 : decode cY_probe 11 = .ok (.iconst 0, 1) := by decide +kernel
theorem dY_probe_12 : decode cY_probe 12 = .ok (.bipush 8, 2) := by decide +kernel
theorem dY_probe_14 : decode cY_probe 14 = .ok (.invokestatic 48, 3) := by decide +kernel
theorem dY_probe_17 : decode cY_probe 17 = .ok (.ifCond .eq 36, 3) := by decide +kernel
theorem dY_probe_20 : decode cY_probe 20 = .ok (.iload_n 3, 1) := by decide +kernel
theorem dY_probe_21 : decode cY_probe 21 = .ok (.iconst 0, 1) := by decide +kernel
theorem dY_probe_22 : decode cY_probe 22 = .ok (.bipush 11, 2) := by decide +kernel
theorem dY_probe_24 : decode cY_probe 24 = .ok (.invokestatic 48, 3) := by decide +kernel
theorem dY_probe_27 : decode cY_probe 27 = .ok (.ifCond .eq 26, 3) := by decide +kernel
theorem dY_probe_30 : decode cY_probe 30 = .ok (.iload 5, 2) := by decide +kernel
theorem dY_probe_32 : decode cY_probe 32 = .ok (.iconst 0, 1) := by decide +kernel
theorem dY_probe_33 : decode cY_probe 33 = .ok (.iconst 3, 1) := by decide +kernel
theorem dY_probe_34 : decode cY_probe 34 = .ok (.invokestatic 48, 3) := by decide +kernel
theorem dY_probe_37 : decode cY_probe 37 = .ok (.ifCond .eq 16, 3) := by decide +kernel
theorem dY_probe_40 : decode cY_probe 40 = .ok (.aload_n 0, 1) := by decide +kernel
theorem dY_probe_41 : decode cY_probe 41 = .ok (.getfield 35, 3) := by decide +kernel
theorem dY_probe_44 : decode cY_probe 44 = .ok (.iload_n 2, 1) := by decide +kernel
theorem dY_probe_45 : decode cY_probe 45 = .ok (.iaload, 1) := by decide +kernel
theorem dY_probe_46 : decode cY_probe 46 = .ok (.iload_n 3, 1) := by decide +kernel
theorem dY_probe_47 : decode cY_probe 47 = .ok (.ishr, 1) := by decide +kernel
theorem dY_probe_48 : decode cY_probe 48 = .ok (.iconst 1, 1) := by decide +kernel
theorem dY_probe_49 : decode cY_probe 49 = .ok (.iand, 1) := by decide +kernel
theorem dY_probe_50 : decode cY_probe 50 = .ok (.ifCond .ne 5, 3) := by decide +kernel
theorem dY_probe_53 : decode cY_probe 53 = .ok (.iconst (-1), 1) := by decide +kernel
theorem dY_probe_54 : decode cY_probe 54 = .ok (.ireturn, 1) := by decide +kernel
theorem dY_probe_55 : decode cY_probe 55 = .ok (.iload_n 3, 1) := by decide +kernel
theorem dY_probe_56 : decode cY_probe 56 = .ok (.bipush 7, 2) := by decide +kernel
theorem dY_probe_58 : decode cY_probe 58 = .ok (.if_icmp .eq 13, 3) := by decide +kernel
theorem dY_probe_61 : decode cY_probe 61 = .ok (.iload_n 3, 1) := by decide +kernel
theorem dY_probe_62 : decode cY_probe 62 = .ok (.bipush 8, 2) := by decide +kernel
theorem dY_probe_64 : decode cY_probe 64 = .ok (.if_icmp .eq 7, 3) := by decide +kernel
theorem dY_probe_67 : decode cY_probe 67 = .ok (.iconst 1, 1) := by decide +kernel
theorem dY_probe_68 : decode cY_probe 68 = .ok (.goto 4, 3) := by decide +kernel
theorem dY_probe_71 : decode cY_probe 71 = .ok (.iconst 0, 1) := by decide +kernel
theorem dY_probe_72 : decode cY_probe 72 = .ok (.istore 6, 2) := by decide +kernel
theorem dY_probe_74 : decode cY_probe 74 = .ok (.iload 6, 2) := by decide +kernel
theorem dY_probe_76 : decode cY_probe 76 = .ok (.ifCond .eq 14, 3) := by decide +kernel
theorem dY_probe_79 : decode cY_probe 79 = .ok (.aload_n 0, 1) := by decide +kernel
theorem dY_probe_80 : decode cY_probe 80 = .ok (.getfield 23, 3) := by decide +kernel
theorem dY_probe_83 : decode cY_probe 83 = .ok (.iload_n 1, 1) := by decide +kernel
theorem dY_probe_84 : decode cY_probe 84 = .ok (.iaload, 1) := by decide +kernel
theorem dY_probe_85 : decode cY_probe 85 = .ok (.ifCond .ne 5, 3) := by decide +kernel
theorem dY_probe_88 : decode cY_probe 88 = .ok (.iconst 2, 1) := by decide +kernel
theorem dY_probe_89 : decode cY_probe 89 = .ok (.ireturn, 1) := by decide +kernel
theorem dY_probe_90 : decode cY_probe 90 = .ok (.iload 6, 2) := by decide +kernel
theorem dY_probe_92 : decode cY_probe 92 = .ok (.ifCond .eq 19, 3) := by decide +kernel
theorem dY_probe_95 : decode cY_probe 95 = .ok (.aload_n 0, 1) := by decide +kernel
theorem dY_probe_96 : decode cY_probe 96 = .ok (.aload_n 0, 1) := by decide +kernel
theorem dY_probe_97 : decode cY_probe 97 = .ok (.getfield 23, 3) := by decide +kernel
theorem dY_probe_100 : decode cY_probe 100 = .ok (.iload_n 1, 1) := by decide +kernel
theorem dY_probe_101 : decode cY_probe 101 = .ok (.iaload, 1) := by decide +kernel
theorem dY_probe_102 : decode cY_probe 102 = .ok (.iload_n 2, 1) := by decide +kernel
theorem dY_probe_103 : decode cY_probe 103 = .ok (.invokevirtual 60, 3) := by decide +kernel
theorem dY_probe_106 : decode cY_probe 106 = .ok (.ifCond .ne 5, 3) := by decide +kernel
theorem dY_probe_109 : decode cY_probe 109 = .ok (.iconst 1, 1) := by decide +kernel
theorem dY_probe_110 : decode cY_probe 110 = .ok (.ireturn, 1) := by decide +kernel
theorem dY_probe_111 : decode cY_probe 111 = .ok (.aload_n 0, 1) := by decide +kernel
theorem dY_probe_112 : decode cY_probe 112 = .ok (.aload_n 0, 1) := by decide +kernel
theorem dY_probe_113 : decode cY_probe 113 = .ok (.aload_n 0, 1) := by decide +kernel
theorem dY_probe_114 : decode cY_probe 114 = .ok (.getfield 23, 3) := by decide +kernel
theorem dY_probe_117 : decode cY_probe 117 = .ok (.iload_n 1, 1) := by decide +kernel
theorem dY_probe_118 : decode cY_probe 118 = .ok (.iaload, 1) := by decide +kernel
theorem dY_probe_119 : decode cY_probe 119 = .ok (.iload_n 2, 1) := by decide +kernel
theorem dY_probe_120 : decode cY_probe 120 = .ok (.iload_n 3, 1) := by decide +kernel
theorem dY_probe_121 : decode cY_probe 121 = .ok (.iload 4, 2) := by decide +kernel
theorem dY_probe_123 : decode cY_probe 123 = .ok (.invokevirtual 83, 3) := by decide +kernel
theorem dY_probe_126 : decode cY_probe 126 = .ok (.putfield 86, 3) := by decide +kernel
theorem dY_probe_129 : decode cY_probe 129 = .ok (.iconst 0, 1) := by decide +kernel
theorem dY_probe_130 : decode cY_probe 130 = .ok (.ireturn, 1) := by decide +kernel
theorem dY_value_0 : decode cY_value 0 = .ok (.aload_n 0, 1) := by decide +kernel
theorem dY_value_1 : decode cY_value 1 = .ok (.getfield 86, 3) := by decide +kernel
theorem dY_value_4 : decode cY_value 4 = .ok (.ireturn, 1) := by decide +kernel
theorem dY_is__0 : decode cY_is_ 0 = .ok (.iload_n 1, 1) := by decide +kernel
theorem dY_is__1 : decode cY_is_ 1 = .ok (.iconst 0, 1) := by decide +kernel
theorem dY_is__2 : decode cY_is_ 2 = .ok (.bipush 7, 2) := by decide +kernel
theorem dY_is__4 : decode cY_is_ 4 = .ok (.invokestatic 48, 3) := by decide +kernel
theorem dY_is__7 : decode cY_is_ 7 = .ok (.ifCond .eq 31, 3) := by decide +kernel
theorem dY_is__10 : decode cY_is_ 10 = .ok (.iload_n 2, 1) := by decide +kernel
theorem dY_is__11 : decode cY_is_ 11 = .ok (.iconst 0, 1) := by decide +kernel
theorem dY_is__12 : decode cY_is_ 12 = .ok (.bipush 8, 2) := by decide +kernel
theorem dY_is__14 : decode cY_is_ 14 = .ok (.invokestatic 48, 3) := by decide +kernel
theorem dY_is__17 : decode cY_is_ 17 = .ok (.ifCond .eq 21, 3) := by decide +kernel
theorem dY_is__20 : decode cY_is_ 20 = .ok (.aload_n 0, 1) := by decide +kernel
theorem dY_is__21 : decode cY_is_ 21 = .ok (.aload_n 0, 1) := by decide +kernel
theorem dY_is__22 : decode cY_is_ 22 = .ok (.getfield 23, 3) := by decide +kernel
theorem dY_is__25 : decode cY_is_ 25 = .ok (.iload_n 1, 1) := by decide +kernel
theorem dY_is__26 : decode cY_is_ 26 = .ok (.iaload, 1) := by decide +kernel
theorem dY_is__27 : decode cY_is_ 27 = .ok (.iload_n 2, 1) := by decide +kernel
theorem dY_is__28 : decode cY_is_ 28 = .ok (.invokevirtual 60, 3) := by decide +kernel
theorem dY_is__31 : decode cY_is_ 31 = .ok (.ifCond .eq 7, 3) := by decide +kernel
theorem dY_is__34 : decode cY_is_ 34 = .ok (.iconst 1, 1) := by decide +kernel
theorem dY_is__35 : decode cY_is_ 35 = .ok (.goto 4, 3) := by decide +kernel
theorem dY_is__38 : decode cY_is_ 38 = .ok (.iconst 0, 1) := by decide +kernel
theorem dY_is__39 : decode cY_is_ 39 = .ok (.ireturn, 1) := by decide +kernel
theorem dY_same_0 : decode cY_same 0 = .ok (.iload_n 1, 1) := by decide +kernel
theorem dY_same_1 : decode cY_same 1 = .ok (.iconst 0, 1) := by decide +kernel
theorem dY_same_2 : decode cY_same 2 = .ok (.bipush 7, 2) := by decide +kernel
theorem dY_same_4 : decode cY_same 4 = .ok (.invokestatic 48, 3) := by decide +kernel
theorem dY_same_7 : decode cY_same 7 = .ok (.ifCond .eq 32, 3) := by decide +kernel
theorem dY_same_10 : decode cY_same 10 = .ok (.iload_n 2, 1) := by decide +kernel
theorem dY_same_11 : decode cY_same 11 = .ok (.iconst 0, 1) := by decide +kernel
theorem dY_same_12 : decode cY_same 12 = .ok (.bipush 7, 2) := by decide +kernel
theorem dY_same_14 : decode cY_same 14 = .ok (.invokestatic 48, 3) := by decide +kernel
theorem dY_same_17 : decode cY_same 17 = .ok (.ifCond .eq 22, 3) := by decide +kernel
theorem dY_same_20 : decode cY_same 20 = .ok (.aload_n 0, 1) := by decide +kernel
theorem dY_same_21 : decode cY_same 21 = .ok (.getfield 23, 3) := by decide +kernel
theorem dY_same_24 : decode cY_same 24 = .ok (.iload_n 1, 1) := by decide +kernel
theorem dY_same_25 : decode cY_same 25 = .ok (.iaload, 1) := by decide +kernel
theorem dY_same_26 : decode cY_same 26 = .ok (.aload_n 0, 1) := by decide +kernel
theorem dY_same_27 : decode cY_same 27 = .ok (.getfield 23, 3) := by decide +kernel
theorem dY_same_30 : decode cY_same 30 = .ok (.iload_n 2, 1) := by decide +kernel
theorem dY_same_31 : decode cY_same 31 = .ok (.iaload, 1) := by decide +kernel
theorem dY_same_32 : decode cY_same 32 = .ok (.if_icmp .ne 7, 3) := by decide +kernel
theorem dY_same_35 : decode cY_same 35 = .ok (.iconst 1, 1) := by decide +kernel
theorem dY_same_36 : decode cY_same 36 = .ok (.goto 4, 3) := by decide +kernel
theorem dY_same_39 : decode cY_same 39 = .ok (.iconst 0, 1) := by decide +kernel
theorem dY_same_40 : decode cY_same 40 = .ok (.ireturn, 1) := by decide +kernel
theorem dY_fits_0 : decode cY_fits 0 = .ok (.iload_n 1, 1) := by decide +kernel
theorem dY_fits_1 : decode cY_fits 1 = .ok (.ifCond .eq 38, 3) := by decide +kernel
theorem dY_fits_4 : decode cY_fits 4 = .ok (.aload_n 0, 1) := by decide +kernel
theorem dY_fits_5 : decode cY_fits 5 = .ok (.iload_n 1, 1) := by decide +kernel
theorem dY_fits_6 : decode cY_fits 6 = .ok (.iload_n 2, 1) := by decide +kernel
theorem dY_fits_7 : decode cY_fits 7 = .ok (.ifCond .ne 7, 3) := by decide +kernel
theorem dY_fits_10 : decode cY_fits 10 = .ok (.iconst 0, 1) := by decide +kernel
theorem dY_fits_11 : decode cY_fits 11 = .ok (.goto 22, 3) := by decide +kernel
theorem dY_fits_14 : decode cY_fits 14 = .ok (.iload_n 2, 1) := by decide +kernel
theorem dY_fits_15 : decode cY_fits 15 = .ok (.iconst 1, 1) := by decide +kernel
theorem dY_fits_16 : decode cY_fits 16 = .ok (.if_icmp .ne 7, 3) := by decide +kernel
theorem dY_fits_19 : decode cY_fits 19 = .ok (.iconst 3, 1) := by decide +kernel
theorem dY_fits_20 : decode cY_fits 20 = .ok (.goto 13, 3) := by decide +kernel
theorem dY_fits_23 : decode cY_fits 23 = .ok (.iload_n 2, 1) := by decide +kernel
theorem dY_fits_24 : decode cY_fits 24 = .ok (.iconst 2, 1) := by decide +kernel
theorem dY_fits_25 : decode cY_fits 25 = .ok (.if_icmp .ne 7, 3) := by decide +kernel
theorem dY_fits_28 : decode cY_fits 28 = .ok (.iconst 5, 1) := by decide +kernel
theorem dY_fits_29 : decode cY_fits 29 = .ok (.goto 4, 3) := by decide +kernel
theorem dY_fits_32 : decode cY_fits 32 = .ok (.iconst 4, 1) := by decide +kernel
theorem dY_fits_33 : decode cY_fits 33 = .ok (.invokevirtual 60, 3) := by decide +kernel
theorem dY_fits_36 : decode cY_fits 36 = .ok (.ifCond .eq 7, 3) := by decide +kernel
theorem dY_fits_39 : decode cY_fits 39 = .ok (.iconst 1, 1) := by decide +kernel
theorem dY_fits_40 : decode cY_fits 40 = .ok (.goto 4, 3) := by decide +kernel
theorem dY_fits_43 : decode cY_fits 43 = .ok (.iconst 0, 1) := by decide +kernel
theorem dY_fits_44 : decode cY_fits 44 = .ok (.ireturn, 1) := by decide +kernel
theorem dY_store_0 : decode cY_store 0 = .ok (.iload_n 1, 1) := by decide +kernel
theorem dY_store_1 : decode cY_store 1 = .ok (.iconst 0, 1) := by decide +kernel
theorem dY_store_2 : decode cY_store 2 = .ok (.iconst 3, 1) := by decide +kernel
theorem dY_store_3 : decode cY_store 3 = .ok (.invokestatic 48, 3) := by decide +kernel
theorem dY_store_6 : decode cY_store 6 = .ok (.ifCond .eq 13, 3) := by decide +kernel
theorem dY_store_9 : decode cY_store 9 = .ok (.iload_n 3, 1) := by decide +kernel
theorem dY_store_10 : decode cY_store 10 = .ok (.iconst 0, 1) := by decide +kernel
theorem dY_store_11 : decode cY_store 11 = .ok (.bipush 7, 2) := by decide +kernel
theorem dY_store_13 : decode cY_store 13 = .ok (.invokestatic 48, 3) := by decide +kernel
theorem dY_store_16 : decode cY_store 16 = .ok (.ifCond .ne 5, 3) := by decide +kernel
theorem dY_store_19 : decode cY_store 19 = .ok (.iconst (-1), 1) := by decide +kernel
theorem dY_store_20 : decode cY_store 20 = .ok (.ireturn, 1) := by decide +kernel
theorem dY_store_21 : decode cY_store 21 = .ok (.iload_n 2, 1) := by decide +kernel
theorem dY_store_22 : decode cY_store 22 = .ok (.iconst 0, 1) := by decide +kernel
theorem dY_store_23 : decode cY_store 23 = .ok (.iconst 3, 1) := by decide +kernel
theorem dY_store_24 : decode cY_store 24 = .ok (.invokestatic 48, 3) := by decide +kernel
theorem dY_store_27 : decode cY_store 27 = .ok (.ifCond .ne 5, 3) := by decide +kernel
theorem dY_store_30 : decode cY_store 30 = .ok (.iconst 4, 1) := by decide +kernel
theorem dY_store_31 : decode cY_store 31 = .ok (.ireturn, 1) := by decide +kernel
theorem dY_store_32 : decode cY_store 32 = .ok (.aload_n 0, 1) := by decide +kernel
theorem dY_store_33 : decode cY_store 33 = .ok (.aload_n 0, 1) := by decide +kernel
theorem dY_store_34 : decode cY_store 34 = .ok (.getfield 23, 3) := by decide +kernel
theorem dY_store_37 : decode cY_store 37 = .ok (.iload_n 3, 1) := by decide +kernel
theorem dY_store_38 : decode cY_store 38 = .ok (.iaload, 1) := by decide +kernel
theorem dY_store_39 : decode cY_store 39 = .ok (.iload_n 1, 1) := by decide +kernel
theorem dY_store_40 : decode cY_store 40 = .ok (.invokevirtual 89, 3) := by decide +kernel
theorem dY_store_43 : decode cY_store 43 = .ok (.ifCond .ne 5, 3) := by decide +kernel
theorem dY_store_46 : decode cY_store 46 = .ok (.iconst 3, 1) := by decide +kernel
theorem dY_store_47 : decode cY_store 47 = .ok (.ireturn, 1) := by decide +kernel
theorem dY_store_48 : decode cY_store 48 = .ok (.aload_n 0, 1) := by decide +kernel
theorem dY_store_49 : decode cY_store 49 = .ok (.getfield 26, 3) := by decide +kernel
theorem dY_store_52 : decode cY_store 52 = .ok (.iconst 4, 1) := by decide +kernel
theorem dY_store_53 : decode cY_store 53 = .ok (.iload_n 1, 1) := by decide +kernel
theorem dY_store_54 : decode cY_store 54 = .ok (.imul, 1) := by decide +kernel
theorem dY_store_55 : decode cY_store 55 = .ok (.iload_n 2, 1) := by decide +kernel
theorem dY_store_56 : decode cY_store 56 = .ok (.iadd, 1) := by decide +kernel
theorem dY_store_57 : decode cY_store 57 = .ok (.aload_n 0, 1) := by decide +kernel
theorem dY_store_58 : decode cY_store 58 = .ok (.getfield 23, 3) := by decide +kernel
theorem dY_store_61 : decode cY_store 61 = .ok (.iload_n 3, 1) := by decide +kernel
theorem dY_store_62 : decode cY_store 62 = .ok (.iaload, 1) := by decide +kernel
theorem dY_store_63 : decode cY_store 63 = .ok (.iastore, 1) := by decide +kernel
theorem dY_store_64 : decode cY_store 64 = .ok (.iconst 0, 1) := by decide +kernel
theorem dY_store_65 : decode cY_store 65 = .ok (.ireturn, 1) := by decide +kernel
theorem dY_load_0 : decode cY_load 0 = .ok (.iload_n 1, 1) := by decide +kernel
theorem dY_load_1 : decode cY_load 1 = .ok (.iconst 0, 1) := by decide +kernel
theorem dY_load_2 : decode cY_load 2 = .ok (.iconst 3, 1) := by decide +kernel
theorem dY_load_3 : decode cY_load 3 = .ok (.invokestatic 48, 3) := by decide +kernel
theorem dY_load_6 : decode cY_load 6 = .ok (.ifCond .eq 13, 3) := by decide +kernel
theorem dY_load_9 : decode cY_load 9 = .ok (.iload_n 3, 1) := by decide +kernel
theorem dY_load_10 : decode cY_load 10 = .ok (.iconst 0, 1) := by decide +kernel
theorem dY_load_11 : decode cY_load 11 = .ok (.bipush 7, 2) := by decide +kernel
theorem dY_load_13 : decode cY_load 13 = .ok (.invokestatic 48, 3) := by decide +kernel
theorem dY_load_16 : decode cY_load 16 = .ok (.ifCond .ne 5, 3) := by decide +kernel
theorem dY_load_19 : decode cY_load 19 = .ok (.iconst (-1), 1) := by decide +kernel
theorem dY_load_20 : decode cY_load 20 = .ok (.ireturn, 1) := by decide +kernel
theorem dY_load_21 : decode cY_load 21 = .ok (.iload_n 2, 1) := by decide +kernel
theorem dY_load_22 : decode cY_load 22 = .ok (.iconst 0, 1) := by decide +kernel
theorem dY_load_23 : decode cY_load 23 = .ok (.iconst 3, 1) := by decide +kernel
theorem dY_load_24 : decode cY_load 24 = .ok (.invokestatic 48, 3) := by decide +kernel
theorem dY_load_27 : decode cY_load 27 = .ok (.ifCond .ne 5, 3) := by decide +kernel
theorem dY_load_30 : decode cY_load 30 = .ok (.iconst 4, 1) := by decide +kernel
theorem dY_load_31 : decode cY_load 31 = .ok (.ireturn, 1) := by decide +kernel
theorem dY_load_32 : decode cY_load 32 = .ok (.aload_n 0, 1) := by decide +kernel
theorem dY_load_33 : decode cY_load 33 = .ok (.getfield 23, 3) := by decide +kernel
theorem dY_load_36 : decode cY_load 36 = .ok (.iload_n 3, 1) := by decide +kernel
theorem dY_load_37 : decode cY_load 37 = .ok (.aload_n 0, 1) := by decide +kernel
theorem dY_load_38 : decode cY_load 38 = .ok (.getfield 26, 3) := by decide +kernel
theorem dY_load_41 : decode cY_load 41 = .ok (.iconst 4, 1) := by decide +kernel
theorem dY_load_42 : decode cY_load 42 = .ok (.iload_n 1, 1) := by decide +kernel
theorem dY_load_43 : decode cY_load 43 = .ok (.imul, 1) := by decide +kernel
theorem dY_load_44 : decode cY_load 44 = .ok (.iload_n 2, 1) := by decide +kernel
theorem dY_load_45 : decode cY_load 45 = .ok (.iadd, 1) := by decide +kernel
theorem dY_load_46 : decode cY_load 46 = .ok (.iaload, 1) := by decide +kernel
theorem dY_load_47 : decode cY_load 47 = .ok (.iastore, 1) := by decide +kernel
theorem dY_load_48 : decode cY_load 48 = .ok (.iconst 0, 1) := by decide +kernel
theorem dY_load_49 : decode cY_load 49 = .ok (.ireturn, 1) := by decide +kernel
theorem dY_copy_0 : decode cY_copy 0 = .ok (.iload_n 1, 1) := by decide +kernel
theorem dY_copy_1 : decode cY_copy 1 = .ok (.iconst 0, 1) := by decide +kernel
theorem dY_copy_2 : decode cY_copy 2 = .ok (.iconst 3, 1) := by decide +kernel
theorem dY_copy_3 : decode cY_copy 3 = .ok (.invokestatic 48, 3) := by decide +kernel
theorem dY_copy_6 : decode cY_copy 6 = .ok (.ifCond .eq 12, 3) := by decide +kernel
theorem dY_copy_9 : decode cY_copy 9 = .ok (.iload_n 3, 1) := by decide +kernel
theorem dY_copy_10 : decode cY_copy 10 = .ok (.iconst 0, 1) := by decide +kernel
theorem dY_copy_11 : decode cY_copy 11 = .ok (.iconst 3, 1) := by decide +kernel
theorem dY_copy_12 : decode cY_copy 12 = .ok (.invokestatic 48, 3) := by decide +kernel
theorem dY_copy_15 : decode cY_copy 15 = .ok (.ifCond .ne 5, 3) := by decide +kernel
theorem dY_copy_18 : decode cY_copy 18 = .ok (.iconst (-1), 1) := by decide +kernel
theorem dY_copy_19 : decode cY_copy 19 = .ok (.ireturn, 1) := by decide +kernel
theorem dY_copy_20 : decode cY_copy 20 = .ok (.iload_n 2, 1) := by decide +kernel
theorem dY_copy_21 : decode cY_copy 21 = .ok (.ifCond .lt 40, 3) := by decide +kernel
theorem dY_copy_24 : decode cY_copy 24 = .ok (.iload 4, 2) := by decide +kernel
theorem dY_copy_26 : decode cY_copy 26 = .ok (.ifCond .lt 35, 3) := by decide +kernel
theorem dY_copy_29 : decode cY_copy 29 = .ok (.iload 5, 2) := by decide +kernel
theorem dY_copy_31 : decode cY_copy 31 = .ok (.ifCond .lt 30, 3) := by decide +kernel
theorem dY_copy_34 : decode cY_copy 34 = .ok (.iload_n 2, 1) := by decide +kernel
theorem dY_copy_35 : decode cY_copy 35 = .ok (.i2l, 1) := by decide +kernel
theorem dY_copy_36 : decode cY_copy 36 = .ok (.iload 5, 2) := by decide +kernel
theorem dY_copy_38 : decode cY_copy 38 = .ok (.i2l, 1) := by decide +kernel
theorem dY_copy_39 : decode cY_copy 39 = .ok (.ladd, 1) := by decide +kernel
theorem dY_copy_40 : decode cY_copy 40 = .ok (.ldc2_w 92, 3) := by decide +kernel
theorem dY_copy_43 : decode cY_copy 43 = .ok (.lcmp, 1) := by decide +kernel
theorem dY_copy_44 : decode cY_copy 44 = .ok (.ifCond .gt 17, 3) := by decide +kernel
theorem dY_copy_47 : decode cY_copy 47 = .ok (.iload 4, 2) := by decide +kernel
theorem dY_copy_49 : decode cY_copy 49 = .ok (.i2l, 1) := by decide +kernel
theorem dY_copy_50 : decode cY_copy 50 = .ok (.iload 5, 2) := by decide +kernel
theorem dY_copy_52 : decode cY_copy 52 = .ok (.i2l, 1) := by decide +kernel
theorem dY_copy_53 : decode cY_copy 53 = .ok (.ladd, 1) := by decide +kernel
theorem dY_copy_54 : decode cY_copy 54 = .ok (.ldc2_w 92, 3) := by decide +kernel
theorem dY_copy_57 : decode cY_copy 57 = .ok (.lcmp, 1) := by decide +kernel
theorem dY_copy_58 : decode cY_copy 58 = .ok (.ifCond .le 5, 3) := by decide +kernel
theorem dY_copy_61 : decode cY_copy 61 = .ok (.iconst 4, 1) := by decide +kernel
theorem dY_copy_62 : decode cY_copy 62 = .ok (.ireturn, 1) := by decide +kernel
theorem dY_copy_63 : decode cY_copy 63 = .ok (.iconst 0, 1) := by decide +kernel
theorem dY_copy_64 : decode cY_copy 64 = .ok (.istore 6, 2) := by decide +kernel
theorem dY_copy_66 : decode cY_copy 66 = .ok (.iload 6, 2) := by decide +kernel
theorem dY_copy_68 : decode cY_copy 68 = .ok (.iconst 4, 1) := by decide +kernel
theorem dY_copy_69 : decode cY_copy 69 = .ok (.if_icmp .ge 27, 3) := by decide +kernel
theorem dY_copy_72 : decode cY_copy 72 = .ok (.aload_n 0, 1) := by decide +kernel
theorem dY_copy_73 : decode cY_copy 73 = .ok (.getfield 29, 3) := by decide +kernel
theorem dY_copy_76 : decode cY_copy 76 = .ok (.iload 6, 2) := by decide +kernel
theorem dY_copy_78 : decode cY_copy 78 = .ok (.aload_n 0, 1) := by decide +kernel
theorem dY_copy_79 : decode cY_copy 79 = .ok (.getfield 26, 3) := by decide +kernel
theorem dY_copy_82 : decode cY_copy 82 = .ok (.iconst 4, 1) := by decide +kernel
theorem dY_copy_83 : decode cY_copy 83 = .ok (.iload_n 1, 1) := by decide +kernel
theorem dY_copy_84 : decode cY_copy 84 = .ok (.imul, 1) := by decide +kernel
theorem dY_copy_85 : decode cY_copy 85 = .ok (.iload 6, 2) := by decide +kernel
theorem dY_copy_87 : decode cY_copy 87 = .ok (.iadd, 1) := by decide +kernel
theorem dY_copy_88 : decode cY_copy 88 = .ok (.iaload, 1) := by decide +kernel
theorem dY_copy_89 : decode cY_copy 89 = .ok (.iastore, 1) := by decide +kernel
theorem dY_copy_90 : decode cY_copy 90 = .ok (.iinc 6 1, 3) := by decide +kernel
theorem dY_copy_93 : decode cY_copy 93 = .ok (.goto (-27), 3) := by decide +kernel
theorem dY_copy_96 : decode cY_copy 96 = .ok (.iconst 0, 1) := by decide +kernel
theorem dY_copy_97 : decode cY_copy 97 = .ok (.istore 6, 2) := by decide +kernel
theorem dY_copy_99 : decode cY_copy 99 = .ok (.iload 6, 2) := by decide +kernel
theorem dY_copy_101 : decode cY_copy 101 = .ok (.iload 5, 2) := by decide +kernel
theorem dY_copy_103 : decode cY_copy 103 = .ok (.if_icmp .ge 51, 3) := by decide +kernel
theorem dY_copy_106 : decode cY_copy 106 = .ok (.aload_n 0, 1) := by decide +kernel
theorem dY_copy_107 : decode cY_copy 107 = .ok (.aload_n 0, 1) := by decide +kernel
theorem dY_copy_108 : decode cY_copy 108 = .ok (.getfield 29, 3) := by decide +kernel
theorem dY_copy_111 : decode cY_copy 111 = .ok (.iload_n 2, 1) := by decide +kernel
theorem dY_copy_112 : decode cY_copy 112 = .ok (.iload 6, 2) := by decide +kernel
theorem dY_copy_114 : decode cY_copy 114 = .ok (.iadd, 1) := by decide +kernel
theorem dY_copy_115 : decode cY_copy 115 = .ok (.iaload, 1) := by decide +kernel
theorem dY_copy_116 : decode cY_copy 116 = .ok (.iload_n 3, 1) := by decide +kernel
theorem dY_copy_117 : decode cY_copy 117 = .ok (.invokevirtual 89, 3) := by decide +kernel
theorem dY_copy_120 : decode cY_copy 120 = .ok (.ifCond .ne 5, 3) := by decide +kernel
theorem dY_copy_123 : decode cY_copy 123 = .ok (.iconst 3, 1) := by decide +kernel
theorem dY_copy_124 : decode cY_copy 124 = .ok (.ireturn, 1) := by decide +kernel
theorem dY_copy_125 : decode cY_copy 125 = .ok (.aload_n 0, 1) := by decide +kernel
theorem dY_copy_126 : decode cY_copy 126 = .ok (.getfield 26, 3) := by decide +kernel
theorem dY_copy_129 : decode cY_copy 129 = .ok (.iconst 4, 1) := by decide +kernel
theorem dY_copy_130 : decode cY_copy 130 = .ok (.iload_n 3, 1) := by decide +kernel
theorem dY_copy_131 : decode cY_copy 131 = .ok (.imul, 1) := by decide +kernel
theorem dY_copy_132 : decode cY_copy 132 = .ok (.iload 4, 2) := by decide +kernel
theorem dY_copy_134 : decode cY_copy 134 = .ok (.iadd, 1) := by decide +kernel
theorem dY_copy_135 : decode cY_copy 135 = .ok (.iload 6, 2) := by decide +kernel
theorem dY_copy_137 : decode cY_copy 137 = .ok (.iadd, 1) := by decide +kernel
theorem dY_copy_138 : decode cY_copy 138 = .ok (.aload_n 0, 1) := by decide +kernel
theorem dY_copy_139 : decode cY_copy 139 = .ok (.getfield 29, 3) := by decide +kernel
theorem dY_copy_142 : decode cY_copy 142 = .ok (.iload_n 2, 1) := by decide +kernel
theorem dY_copy_143 : decode cY_copy 143 = .ok (.iload 6, 2) := by decide +kernel
theorem dY_copy_145 : decode cY_copy 145 = .ok (.iadd, 1) := by decide +kernel
theorem dY_copy_146 : decode cY_copy 146 = .ok (.iaload, 1) := by decide +kernel
theorem dY_copy_147 : decode cY_copy 147 = .ok (.iastore, 1) := by decide +kernel
theorem dY_copy_148 : decode cY_copy 148 = .ok (.iinc 6 1, 3) := by decide +kernel
theorem dY_copy_151 : decode cY_copy 151 = .ok (.goto (-52), 3) := by decide +kernel
theorem dY_copy_154 : decode cY_copy 154 = .ok (.iconst 0, 1) := by decide +kernel
theorem dY_copy_155 : decode cY_copy 155 = .ok (.ireturn, 1) := by decide +kernel
theorem dY_compare_0 : decode cY_compare 0 = .ok (.iload_n 1, 1) := by decide +kernel
theorem dY_compare_1 : decode cY_compare 1 = .ok (.iconst 0, 1) := by decide +kernel
theorem dY_compare_2 : decode cY_compare 2 = .ok (.bipush 7, 2) := by decide +kernel
theorem dY_compare_4 : decode cY_compare 4 = .ok (.invokestatic 48, 3) := by decide +kernel
theorem dY_compare_7 : decode cY_compare 7 = .ok (.ifCond .eq 13, 3) := by decide +kernel
theorem dY_compare_10 : decode cY_compare 10 = .ok (.iload_n 2, 1) := by decide +kernel
theorem dY_compare_11 : decode cY_compare 11 = .ok (.iconst 0, 1) := by decide +kernel
theorem dY_compare_12 : decode cY_compare 12 = .ok (.bipush 7, 2) := by decide +kernel
theorem dY_compare_14 : decode cY_compare 14 = .ok (.invokestatic 48, 3) := by decide +kernel
theorem dY_compare_17 : decode cY_compare 17 = .ok (.ifCond .ne 5, 3) := by decide +kernel
theorem dY_compare_20 : decode cY_compare 20 = .ok (.iconst (-1), 1) := by decide +kernel
theorem dY_compare_21 : decode cY_compare 21 = .ok (.ireturn, 1) := by decide +kernel
theorem dY_compare_22 : decode cY_compare 22 = .ok (.aload_n 0, 1) := by decide +kernel
theorem dY_compare_23 : decode cY_compare 23 = .ok (.getfield 23, 3) := by decide +kernel
theorem dY_compare_26 : decode cY_compare 26 = .ok (.iload_n 1, 1) := by decide +kernel
theorem dY_compare_27 : decode cY_compare 27 = .ok (.iaload, 1) := by decide +kernel
theorem dY_compare_28 : decode cY_compare 28 = .ok (.ifCond .eq 12, 3) := by decide +kernel
theorem dY_compare_31 : decode cY_compare 31 = .ok (.aload_n 0, 1) := by decide +kernel
theorem dY_compare_32 : decode cY_compare 32 = .ok (.getfield 23, 3) := by decide +kernel
theorem dY_compare_35 : decode cY_compare 35 = .ok (.iload_n 2, 1) := by decide +kernel
theorem dY_compare_36 : decode cY_compare 36 = .ok (.iaload, 1) := by decide +kernel
theorem dY_compare_37 : decode cY_compare 37 = .ok (.ifCond .ne 5, 3) := by decide +kernel
theorem dY_compare_40 : decode cY_compare 40 = .ok (.iconst 2, 1) := by decide +kernel
theorem dY_compare_41 : decode cY_compare 41 = .ok (.ireturn, 1) := by decide +kernel
theorem dY_compare_42 : decode cY_compare 42 = .ok (.aload_n 0, 1) := by decide +kernel
theorem dY_compare_43 : decode cY_compare 43 = .ok (.aload_n 0, 1) := by decide +kernel
theorem dY_compare_44 : decode cY_compare 44 = .ok (.getfield 23, 3) := by decide +kernel
theorem dY_compare_47 : decode cY_compare 47 = .ok (.iload_n 1, 1) := by decide +kernel
theorem dY_compare_48 : decode cY_compare 48 = .ok (.iaload, 1) := by decide +kernel
theorem dY_compare_49 : decode cY_compare 49 = .ok (.iconst 3, 1) := by decide +kernel
theorem dY_compare_50 : decode cY_compare 50 = .ok (.invokevirtual 60, 3) := by decide +kernel
theorem dY_compare_53 : decode cY_compare 53 = .ok (.ifCond .eq 17, 3) := by decide +kernel
theorem dY_compare_56 : decode cY_compare 56 = .ok (.aload_n 0, 1) := by decide +kernel
theorem dY_compare_57 : decode cY_compare 57 = .ok (.aload_n 0, 1) := by decide +kernel
theorem dY_compare_58 : decode cY_compare 58 = .ok (.getfield 23, 3) := by decide +kernel
theorem dY_compare_61 : decode cY_compare 61 = .ok (.iload_n 2, 1) := by decide +kernel
theorem dY_compare_62 : decode cY_compare 62 = .ok (.iaload, 1) := by decide +kernel
theorem dY_compare_63 : decode cY_compare 63 = .ok (.iconst 3, 1) := by decide +kernel
theorem dY_compare_64 : decode cY_compare 64 = .ok (.invokevirtual 60, 3) := by decide +kernel
theorem dY_compare_67 : decode cY_compare 67 = .ok (.ifCond .ne 5, 3) := by decide +kernel
theorem dY_compare_70 : decode cY_compare 70 = .ok (.iconst 1, 1) := by decide +kernel
theorem dY_compare_71 : decode cY_compare 71 = .ok (.ireturn, 1) := by decide +kernel
theorem dY_compare_72 : decode cY_compare 72 = .ok (.aload_n 0, 1) := by decide +kernel
theorem dY_compare_73 : decode cY_compare 73 = .ok (.getfield 13, 3) := by decide +kernel
theorem dY_compare_76 : decode cY_compare 76 = .ok (.aload_n 0, 1) := by decide +kernel
theorem dY_compare_77 : decode cY_compare 77 = .ok (.getfield 23, 3) := by decide +kernel
theorem dY_compare_80 : decode cY_compare 80 = .ok (.iload_n 1, 1) := by decide +kernel
theorem dY_compare_81 : decode cY_compare 81 = .ok (.iaload, 1) := by decide +kernel
theorem dY_compare_82 : decode cY_compare 82 = .ok (.iaload, 1) := by decide +kernel
theorem dY_compare_83 : decode cY_compare 83 = .ok (.istore_n 3, 1) := by decide +kernel
theorem dY_compare_84 : decode cY_compare 84 = .ok (.aload_n 0, 1) := by decide +kernel
theorem dY_compare_85 : decode cY_compare 85 = .ok (.getfield 13, 3) := by decide +kernel
theorem dY_compare_88 : decode cY_compare 88 = .ok (.aload_n 0, 1) := by decide +kernel
theorem dY_compare_89 : decode cY_compare 89 = .ok (.getfield 23, 3) := by decide +kernel
theorem dY_compare_92 : decode cY_compare 92 = .ok (.iload_n 2, 1) := by decide +kernel
theorem dY_compare_93 : decode cY_compare 93 = .ok (.iaload, 1) := by decide +kernel
theorem dY_compare_94 : decode cY_compare 94 = .ok (.iaload, 1) := by decide +kernel
theorem dY_compare_95 : decode cY_compare 95 = .ok (.istore 4, 2) := by decide +kernel
theorem dY_compare_97 : decode cY_compare 97 = .ok (.aload_n 0, 1) := by decide +kernel
theorem dY_compare_98 : decode cY_compare 98 = .ok (.iload_n 3, 1) := by decide +kernel
theorem dY_compare_99 : decode cY_compare 99 = .ok (.iload 4, 2) := by decide +kernel
theorem dY_compare_101 : decode cY_compare 101 = .ok (.if_icmp .ge 7, 3) := by decide +kernel
theorem dY_compare_104 : decode cY_compare 104 = .ok (.iconst (-1), 1) := by decide +kernel
theorem dY_compare_105 : decode cY_compare 105 = .ok (.goto 14, 3) := by decide +kernel
theorem dY_compare_108 : decode cY_compare 108 = .ok (.iload_n 3, 1) := by decide +kernel
theorem dY_compare_109 : decode cY_compare 109 = .ok (.iload 4, 2) := by decide +kernel
theorem dY_compare_111 : decode cY_compare 111 = .ok (.if_icmp .le 7, 3) := by decide +kernel
theorem dY_compare_114 : decode cY_compare 114 = .ok (.iconst 1, 1) := by decide +kernel
theorem dY_compare_115 : decode cY_compare 115 = .ok (.goto 4, 3) := by decide +kernel
theorem dY_compare_118 : decode cY_compare 118 = .ok (.iconst 0, 1) := by decide +kernel
theorem dY_compare_119 : decode cY_compare 119 = .ok (.putfield 86, 3) := by decide +kernel
theorem dY_compare_122 : decode cY_compare 122 = .ok (.iconst 0, 1) := by decide +kernel
theorem dY_compare_123 : decode cY_compare 123 = .ok (.ireturn, 1) := by decide +kernel
theorem dY_given_0 : decode cY_given 0 = .ok (.aload_n 0, 1) := by decide +kernel
theorem dY_given_1 : decode cY_given 1 = .ok (.iload_n 1, 1) := by decide +kernel
theorem dY_given_2 : decode cY_given 2 = .ok (.putfield 86, 3) := by decide +kernel
theorem dY_given_5 : decode cY_given 5 = .ok (.iconst 0, 1) := by decide +kernel
theorem dY_given_6 : decode cY_given 6 = .ok (.ireturn, 1) := by decide +kernel
theorem dY_turns_0 : decode cY_turns 0 = .ok (.iconst 0, 1) := by decide +kernel
theorem dY_turns_1 : decode cY_turns 1 = .ok (.istore_n 3, 1) := by decide +kernel
theorem dY_turns_2 : decode cY_turns 2 = .ok (.iconst 1, 1) := by decide +kernel
theorem dY_turns_3 : decode cY_turns 3 = .ok (.istore 4, 2) := by decide +kernel
theorem dY_turns_5 : decode cY_turns 5 = .ok (.iload 4, 2) := by decide +kernel
theorem dY_turns_7 : decode cY_turns 7 = .ok (.bipush 6, 2) := by decide +kernel
theorem dY_turns_9 : decode cY_turns 9 = .ok (.if_icmp .ge 72, 3) := by decide +kernel
theorem dY_turns_12 : decode cY_turns 12 = .ok (.iload 4, 2) := by decide +kernel
theorem dY_turns_14 : decode cY_turns 14 = .ok (.iload_n 1, 1) := by decide +kernel
theorem dY_turns_15 : decode cY_turns 15 = .ok (.bipush 7, 2) := by decide +kernel
theorem dY_turns_17 : decode cY_turns 17 = .ok (.iand, 1) := by decide +kernel
theorem dY_turns_18 : decode cY_turns 18 = .ok (.if_icmp .ne 7, 3) := by decide +kernel
theorem dY_turns_21 : decode cY_turns 21 = .ok (.iconst 1, 1) := by decide +kernel
theorem dY_turns_22 : decode cY_turns 22 = .ok (.goto 4, 3) := by decide +kernel
theorem dY_turns_25 : decode cY_turns 25 = .ok (.iconst 0, 1) := by decide +kernel
theorem dY_turns_26 : decode cY_turns 26 = .ok (.istore 5, 2) := by decide +kernel
theorem dY_turns_28 : decode cY_turns 28 = .ok (.iload 5, 2) := by decide +kernel
theorem dY_turns_30 : decode cY_turns 30 = .ok (.ifCond .ne 16, 3) := by decide +kernel
theorem dY_turns_33 : decode cY_turns 33 = .ok (.iload 4, 2) := by decide +kernel
theorem dY_turns_35 : decode cY_turns 35 = .ok (.iload_n 2, 1) := by decide +kernel
theorem dY_turns_36 : decode cY_turns 36 = .ok (.bipush 7, 2) := by decide +kernel
theorem dY_turns_38 : decode cY_turns 38 = .ok (.iand, 1) := by decide +kernel
theorem dY_turns_39 : decode cY_turns 39 = .ok (.if_icmp .ne 7, 3) := by decide +kernel
theorem dY_turns_42 : decode cY_turns 42 = .ok (.iconst 1, 1) := by decide +kernel
theorem dY_turns_43 : decode cY_turns 43 = .ok (.goto 4, 3) := by decide +kernel
theorem dY_turns_46 : decode cY_turns 46 = .ok (.iconst 0, 1) := by decide +kernel
theorem dY_turns_47 : decode cY_turns 47 = .ok (.istore 6, 2) := by decide +kernel
theorem dY_turns_49 : decode cY_turns 49 = .ok (.iload 5, 2) := by decide +kernel
theorem dY_turns_51 : decode cY_turns 51 = .ok (.ifCond .ne 11, 3) := by decide +kernel
theorem dY_turns_54 : decode cY_turns 54 = .ok (.iload 6, 2) := by decide +kernel
theorem dY_turns_56 : decode cY_turns 56 = .ok (.ifCond .ne 6, 3) := by decide +kernel
theorem dY_turns_59 : decode cY_turns 59 = .ok (.iinc 3 1, 3) := by decide +kernel
theorem dY_turns_62 : decode cY_turns 62 = .ok (.aload_n 0, 1) := by decide +kernel
theorem dY_turns_63 : decode cY_turns 63 = .ok (.iload 4, 2) := by decide +kernel
theorem dY_turns_65 : decode cY_turns 65 = .ok (.invokevirtual 56, 3) := by decide +kernel
theorem dY_turns_68 : decode cY_turns 68 = .ok (.iload 6, 2) := by decide +kernel
theorem dY_turns_70 : decode cY_turns 70 = .ok (.ifCond .eq 5, 3) := by decide +kernel
theorem dY_turns_73 : decode cY_turns 73 = .ok (.iload_n 3, 1) := by decide +kernel
theorem dY_turns_74 : decode cY_turns 74 = .ok (.ireturn, 1) := by decide +kernel
theorem dY_turns_75 : decode cY_turns 75 = .ok (.iinc 4 1, 3) := by decide +kernel
theorem dY_turns_78 : decode cY_turns 78 = .ok (.goto (-73), 3) := by decide +kernel
theorem dY_turns_81 : decode cY_turns 81 = .ok (.iload_n 3, 1) := by decide +kernel
theorem dY_turns_82 : decode cY_turns 82 = .ok (.ireturn, 1) := by decide +kernel
theorem dY_closings_0 : decode cY_closings 0 = .ok (.iload_n 1, 1) := by decide +kernel
theorem dY_closings_1 : decode cY_closings 1 = .ok (.iconst 1, 1) := by decide +kernel
theorem dY_closings_2 : decode cY_closings 2 = .ok (.iand, 1) := by decide +kernel
theorem dY_closings_3 : decode cY_closings 3 = .ok (.ifCond .ne 7, 3) := by decide +kernel
theorem dY_closings_6 : decode cY_closings 6 = .ok (.iconst 1, 1) := by decide +kernel
theorem dY_closings_7 : decode cY_closings 7 = .ok (.goto 4, 3) := by decide +kernel
theorem dY_closings_10 : decode cY_closings 10 = .ok (.iconst 0, 1) := by decide +kernel
theorem dY_closings_11 : decode cY_closings 11 = .ok (.istore_n 3, 1) := by decide +kernel
theorem dY_closings_12 : decode cY_closings 12 = .ok (.iload_n 3, 1) := by decide +kernel
theorem dY_closings_13 : decode cY_closings 13 = .ok (.ifCond .eq 7, 3) := by decide +kernel
theorem dY_closings_16 : decode cY_closings 16 = .ok (.iconst 0, 1) := by decide +kernel
theorem dY_closings_17 : decode cY_closings 17 = .ok (.goto 4, 3) := by decide +kernel
theorem dY_closings_20 : decode cY_closings 20 = .ok (.iconst 1, 1) := by decide +kernel
theorem dY_closings_21 : decode cY_closings 21 = .ok (.istore 4, 2) := by decide +kernel
theorem dY_closings_23 : decode cY_closings 23 = .ok (.iconst 0, 1) := by decide +kernel
theorem dY_closings_24 : decode cY_closings 24 = .ok (.istore 5, 2) := by decide +kernel
theorem dY_closings_26 : decode cY_closings 26 = .ok (.aload_n 0, 1) := by decide +kernel
theorem dY_closings_27 : decode cY_closings 27 = .ok (.bipush 10, 2) := by decide +kernel
theorem dY_closings_29 : decode cY_closings 29 = .ok (.invokevirtual 56, 3) := by decide +kernel
theorem dY_closings_32 : decode cY_closings 32 = .ok (.aload_n 0, 1) := by decide +kernel
theorem dY_closings_33 : decode cY_closings 33 = .ok (.bipush 11, 2) := by decide +kernel
theorem dY_closings_35 : decode cY_closings 35 = .ok (.invokevirtual 56, 3) := by decide +kernel
theorem dY_closings_38 : decode cY_closings 38 = .ok (.iload_n 3, 1) := by decide +kernel
theorem dY_closings_39 : decode cY_closings 39 = .ok (.ifCond .eq 50, 3) := by decide +kernel
theorem dY_closings_42 : decode cY_closings 42 = .ok (.aload_n 0, 1) := by decide +kernel
theorem dY_closings_43 : decode cY_closings 43 = .ok (.bipush 12, 2) := by decide +kernel
theorem dY_closings_45 : decode cY_closings 45 = .ok (.invokevirtual 56, 3) := by decide +kernel
theorem dY_closings_48 : decode cY_closings 48 = .ok (.iload_n 1, 1) := by decide +kernel
theorem dY_closings_49 : decode cY_closings 49 = .ok (.iconst 2, 1) := by decide +kernel
theorem dY_closings_50 : decode cY_closings 50 = .ok (.iand, 1) := by decide +kernel
theorem dY_closings_51 : decode cY_closings 51 = .ok (.ifCond .eq 6, 3) := by decide +kernel
theorem dY_closings_54 : decode cY_closings 54 = .ok (.iconst 2, 1) := by decide +kernel
theorem dY_closings_55 : decode cY_closings 55 = .ok (.istore 4, 2) := by decide +kernel
theorem dY_closings_57 : decode cY_closings 57 = .ok (.aload_n 0, 1) := by decide +kernel
theorem dY_closings_58 : decode cY_closings 58 = .ok (.bipush 21, 2) := by decide +kernel
theorem dY_closings_60 : decode cY_closings 60 = .ok (.invokevirtual 56, 3) := by decide +kernel
theorem dY_closings_63 : decode cY_closings 63 = .ok (.iload_n 2, 1) := by decide +kernel
theorem dY_closings_64 : decode cY_closings 64 = .ok (.iconst 1, 1) := by decide +kernel
theorem dY_closings_65 : decode cY_closings 65 = .ok (.iand, 1) := by decide +kernel
theorem dY_closings_66 : decode cY_closings 66 = .ok (.ifCond .eq 14, 3) := by decide +kernel
theorem dY_closings_69 : decode cY_closings 69 = .ok (.iload 4, 2) := by decide +kernel
theorem dY_closings_71 : decode cY_closings 71 = .ok (.ifCond .le 9, 3) := by decide +kernel
theorem dY_closings_74 : decode cY_closings 74 = .ok (.iinc 5 1, 3) := by decide +kernel
theorem dY_closings_77 : decode cY_closings 77 = .ok (.goto 12, 3) := by decide +kernel
theorem dY_closings_80 : decode cY_closings 80 = .ok (.iload_n 2, 1) := by decide +kernel
theorem dY_closings_81 : decode cY_closings 81 = .ok (.iconst 1, 1) := by decide +kernel
theorem dY_closings_82 : decode cY_closings 82 = .ok (.iand, 1) := by decide +kernel
theorem dY_closings_83 : decode cY_closings 83 = .ok (.ifCond .eq 6, 3) := by decide +kernel
theorem dY_closings_86 : decode cY_closings 86 = .ok (.iconst 3, 1) := by decide +kernel
theorem dY_closings_87 : decode cY_closings 87 = .ok (.istore 4, 2) := by decide +kernel
theorem dY_closings_89 : decode cY_closings 89 = .ok (.aload_n 0, 1) := by decide +kernel
theorem dY_closings_90 : decode cY_closings 90 = .ok (.bipush 20, 2) := by decide +kernel
theorem dY_closings_92 : decode cY_closings 92 = .ok (.invokevirtual 56, 3) := by decide +kernel
theorem dY_closings_95 : decode cY_closings 95 = .ok (.iload_n 2, 1) := by decide +kernel
theorem dY_closings_96 : decode cY_closings 96 = .ok (.iconst 2, 1) := by decide +kernel
theorem dY_closings_97 : decode cY_closings 97 = .ok (.iand, 1) := by decide +kernel
theorem dY_closings_98 : decode cY_closings 98 = .ok (.ifCond .eq 14, 3) := by decide +kernel
theorem dY_closings_101 : decode cY_closings 101 = .ok (.iload 4, 2) := by decide +kernel
theorem dY_closings_103 : decode cY_closings 103 = .ok (.ifCond .le 9, 3) := by decide +kernel
theorem dY_closings_106 : decode cY_closings 106 = .ok (.iinc 5 1, 3) := by decide +kernel
theorem dY_closings_109 : decode cY_closings 109 = .ok (.goto 12, 3) := by decide +kernel
theorem dY_closings_112 : decode cY_closings 112 = .ok (.iload_n 2, 1) := by decide +kernel
theorem dY_closings_113 : decode cY_closings 113 = .ok (.iconst 2, 1) := by decide +kernel
theorem dY_closings_114 : decode cY_closings 114 = .ok (.iand, 1) := by decide +kernel
theorem dY_closings_115 : decode cY_closings 115 = .ok (.ifCond .eq 6, 3) := by decide +kernel
theorem dY_closings_118 : decode cY_closings 118 = .ok (.iconst 4, 1) := by decide +kernel
theorem dY_closings_119 : decode cY_closings 119 = .ok (.istore 4, 2) := by decide +kernel
theorem dY_closings_121 : decode cY_closings 121 = .ok (.bipush 100, 2) := by decide +kernel
theorem dY_closings_123 : decode cY_closings 123 = .ok (.iload 4, 2) := by decide +kernel
theorem dY_closings_125 : decode cY_closings 125 = .ok (.imul, 1) := by decide +kernel
theorem dY_closings_126 : decode cY_closings 126 = .ok (.iload 5, 2) := by decide +kernel
theorem dY_closings_128 : decode cY_closings 128 = .ok (.iadd, 1) := by decide +kernel
theorem dY_closings_129 : decode cY_closings 129 = .ok (.ireturn, 1) := by decide +kernel
theorem dY_flow_0 : decode cY_flow 0 = .ok (.iload_n 1, 1) := by decide +kernel
theorem dY_flow_1 : decode cY_flow 1 = .ok (.tableswitch 185 0 6 #[43, 64, 75, 86, 114, 128, 167], 43) := by decide +kernel
theorem dY_flow_44 : decode cY_flow 44 = .ok (.aload_n 0, 1) := by decide +kernel
theorem dY_flow_45 : decode cY_flow 45 = .ok (.iconst 1, 1) := by decide +kernel
theorem dY_flow_46 : decode cY_flow 46 = .ok (.invokevirtual 56, 3) := by decide +kernel
theorem dY_flow_49 : decode cY_flow 49 = .ok (.aload_n 0, 1) := by decide +kernel
theorem dY_flow_50 : decode cY_flow 50 = .ok (.iload_n 3, 1) := by decide +kernel
theorem dY_flow_51 : decode cY_flow 51 = .ok (.ifCond .ne 7, 3) := by decide +kernel
theorem dY_flow_54 : decode cY_flow 54 = .ok (.iconst (-1), 1) := by decide +kernel
theorem dY_flow_55 : decode cY_flow 55 = .ok (.goto 6, 3) := by decide +kernel
theorem dY_flow_58 : decode cY_flow 58 = .ok (.iload_n 2, 1) := by decide +kernel
theorem dY_flow_59 : decode cY_flow 59 = .ok (.iload_n 3, 1) := by decide +kernel
theorem dY_flow_60 : decode cY_flow 60 = .ok (.idiv, 1) := by decide +kernel
theorem dY_flow_61 : decode cY_flow 61 = .ok (.invokevirtual 94, 3) := by decide +kernel
theorem dY_flow_64 : decode cY_flow 64 = .ok (.ireturn, 1) := by decide +kernel
theorem dY_flow_65 : decode cY_flow 65 = .ok (.aload_n 0, 1) := by decide +kernel
theorem dY_flow_66 : decode cY_flow 66 = .ok (.aload_n 0, 1) := by decide +kernel
theorem dY_flow_67 : decode cY_flow 67 = .ok (.iload_n 2, 1) := by decide +kernel
theorem dY_flow_68 : decode cY_flow 68 = .ok (.iload_n 3, 1) := by decide +kernel
theorem dY_flow_69 : decode cY_flow 69 = .ok (.invokevirtual 97, 3) := by decide +kernel
theorem dY_flow_72 : decode cY_flow 72 = .ok (.invokevirtual 94, 3) := by decide +kernel
theorem dY_flow_75 : decode cY_flow 75 = .ok (.ireturn, 1) := by decide +kernel
theorem dY_flow_76 : decode cY_flow 76 = .ok (.aload_n 0, 1) := by decide +kernel
theorem dY_flow_77 : decode cY_flow 77 = .ok (.aload_n 0, 1) := by decide +kernel
theorem dY_flow_78 : decode cY_flow 78 = .ok (.iload_n 2, 1) := by decide +kernel
theorem dY_flow_79 : decode cY_flow 79 = .ok (.iload_n 3, 1) := by decide +kernel
theorem dY_flow_80 : decode cY_flow 80 = .ok (.invokevirtual 100, 3) := by decide +kernel
theorem dY_flow_83 : decode cY_flow 83 = .ok (.invokevirtual 94, 3) := by decide +kernel
theorem dY_flow_86 : decode cY_flow 86 = .ok (.ireturn, 1) := by decide +kernel
theorem dY_flow_87 : decode cY_flow 87 = .ok (.aload_n 0, 1) := by decide +kernel
theorem dY_flow_88 : decode cY_flow 88 = .ok (.iload_n 3, 1) := by decide +kernel
theorem dY_flow_89 : decode cY_flow 89 = .ok (.iconst 3, 1) := by decide +kernel
theorem dY_flow_90 : decode cY_flow 90 = .ok (.iand, 1) := by decide +kernel
theorem dY_flow_91 : decode cY_flow 91 = .ok (.iconst 3, 1) := by decide +kernel
theorem dY_flow_92 : decode cY_flow 92 = .ok (.if_icmp .ne 8, 3) := by decide +kernel
theorem dY_flow_95 : decode cY_flow 95 = .ok (.iload_n 2, 1) := by decide +kernel
theorem dY_flow_96 : decode cY_flow 96 = .ok (.ineg, 1) := by decide +kernel
theorem dY_flow_97 : decode cY_flow 97 = .ok (.goto 14, 3) := by decide +kernel
theorem dY_flow_100 : decode cY_flow 100 = .ok (.iload_n 2, 1) := by decide +kernel
theorem dY_flow_101 : decode cY_flow 101 = .ok (.iconst 2, 1) := by decide +kernel
theorem dY_flow_102 : decode cY_flow 102 = .ok (.iconst 1, 1) := by decide +kernel
theorem dY_flow_103 : decode cY_flow 103 = .ok (.iload_n 3, 1) := by decide +kernel
theorem dY_flow_104 : decode cY_flow 104 = .ok (.iconst 3, 1) := by decide +kernel
theorem dY_flow_105 : decode cY_flow 105 = .ok (.iand, 1) := by decide +kernel
theorem dY_flow_106 : decode cY_flow 106 = .ok (.ishl, 1) := by decide +kernel
theorem dY_flow_107 : decode cY_flow 107 = .ok (.imul, 1) := by decide +kernel
theorem dY_flow_108 : decode cY_flow 108 = .ok (.iadd, 1) := by decide +kernel
theorem dY_flow_109 : decode cY_flow 109 = .ok (.iconst 1, 1) := by decide +kernel
theorem dY_flow_110 : decode cY_flow 110 = .ok (.isub, 1) := by decide +kernel
theorem dY_flow_111 : decode cY_flow 111 = .ok (.invokevirtual 94, 3) := by decide +kernel
theorem dY_flow_114 : decode cY_flow 114 = .ok (.ireturn, 1) := by decide +kernel
theorem dY_flow_115 : decode cY_flow 115 = .ok (.aload_n 0, 1) := by decide +kernel
theorem dY_flow_116 : decode cY_flow 116 = .ok (.iload_n 2, 1) := by decide +kernel
theorem dY_flow_117 : decode cY_flow 117 = .ok (.iload_n 2, 1) := by decide +kernel
theorem dY_flow_118 : decode cY_flow 118 = .ok (.iconst 1, 1) := by decide +kernel
theorem dY_flow_119 : decode cY_flow 119 = .ok (.iadd, 1) := by decide +kernel
theorem dY_flow_120 : decode cY_flow 120 = .ok (.iload_n 3, 1) := by decide +kernel
theorem dY_flow_121 : decode cY_flow 121 = .ok (.imul, 1) := by decide +kernel
theorem dY_flow_122 : decode cY_flow 122 = .ok (.iadd, 1) := by decide +kernel
theorem dY_flow_123 : decode cY_flow 123 = .ok (.iload_n 3, 1) := by decide +kernel
theorem dY_flow_124 : decode cY_flow 124 = .ok (.iadd, 1) := by decide +kernel
theorem dY_flow_125 : decode cY_flow 125 = .ok (.invokevirtual 94, 3) := by decide +kernel
theorem dY_flow_128 : decode cY_flow 128 = .ok (.ireturn, 1) := by decide +kernel
theorem dY_flow_129 : decode cY_flow 129 = .ok (.iload_n 2, 1) := by decide +kernel
theorem dY_flow_130 : decode cY_flow 130 = .ok (.sipush 1000, 3) := by decide +kernel
theorem dY_flow_133 : decode cY_flow 133 = .ok (.if_icmp .le 5, 3) := by decide +kernel
theorem dY_flow_136 : decode cY_flow 136 = .ok (.iconst (-1), 1) := by decide +kernel
theorem dY_flow_137 : decode cY_flow 137 = .ok (.ireturn, 1) := by decide +kernel
theorem dY_flow_138 : decode cY_flow 138 = .ok (.iload_n 2, 1) := by decide +kernel
theorem dY_flow_139 : decode cY_flow 139 = .ok (.ifCond .ge 6, 3) := by decide +kernel
theorem dY_flow_142 : decode cY_flow 142 = .ok (.bipush 6, 2) := by decide +kernel
theorem dY_flow_144 : decode cY_flow 144 = .ok (.ireturn, 1) := by decide +kernel
theorem dY_flow_145 : decode cY_flow 145 = .ok (.iload_n 3, 1) := by decide +kernel
theorem dY_flow_146 : decode cY_flow 146 = .ok (.iconst 0, 1) := by decide +kernel
theorem dY_flow_147 : decode cY_flow 147 = .ok (.iload_n 2, 1) := by decide +kernel
theorem dY_flow_148 : decode cY_flow 148 = .ok (.iconst 1, 1) := by decide +kernel
theorem dY_flow_149 : decode cY_flow 149 = .ok (.isub, 1) := by decide +kernel
theorem dY_flow_150 : decode cY_flow 150 = .ok (.invokestatic 48, 3) := by decide +kernel
theorem dY_flow_153 : decode cY_flow 153 = .ok (.ifCond .eq 13, 3) := by decide +kernel
theorem dY_flow_156 : decode cY_flow 156 = .ok (.aload_n 0, 1) := by decide +kernel
theorem dY_flow_157 : decode cY_flow 157 = .ok (.iload_n 3, 1) := by decide +kernel
theorem dY_flow_158 : decode cY_flow 158 = .ok (.iload_n 3, 1) := by decide +kernel
theorem dY_flow_159 : decode cY_flow 159 = .ok (.imul, 1) := by decide +kernel
theorem dY_flow_160 : decode cY_flow 160 = .ok (.invokevirtual 94, 3) := by decide +kernel
theorem dY_flow_163 : decode cY_flow 163 = .ok (.goto 4, 3) := by decide +kernel
theorem dY_flow_166 : decode cY_flow 166 = .ok (.iconst 4, 1) := by decide +kernel
theorem dY_flow_167 : decode cY_flow 167 = .ok (.ireturn, 1) := by decide +kernel
theorem dY_flow_168 : decode cY_flow 168 = .ok (.aload_n 0, 1) := by decide +kernel
theorem dY_flow_169 : decode cY_flow 169 = .ok (.iload_n 2, 1) := by decide +kernel
theorem dY_flow_170 : decode cY_flow 170 = .ok (.iconst 1, 1) := by decide +kernel
theorem dY_flow_171 : decode cY_flow 171 = .ok (.iand, 1) := by decide +kernel
theorem dY_flow_172 : decode cY_flow 172 = .ok (.ifCond .ne 8, 3) := by decide +kernel
theorem dY_flow_175 : decode cY_flow 175 = .ok (.ldc 103, 2) := by decide +kernel
theorem dY_flow_177 : decode cY_flow 177 = .ok (.goto 5, 3) := by decide +kernel
theorem dY_flow_180 : decode cY_flow 180 = .ok (.ldc 104, 2) := by decide +kernel
theorem dY_flow_182 : decode cY_flow 182 = .ok (.invokevirtual 94, 3) := by decide +kernel
theorem dY_flow_185 : decode cY_flow 185 = .ok (.ireturn, 1) := by decide +kernel
theorem dY_flow_186 : decode cY_flow 186 = .ok (.iconst (-1), 1) := by decide +kernel
theorem dY_flow_187 : decode cY_flow 187 = .ok (.ireturn, 1) := by decide +kernel
theorem dY_rounded_0 : decode cY_rounded 0 = .ok (.iload_n 0, 1) := by decide +kernel
theorem dY_rounded_1 : decode cY_rounded 1 = .ok (.ifCond .ge 9, 3) := by decide +kernel
theorem dY_rounded_4 : decode cY_rounded 4 = .ok (.iload_n 0, 1) := by decide +kernel
theorem dY_rounded_5 : decode cY_rounded 5 = .ok (.i2l, 1) := by decide +kernel
theorem dY_rounded_6 : decode cY_rounded 6 = .ok (.lneg, 1) := by decide +kernel
theorem dY_rounded_7 : decode cY_rounded 7 = .ok (.goto 5, 3) := by decide +kernel
theorem dY_rounded_10 : decode cY_rounded 10 = .ok (.iload_n 0, 1) := by decide +kernel
theorem dY_rounded_11 : decode cY_rounded 11 = .ok (.i2l, 1) := by decide +kernel
theorem dY_rounded_12 : decode cY_rounded 12 = .ok (.lstore_n 1, 1) := by decide +kernel
theorem dY_rounded_13 : decode cY_rounded 13 = .ok (.lconst 1, 1) := by decide +kernel
theorem dY_rounded_14 : decode cY_rounded 14 = .ok (.lstore_n 3, 1) := by decide +kernel
theorem dY_rounded_15 : decode cY_rounded 15 = .ok (.lload_n 1, 1) := by decide +kernel
theorem dY_rounded_16 : decode cY_rounded 16 = .ok (.lload_n 3, 1) := by decide +kernel
theorem dY_rounded_17 : decode cY_rounded 17 = .ok (.ldiv, 1) := by decide +kernel
theorem dY_rounded_18 : decode cY_rounded 18 = .ok (.ldc2_w 105, 3) := by decide +kernel
theorem dY_rounded_21 : decode cY_rounded 21 = .ok (.lcmp, 1) := by decide +kernel
theorem dY_rounded_22 : decode cY_rounded 22 = .ok (.ifCond .lt 12, 3) := by decide +kernel
theorem dY_rounded_25 : decode cY_rounded 25 = .ok (.lload_n 3, 1) := by decide +kernel
theorem dY_rounded_26 : decode cY_rounded 26 = .ok (.ldc2_w 107, 3) := by decide +kernel
theorem dY_rounded_29 : decode cY_rounded 29 = .ok (.lmul, 1) := by decide +kernel
theorem dY_rounded_30 : decode cY_rounded 30 = .ok (.lstore_n 3, 1) := by decide +kernel
theorem dY_rounded_31 : decode cY_rounded 31 = .ok (.goto (-16), 3) := by decide +kernel
theorem dY_rounded_34 : decode cY_rounded 34 = .ok (.lload_n 1, 1) := by decide +kernel
theorem dY_rounded_35 : decode cY_rounded 35 = .ok (.lload_n 3, 1) := by decide +kernel
theorem dY_rounded_36 : decode cY_rounded 36 = .ok (.ldiv, 1) := by decide +kernel
theorem dY_rounded_37 : decode cY_rounded 37 = .ok (.lload_n 3, 1) := by decide +kernel
theorem dY_rounded_38 : decode cY_rounded 38 = .ok (.lmul, 1) := by decide +kernel
theorem dY_rounded_39 : decode cY_rounded 39 = .ok (.lstore 5, 2) := by decide +kernel
theorem dY_rounded_41 : decode cY_rounded 41 = .ok (.lload_n 1, 1) := by decide +kernel
theorem dY_rounded_42 : decode cY_rounded 42 = .ok (.lload 5, 2) := by decide +kernel
theorem dY_rounded_44 : decode cY_rounded 44 = .ok (.lsub, 1) := by decide +kernel
theorem dY_rounded_45 : decode cY_rounded 45 = .ok (.lstore 7, 2) := by decide +kernel
theorem dY_rounded_47 : decode cY_rounded 47 = .ok (.ldc2_w 107, 3) := by decide +kernel
theorem dY_rounded_50 : decode cY_rounded 50 = .ok (.lload 7, 2) := by decide +kernel
theorem dY_rounded_52 : decode cY_rounded 52 = .ok (.lmul, 1) := by decide +kernel
theorem dY_rounded_53 : decode cY_rounded 53 = .ok (.lload_n 3, 1) := by decide +kernel
theorem dY_rounded_54 : decode cY_rounded 54 = .ok (.lcmp, 1) := by decide +kernel
theorem dY_rounded_55 : decode cY_rounded 55 = .ok (.ifCond .gt 26, 3) := by decide +kernel
theorem dY_rounded_58 : decode cY_rounded 58 = .ok (.ldc2_w 107, 3) := by decide +kernel
theorem dY_rounded_61 : decode cY_rounded 61 = .ok (.lload 7, 2) := by decide +kernel
theorem dY_rounded_63 : decode cY_rounded 63 = .ok (.lmul, 1) := by decide +kernel
theorem dY_rounded_64 : decode cY_rounded 64 = .ok (.lload_n 3, 1) := by decide +kernel
theorem dY_rounded_65 : decode cY_rounded 65 = .ok (.lcmp, 1) := by decide +kernel
theorem dY_rounded_66 : decode cY_rounded 66 = .ok (.ifCond .ne 21, 3) := by decide +kernel
theorem dY_rounded_69 : decode cY_rounded 69 = .ok (.lload_n 1, 1) := by decide +kernel
theorem dY_rounded_70 : decode cY_rounded 70 = .ok (.lload_n 3, 1) := by decide +kernel
theorem dY_rounded_71 : decode cY_rounded 71 = .ok (.ldiv, 1) := by decide +kernel
theorem dY_rounded_72 : decode cY_rounded 72 = .ok (.ldc2_w 107, 3) := by decide +kernel
theorem dY_rounded_75 : decode cY_rounded 75 = .ok (.lrem, 1) := by decide +kernel
theorem dY_rounded_76 : decode cY_rounded 76 = .ok (.lconst 1, 1) := by decide +kernel
theorem dY_rounded_77 : decode cY_rounded 77 = .ok (.lcmp, 1) := by decide +kernel
theorem dY_rounded_78 : decode cY_rounded 78 = .ok (.ifCond .ne 9, 3) := by decide +kernel
theorem dY_rounded_81 : decode cY_rounded 81 = .ok (.lload 5, 2) := by decide +kernel
theorem dY_rounded_83 : decode cY_rounded 83 = .ok (.lload_n 3, 1) := by decide +kernel
theorem dY_rounded_84 : decode cY_rounded 84 = .ok (.ladd, 1) := by decide +kernel
theorem dY_rounded_85 : decode cY_rounded 85 = .ok (.lstore 5, 2) := by decide +kernel
theorem dY_rounded_87 : decode cY_rounded 87 = .ok (.iload_n 0, 1) := by decide +kernel
theorem dY_rounded_88 : decode cY_rounded 88 = .ok (.ifCond .ge 9, 3) := by decide +kernel
theorem dY_rounded_91 : decode cY_rounded 91 = .ok (.lload 5, 2) := by decide +kernel
theorem dY_rounded_93 : decode cY_rounded 93 = .ok (.lneg, 1) := by decide +kernel
theorem dY_rounded_94 : decode cY_rounded 94 = .ok (.goto 5, 3) := by decide +kernel
theorem dY_rounded_97 : decode cY_rounded 97 = .ok (.lload 5, 2) := by decide +kernel
theorem dY_rounded_99 : decode cY_rounded 99 = .ok (.lreturn, 1) := by decide +kernel
theorem dY_held_0 : decode cY_held 0 = .ok (.lload_n 0, 1) := by decide +kernel
theorem dY_held_1 : decode cY_held 1 = .ok (.ldc2_w 109, 3) := by decide +kernel
theorem dY_held_4 : decode cY_held 4 = .ok (.lcmp, 1) := by decide +kernel
theorem dY_held_5 : decode cY_held 5 = .ok (.ifCond .le 8, 3) := by decide +kernel
theorem dY_held_8 : decode cY_held 8 = .ok (.ldc 111, 2) := by decide +kernel
theorem dY_held_10 : decode cY_held 10 = .ok (.goto 18, 3) := by decide +kernel
theorem dY_held_13 : decode cY_held 13 = .ok (.lload_n 0, 1) := by decide +kernel
theorem dY_held_14 : decode cY_held 14 = .ok (.ldc2_w 112, 3) := by decide +kernel
theorem dY_held_17 : decode cY_held 17 = .ok (.lcmp, 1) := by decide +kernel
theorem dY_held_18 : decode cY_held 18 = .ok (.ifCond .ge 8, 3) := by decide +kernel
theorem dY_held_21 : decode cY_held 21 = .ok (.ldc 114, 2) := by decide +kernel
theorem dY_held_23 : decode cY_held 23 = .ok (.goto 5, 3) := by decide +kernel
theorem dY_held_26 : decode cY_held 26 = .ok (.lload_n 0, 1) := by decide +kernel
theorem dY_held_27 : decode cY_held 27 = .ok (.l2i, 1) := by decide +kernel
theorem dY_held_28 : decode cY_held 28 = .ok (.ireturn, 1) := by decide +kernel
theorem dY_quotient_0 : decode cY_quotient 0 = .ok (.iload_n 1, 1) := by decide +kernel
theorem dY_quotient_1 : decode cY_quotient 1 = .ok (.ifCond .ne 23, 3) := by decide +kernel
theorem dY_quotient_4 : decode cY_quotient 4 = .ok (.iload_n 0, 1) := by decide +kernel
theorem dY_quotient_5 : decode cY_quotient 5 = .ok (.ifCond .le 8, 3) := by decide +kernel
theorem dY_quotient_8 : decode cY_quotient 8 = .ok (.ldc 111, 2) := by decide +kernel
theorem dY_quotient_10 : decode cY_quotient 10 = .ok (.goto 13, 3) := by decide +kernel
theorem dY_quotient_13 : decode cY_quotient 13 = .ok (.iload_n 0, 1) := by decide +kernel
theorem dY_quotient_14 : decode cY_quotient 14 = .ok (.ifCond .ge 8, 3) := by decide +kernel
theorem dY_quotient_17 : decode cY_quotient 17 = .ok (.ldc 114, 2) := by decide +kernel
theorem dY_quotient_19 : decode cY_quotient 19 = .ok (.goto 4, 3) := by decide +kernel
theorem dY_quotient_22 : decode cY_quotient 22 = .ok (.iconst 0, 1) := by decide +kernel
theorem dY_quotient_23 : decode cY_quotient 23 = .ok (.ireturn, 1) := by decide +kernel
theorem dY_quotient_24 : decode cY_quotient 24 = .ok (.iload_n 0, 1) := by decide +kernel
theorem dY_quotient_25 : decode cY_quotient 25 = .ok (.i2l, 1) := by decide +kernel
theorem dY_quotient_26 : decode cY_quotient 26 = .ok (.iload_n 1, 1) := by decide +kernel
theorem dY_quotient_27 : decode cY_quotient 27 = .ok (.i2l, 1) := by decide +kernel
theorem dY_quotient_28 : decode cY_quotient 28 = .ok (.ldiv, 1) := by decide +kernel
theorem dY_quotient_29 : decode cY_quotient 29 = .ok (.invokestatic 115, 3) := by decide +kernel
theorem dY_quotient_32 : decode cY_quotient 32 = .ok (.ireturn, 1) := by decide +kernel
theorem dY_decimals_0 : decode cY_decimals 0 = .ok (.iload_n 0, 1) := by decide +kernel
theorem dY_decimals_1 : decode cY_decimals 1 = .ok (.ifCond .ge 9, 3) := by decide +kernel
theorem dY_decimals_4 : decode cY_decimals 4 = .ok (.iload_n 0, 1) := by decide +kernel
theorem dY_decimals_5 : decode cY_decimals 5 = .ok (.i2l, 1) := by decide +kernel
theorem dY_decimals_6 : decode cY_decimals 6 = .ok (.lneg, 1) := by decide +kernel
theorem dY_decimals_7 : decode cY_decimals 7 = .ok (.goto 5, 3) := by decide +kernel
theorem dY_decimals_10 : decode cY_decimals 10 = .ok (.iload_n 0, 1) := by decide +kernel
theorem dY_decimals_11 : decode cY_decimals 11 = .ok (.i2l, 1) := by decide +kernel
theorem dY_decimals_12 : decode cY_decimals 12 = .ok (.lstore_n 1, 1) := by decide +kernel
theorem dY_decimals_13 : decode cY_decimals 13 = .ok (.iload_n 0, 1) := by decide +kernel
theorem dY_decimals_14 : decode cY_decimals 14 = .ok (.ifCond .ge 7, 3) := by decide +kernel
theorem dY_decimals_17 : decode cY_decimals 17 = .ok (.iconst 2, 1) := by decide +kernel
theorem dY_decimals_18 : decode cY_decimals 18 = .ok (.goto 4, 3) := by decide +kernel
theorem dY_decimals_21 : decode cY_decimals 21 = .ok (.iconst 1, 1) := by decide +kernel
theorem dY_decimals_22 : decode cY_decimals 22 = .ok (.istore_n 3, 1) := by decide +kernel
theorem dY_decimals_23 : decode cY_decimals 23 = .ok (.lload_n 1, 1) := by decide +kernel
theorem dY_decimals_24 : decode cY_decimals 24 = .ok (.ldc2_w 119, 3) := by decide +kernel
theorem dY_decimals_27 : decode cY_decimals 27 = .ok (.lcmp, 1) := by decide +kernel
theorem dY_decimals_28 : decode cY_decimals 28 = .ok (.ifCond .le 15, 3) := by decide +kernel
theorem dY_decimals_31 : decode cY_decimals 31 = .ok (.lload_n 1, 1) := by decide +kernel
theorem dY_decimals_32 : decode cY_decimals 32 = .ok (.ldc2_w 121, 3) := by decide +kernel
theorem dY_decimals_35 : decode cY_decimals 35 = .ok (.ldiv, 1) := by decide +kernel
theorem dY_decimals_36 : decode cY_decimals 36 = .ok (.lstore_n 1, 1) := by decide +kernel
theorem dY_decimals_37 : decode cY_decimals 37 = .ok (.iinc 3 1, 3) := by decide +kernel
theorem dY_decimals_40 : decode cY_decimals 40 = .ok (.goto (-17), 3) := by decide +kernel
theorem dY_decimals_43 : decode cY_decimals 43 = .ok (.iload_n 3, 1) := by decide +kernel
theorem dY_decimals_44 : decode cY_decimals 44 = .ok (.ireturn, 1) := by decide +kernel
theorem dY_number_0 : decode cY_number 0 = .ok (.iload_n 1, 1) := by decide +kernel
theorem dY_number_1 : decode cY_number 1 = .ok (.tableswitch 199 0 9 #[55, 67, 77, 89, 105, 121, 131, 145, 167, 183], 55) := by decide +kernel
theorem dY_number_56 : decode cY_number 56 = .ok (.aload_n 0, 1) := by decide +kernel
theorem dY_number_57 : decode cY_number 57 = .ok (.iload_n 2, 1) := by decide +kernel
theorem dY_number_58 : decode cY_number 58 = .ok (.invokestatic 123, 3) := by decide +kernel
theorem dY_number_61 : decode cY_number 61 = .ok (.invokestatic 115, 3) := by decide +kernel
theorem dY_number_64 : decode cY_number 64 = .ok (.invokevirtual 94, 3) := by decide +kernel
theorem dY_number_67 : decode cY_number 67 = .ok (.ireturn, 1) := by decide +kernel
theorem dY_number_68 : decode cY_number 68 = .ok (.aload_n 0, 1) := by decide +kernel
theorem dY_number_69 : decode cY_number 69 = .ok (.iload_n 2, 1) := by decide +kernel
theorem dY_number_70 : decode cY_number 70 = .ok (.iload_n 3, 1) := by decide +kernel
theorem dY_number_71 : decode cY_number 71 = .ok (.invokestatic 127, 3) := by decide +kernel
theorem dY_number_74 : decode cY_number 74 = .ok (.invokevirtual 94, 3) := by decide +kernel
theorem dY_number_77 : decode cY_number 77 = .ok (.ireturn, 1) := by decide +kernel
theorem dY_number_78 : decode cY_number 78 = .ok (.aload_n 0, 1) := by decide +kernel
theorem dY_number_79 : decode cY_number 79 = .ok (.iload_n 2, 1) := by decide +kernel
theorem dY_number_80 : decode cY_number 80 = .ok (.i2b, 1) := by decide +kernel
theorem dY_number_81 : decode cY_number 81 = .ok (.iload_n 3, 1) := by decide +kernel
theorem dY_number_82 : decode cY_number 82 = .ok (.ldc 130, 2) := by decide +kernel
theorem dY_number_84 : decode cY_number 84 = .ok (.iand, 1) := by decide +kernel
theorem dY_number_85 : decode cY_number 85 = .ok (.imul, 1) := by decide +kernel
theorem dY_number_86 : decode cY_number 86 = .ok (.invokevirtual 94, 3) := by decide +kernel
theorem dY_number_89 : decode cY_number 89 = .ok (.ireturn, 1) := by decide +kernel
theorem dY_number_90 : decode cY_number 90 = .ok (.aload_n 0, 1) := by decide +kernel
theorem dY_number_91 : decode cY_number 91 = .ok (.iload_n 2, 1) := by decide +kernel
theorem dY_number_92 : decode cY_number 92 = .ok (.iload_n 3, 1) := by decide +kernel
theorem dY_number_93 : decode cY_number 93 = .ok (.ishr, 1) := by decide +kernel
theorem dY_number_94 : decode cY_number 94 = .ok (.iload_n 2, 1) := by decide +kernel
theorem dY_number_95 : decode cY_number 95 = .ok (.iload_n 3, 1) := by decide +kernel
theorem dY_number_96 : decode cY_number 96 = .ok (.iushr, 1) := by decide +kernel
theorem dY_number_97 : decode cY_number 97 = .ok (.iadd, 1) := by decide +kernel
theorem dY_number_98 : decode cY_number 98 = .ok (.iload_n 2, 1) := by decide +kernel
theorem dY_number_99 : decode cY_number 99 = .ok (.iload_n 3, 1) := by decide +kernel
theorem dY_number_100 : decode cY_number 100 = .ok (.ishl, 1) := by decide +kernel
theorem dY_number_101 : decode cY_number 101 = .ok (.iadd, 1) := by decide +kernel
theorem dY_number_102 : decode cY_number 102 = .ok (.invokevirtual 94, 3) := by decide +kernel
theorem dY_number_105 : decode cY_number 105 = .ok (.ireturn, 1) := by decide +kernel
theorem dY_number_106 : decode cY_number 106 = .ok (.iload_n 3, 1) := by decide +kernel
theorem dY_number_107 : decode cY_number 107 = .ok (.ifCond .ne 7, 3) := by decide +kernel
theorem dY_number_110 : decode cY_number 110 = .ok (.iconst 5, 1) := by decide +kernel
theorem dY_number_111 : decode cY_number 111 = .ok (.goto 10, 3) := by decide +kernel
theorem dY_number_114 : decode cY_number 114 = .ok (.aload_n 0, 1) := by decide +kernel
theorem dY_number_115 : decode cY_number 115 = .ok (.iload_n 2, 1) := by decide +kernel
theorem dY_number_116 : decode cY_number 116 = .ok (.iload_n 3, 1) := by decide +kernel
theorem dY_number_117 : decode cY_number 117 = .ok (.irem, 1) := by decide +kernel
theorem dY_number_118 : decode cY_number 118 = .ok (.invokevirtual 94, 3) := by decide +kernel
theorem dY_number_121 : decode cY_number 121 = .ok (.ireturn, 1) := by decide +kernel
theorem dY_number_122 : decode cY_number 122 = .ok (.aload_n 0, 1) := by decide +kernel
theorem dY_number_123 : decode cY_number 123 = .ok (.iload_n 2, 1) := by decide +kernel
theorem dY_number_124 : decode cY_number 124 = .ok (.i2s, 1) := by decide +kernel
theorem dY_number_125 : decode cY_number 125 = .ok (.iload_n 3, 1) := by decide +kernel
theorem dY_number_126 : decode cY_number 126 = .ok (.iadd, 1) := by decide +kernel
theorem dY_number_127 : decode cY_number 127 = .ok (.i2s, 1) := by decide +kernel
theorem dY_number_128 : decode cY_number 128 = .ok (.invokevirtual 94, 3) := by decide +kernel
theorem dY_number_131 : decode cY_number 131 = .ok (.ireturn, 1) := by decide +kernel
theorem dY_number_132 : decode cY_number 132 = .ok (.aload_n 0, 1) := by decide +kernel
theorem dY_number_133 : decode cY_number 133 = .ok (.iload_n 2, 1) := by decide +kernel
theorem dY_number_134 : decode cY_number 134 = .ok (.i2l, 1) := by decide +kernel
theorem dY_number_135 : decode cY_number 135 = .ok (.iload_n 3, 1) := by decide +kernel
theorem dY_number_136 : decode cY_number 136 = .ok (.i2l, 1) := by decide +kernel
theorem dY_number_137 : decode cY_number 137 = .ok (.lmul, 1) := by decide +kernel
theorem dY_number_138 : decode cY_number 138 = .ok (.bipush 16, 2) := by decide +kernel
theorem dY_number_140 : decode cY_number 140 = .ok (.lshr, 1) := by decide +kernel
theorem dY_number_141 : decode cY_number 141 = .ok (.l2i, 1) := by decide +kernel
theorem dY_number_142 : decode cY_number 142 = .ok (.invokevirtual 94, 3) := by decide +kernel
theorem dY_number_145 : decode cY_number 145 = .ok (.ireturn, 1) := by decide +kernel
theorem dY_number_146 : decode cY_number 146 = .ok (.aload_n 0, 1) := by decide +kernel
theorem dY_number_147 : decode cY_number 147 = .ok (.iload_n 2, 1) := by decide +kernel
theorem dY_number_148 : decode cY_number 148 = .ok (.invokestatic 123, 3) := by decide +kernel
theorem dY_number_151 : decode cY_number 151 = .ok (.iload_n 3, 1) := by decide +kernel
theorem dY_number_152 : decode cY_number 152 = .ok (.invokestatic 123, 3) := by decide +kernel
theorem dY_number_155 : decode cY_number 155 = .ok (.lcmp, 1) := by decide +kernel
theorem dY_number_156 : decode cY_number 156 = .ok (.ifCond .ne 7, 3) := by decide +kernel
theorem dY_number_159 : decode cY_number 159 = .ok (.iconst 1, 1) := by decide +kernel
theorem dY_number_160 : decode cY_number 160 = .ok (.goto 4, 3) := by decide +kernel
theorem dY_number_163 : decode cY_number 163 = .ok (.iconst 0, 1) := by decide +kernel
theorem dY_number_164 : decode cY_number 164 = .ok (.invokevirtual 94, 3) := by decide +kernel
theorem dY_number_167 : decode cY_number 167 = .ok (.ireturn, 1) := by decide +kernel
theorem dY_number_168 : decode cY_number 168 = .ok (.aload_n 0, 1) := by decide +kernel
theorem dY_number_169 : decode cY_number 169 = .ok (.iload_n 2, 1) := by decide +kernel
theorem dY_number_170 : decode cY_number 170 = .ok (.i2l, 1) := by decide +kernel
theorem dY_number_171 : decode cY_number 171 = .ok (.ldc2_w 131, 3) := by decide +kernel
theorem dY_number_174 : decode cY_number 174 = .ok (.lmul, 1) := by decide +kernel
theorem dY_number_175 : decode cY_number 175 = .ok (.ldc2_w 92, 3) := by decide +kernel
theorem dY_number_178 : decode cY_number 178 = .ok (.ldiv, 1) := by decide +kernel
theorem dY_number_179 : decode cY_number 179 = .ok (.l2i, 1) := by decide +kernel
theorem dY_number_180 : decode cY_number 180 = .ok (.invokevirtual 94, 3) := by decide +kernel
theorem dY_number_183 : decode cY_number 183 = .ok (.ireturn, 1) := by decide +kernel
theorem dY_number_184 : decode cY_number 184 = .ok (.aload_n 0, 1) := by decide +kernel
theorem dY_number_185 : decode cY_number 185 = .ok (.iload_n 2, 1) := by decide +kernel
theorem dY_number_186 : decode cY_number 186 = .ok (.invokestatic 133, 3) := by decide +kernel
theorem dY_number_189 : decode cY_number 189 = .ok (.iconst 1, 1) := by decide +kernel
theorem dY_number_190 : decode cY_number 190 = .ok (.iadd, 1) := by decide +kernel
theorem dY_number_191 : decode cY_number 191 = .ok (.iload_n 3, 1) := by decide +kernel
theorem dY_number_192 : decode cY_number 192 = .ok (.invokestatic 133, 3) := by decide +kernel
theorem dY_number_195 : decode cY_number 195 = .ok (.iadd, 1) := by decide +kernel
theorem dY_number_196 : decode cY_number 196 = .ok (.invokevirtual 94, 3) := by decide +kernel
theorem dY_number_199 : decode cY_number 199 = .ok (.ireturn, 1) := by decide +kernel
theorem dY_number_200 : decode cY_number 200 = .ok (.iconst (-1), 1) := by decide +kernel
theorem dY_number_201 : decode cY_number 201 = .ok (.ireturn, 1) := by decide +kernel
theorem dY_events_0 : decode cY_events 0 = .ok (.aload_n 0, 1) := by decide +kernel
theorem dY_events_1 : decode cY_events 1 = .ok (.getfield 45, 3) := by decide +kernel
theorem dY_events_4 : decode cY_events 4 = .ok (.ireturn, 1) := by decide +kernel
theorem dY_event_0 : decode cY_event 0 = .ok (.iload_n 1, 1) := by decide +kernel
theorem dY_event_1 : decode cY_event 1 = .ok (.iconst 0, 1) := by decide +kernel
theorem dY_event_2 : decode cY_event 2 = .ok (.bipush 15, 2) := by decide +kernel
theorem dY_event_4 : decode cY_event 4 = .ok (.invokestatic 48, 3) := by decide +kernel
theorem dY_event_7 : decode cY_event 7 = .ok (.ifCond .eq 20, 3) := by decide +kernel
theorem dY_event_10 : decode cY_event 10 = .ok (.iload_n 1, 1) := by decide +kernel
theorem dY_event_11 : decode cY_event 11 = .ok (.aload_n 0, 1) := by decide +kernel
theorem dY_event_12 : decode cY_event 12 = .ok (.getfield 45, 3) := by decide +kernel
theorem dY_event_15 : decode cY_event 15 = .ok (.if_icmp .ge 12, 3) := by decide +kernel
theorem dY_event_18 : decode cY_event 18 = .ok (.aload_n 0, 1) := by decide +kernel
theorem dY_event_19 : decode cY_event 19 = .ok (.getfield 38, 3) := by decide +kernel
theorem dY_event_22 : decode cY_event 22 = .ok (.iload_n 1, 1) := by decide +kernel
theorem dY_event_23 : decode cY_event 23 = .ok (.iaload, 1) := by decide +kernel
theorem dY_event_24 : decode cY_event 24 = .ok (.goto 4, 3) := by decide +kernel
theorem dY_event_27 : decode cY_event 27 = .ok (.iconst (-1), 1) := by decide +kernel
theorem dY_event_28 : decode cY_event 28 = .ok (.ireturn, 1) := by decide +kernel
end
section
/-! the class's state, in words -/
/-- a thing: kind, n, source, repeaters, bonus, extra -/
abbrev TH : Type := Int32 × Int32 × Option Nat × Int32 × Int32 × Int32
def thE (t : TH) : va_E := .inr (0, [.int t.1, .int t.2.1, va_rf t.2.2.1, .int t.2.2.2.1, .int t.2.2.2.2.1, .int t.2.2.2.2.2])
def thP (T : Nat → TH) : Nat → va_E := fun a => thE (T a)
/-- the fixed addresses: this, wren, owl, slots, places, passing, lastEvents; the classes of the four arrays -/
abbrev XF : Type := Nat × Nat × Nat × Nat × Nat × Nat × Nat × ClassId × ClassId × ClassId × ClassId
/-- slots, places, passing, events; count of events, of shadow calls, last value; the things: where, what -/
abbrev XS : Type := (Nat → Option Nat) × (Nat → Option Nat) × (Nat → Option Nat) × (Nat → Int32) × Int32 × Int32 × Int32 × List Nat × (Nat → TH)
def xX (F : XF) (u : XS) : va_W := [(F.1, .inr (1, [.ref F.2.1, .ref F.2.2.1, .ref F.2.2.2.1, .ref F.2.2.2.2.1, .ref F.2.2.2.2.2.1, .ref F.2.2.2.2.2.2.1, .int u.2.2.2.2.1, .int u.2.2.2.2.2.1, .int u.2.2.2.2.2.2.1])),
  (F.2.2.2.1, .inl (F.2.2.2.2.2.2.2.1, 8, .inr (.inr (.inr (.inr u.1))))), (F.2.2.2.2.1, .inl (F.2.2.2.2.2.2.2.2.1, 16, .inr (.inr (.inr (.inr u.2.1))))), (F.2.2.2.2.2.1, .inl (F.2.2.2.2.2.2.2.2.2.1, 4, .inr (.inr (.inr (.inr u.2.2.1))))), (F.2.2.2.2.2.2.1, .inl (F.2.2.2.2.2.2.2.2.2.2, 16, .inl u.2.2.2.1))]
def xW (F : XF) (u : XS) : va_W := xX F u ++ va_pl u.2.2.2.2.2.2.2.1 (thP u.2.2.2.2.2.2.2.2)
def xTy (F : XF) : List (ClassId × FieldType) := [(F.2.2.2.2.2.2.2.1, .object "FamilyProbes$Thing"), (F.2.2.2.2.2.2.2.2.1, .object "FamilyProbes$Thing"), (F.2.2.2.2.2.2.2.2.2.1, .object "FamilyProbes$Thing"), (F.2.2.2.2.2.2.2.2.2.2, .int)]
def isB (x b : Int32) : Bool := !decide (x < 0) && !decide (b ≤ x)
/-- what always holds of the state: slots, places, passing hold things; sources are things; kinds are kinds; the birds -/
def xOk (F : XF) (u : XS) : Prop := (∀ i q, u.1 i = some q → q ∈ u.2.2.2.2.2.2.2.1) ∧ (∀ i q, u.2.1 i = some q → q ∈ u.2.2.2.2.2.2.2.1) ∧ (∀ i q, u.2.2.1 i = some q → q ∈ u.2.2.2.2.2.2.2.1) ∧
  (∀ a, a ∈ u.2.2.2.2.2.2.2.1 → ∀ q, (u.2.2.2.2.2.2.2.2 a).2.2.1 = some q → q ∈ u.2.2.2.2.2.2.2.1) ∧ (∀ a, a ∈ u.2.2.2.2.2.2.2.1 → isB (u.2.2.2.2.2.2.2.2 a).1 10 = true) ∧ F.2.1 ∈ u.2.2.2.2.2.2.2.1 ∧ F.2.2.1 ∈ u.2.2.2.2.2.2.2.1
/-- links between nest mates -/
def xNl : List Cond := [.fieldLinkNest RX1 118 "FamilyProbes$Thing" "kind" "I" "FamilyProbes", .fieldLinkNest RX1 83 "FamilyProbes$Thing" "n" "I" "FamilyProbes", .fieldLinkNest RX1 166 "FamilyProbes$Thing" "source" "LFamilyProbes$Thing;" "FamilyProbes", .fieldLinkNest RX1 121 "FamilyProbes$Thing" "repeaters" "I" "FamilyProbes", .fieldLinkNest RX1 135 "FamilyProbes$Thing" "bonus" "I" "FamilyProbes", .fieldLinkNest RX1 138 "FamilyProbes$Thing" "extra" "I" "FamilyProbes", .methodLinkNest RX1 11 yX0_init "FamilyProbes"]
def xN (U : State) : Prop := ∀ w ∈ xNl, va_Nw w U
theorem xN.warm {s U : State} (hW : s.WarmedH U.vm) (h : xN s) : xN U := by
  intro w hw
  have h1 := h w hw
  simp only [xNl, List.mem_cons, List.not_mem_nil, or_false] at hw
  rcases hw with rfl | rfl | rfl | rfl | rfl | rfl | rfl <;> first | exact va_Nw.warmF hW h1 | exact va_Nw.warmM hW h1
theorem xN.same {s U : State} (hv : s.vm = U.vm) (h : xN s) : xN U := by
  intro w hw
  have h1 := h w hw
  simp only [xNl, List.mem_cons, List.not_mem_nil, or_false] at hw
  rcases hw with rfl | rfl | rfl | rfl | rfl | rfl | rfl <;> exact va_Nw.same rfl hv h1
/-- the class's tables -/
def tokV (k : Nat) : Int32 := [27, 45, 111, 129, 259, 259, 1, 1, 1, 45].getD k 0
def memV (k : Nat) : Int32 := [511, 511, 374, 120, 120, 120, 120, 263, 120, 120, 136, 80].getD k 0
def rowV (k : Nat) : Int32 := [0, 3, 5, 4].getD k 0
def xSt (A : Nat → Prop) (U : State) (H : Heap) : Prop := ∃ tk tm tr : Nat,
  va_Z "FamilyProbes" "TYPES_OF_KIND" "[I" (.ref tk) A U H ∧ va_T .int tk 10 (fun k => .int (tokV k)) A U H ∧
  va_Z "FamilyProbes" "TYPES_WITH_MEMBER" "[I" (.ref tm) A U H ∧ va_T .int tm 12 (fun k => .int (memV k)) A U H ∧
  va_Z "FamilyProbes" "TYPE_OF_ROW" "[I" (.ref tr) A U H ∧ va_T .int tr 4 (fun k => .int (rowV k)) A U H
theorem xSt.go {A B : Nat → Prop} {s U : State} {H0 H : Heap} {locs : List Loc} (h : xSt A s H0) (hS : va_S A H0 H locs) (hF : ∀ q, B q → A q) (hvm : s.vm.Alike U.vm) (hU : U.heap = H) : xSt B U U.heap := by
  obtain ⟨tk, tm, tr, h1, h2, h3, h4, h5, h6⟩ := h
  have hq : ∀ a : Nat, a < H0.size → ¬ A a → U.heap[a]? = H0[a]? := fun a h1 h2 => by rw [hU]; exact hS.2.1 a h1 h2
  exact ⟨tk, tm, tr, ((h1.kept hq).narrow hF).moved hvm, ((h2.kept hq).narrow hF).moved hvm, ((h3.kept hq).narrow hF).moved hvm, ((h4.kept hq).narrow hF).moved hvm, ((h5.kept hq).narrow hF).moved hvm, ((h6.kept hq).narrow hF).moved hvm⟩
theorem xFalse {A : Nat → Prop} : ∀ q : Nat, (fun _ : Nat => False) q → A q := fun _ h => h.elim
/-- a method's start, on the whole state; its end -/
def xPc (D : va_G) (F : XF) (u : XS) (sz : Nat) (av : List Value) : Array Value → State → Prop := va_Pc av (fun U => U.heap.size = sz ∧ va_P D vwCl (xW F u) U.heap ∧ va_K D vwCl (xTy F) U ∧ va_D (fun _ => True) (xW F u) ∧ xN U ∧ xSt (va_A (xW F u) sz) U U.heap)
def xB (D : va_G) (F : XF) (A : Nat → Prop) (v : XS) (t : State) : Prop := va_P D vwCl (xW F v) t.heap ∧ va_K D vwCl (xTy F) t ∧ va_D A (xW F v)
theorem xFree {A : Nat → Prop} {ws : va_W} {H0 H : Heap} {locs : List Loc} (hD : va_D A ws) (hS : va_S A H0 H locs) (hA : ∀ q : Nat, H0.size ≤ q → A q) : ∀ q, va_A ws H.size q → A q := by
  intro q h
  rcases h with ⟨k, e, h⟩ | h
  · exact hD.2 k (q, e) h
  · exact hA q (Nat.le_trans hS.1 h)
theorem xPre {D : va_G} {F : XF} {u : XS} {s : State} {A : Nat → Prop} {H : Heap} {locs : List Loc} (hN : xN s) (hK : va_K D vwCl (xTy F) s) (hP : va_P D vwCl (xW F u) H) (hD : va_D A (xW F u)) (hS : va_S A s.heap H locs) (hA : ∀ q : Nat, s.heap.size ≤ q → A q) (hZ : xSt A s s.heap) (As : List Value) :
    PreV s H RX1 F.1 (xPc D F u H.size (.ref F.1 :: As)) As := by
  refine ⟨fun a U g mk q => ?_, va_recv hK hP (ci := 1) (q0 := 0) rfl rfl, fun U hU hW => ⟨rfl, by rw [hU], by rw [hU]; exact hP, va_K.moved hW.alike hK, hD.weaken (fun _ _ _ _ => trivial), hN.warm hW, ?_⟩⟩
  · obtain ⟨q0, q1, qP, qK, qD, qN, qZ⟩ := q
    exact ⟨q0, q1, qP, va_K.moved (u := U) (U := U.calling g mk a) (Vm.Alike.refl U.vm) qK, qD, xN.same (s := U) (U := U.calling g mk a) rfl qN, qZ.go (U := U.calling g mk a) (H := U.heap) (locs := []) va_S.rf (fun _ h => h) (Vm.Alike.refl U.vm) rfl⟩
  · exact hZ.go hS (xFree hD hS hA) hW.alike hU
/-- a reader of one thing -/
def rPc (D : va_G) (q : Nat) (t : TH) (av : List Value) : Array Value → State → Prop := va_Pc av (fun U => va_P D vwCl [(q, thE t)] U.heap ∧ va_K D vwCl [] U ∧ xN U ∧ xSt (fun _ => False) U U.heap)
theorem rPre {D : va_G} {q : Nat} {t : TH} {s : State} {A : Nat → Prop} {H : Heap} {locs : List Loc} {tys : List (ClassId × FieldType)} (hN : xN s) (hK : va_K D vwCl tys s) (hP : va_P D vwCl [(q, thE t)] H) (hS : va_S A s.heap H locs) (hZ : xSt A s s.heap) (hF : ∀ q : Nat, (fun _ : Nat => False) q → A q) (As : List Value) :
    PreS s H (rPc D q t As) As := by
  refine ⟨fun a U g mk z => ?_, fun U hU hW => ⟨rfl, by rw [hU]; exact hP, va_K.moved hW.alike (hK.sub [] rfl), hN.warm hW, hZ.go hS hF hW.alike hU⟩⟩
  obtain ⟨q0, qP, qK, qN, qZ⟩ := z
  exact ⟨q0, qP, va_K.moved (u := U) (U := U.calling g mk a) (Vm.Alike.refl U.vm) qK, xN.same (s := U) (U := U.calling g mk a) rfl qN, qZ.go (U := U.calling g mk a) (H := U.heap) (locs := []) va_S.rf (fun _ h => h) (Vm.Alike.refl U.vm) rfl⟩
theorem x_one {D : va_G} {cl : List vw_C} {F : XF} {u : XS} {H : Heap} {a : Nat} (hP : va_P D cl (xW F u) H) (h : a ∈ u.2.2.2.2.2.2.2.1) : va_P D cl [(a, thE (u.2.2.2.2.2.2.2.2 a))] H := by
  obtain ⟨k, hk⟩ := va_pl_get (X := xX F u) (f := thP u.2.2.2.2.2.2.2.2) h
  exact hP.by (fun _ => k) (fun j q hj => by
    have hz : j < 1 := (List.getElem?_eq_some_iff.mp hj).1
    rw [show j = 0 by omega] at hj
    cases hj
    exact hk)
def bI (b : Bool) : Int32 := match b with | true => 1 | false => 0
theorem bI_c {r : Int32} {b : Bool} (h : r = bI b) : (r = 1 ∧ b = true) ∨ (r = 0 ∧ b = false) := by
  cases b
  · exact Or.inr ⟨h, rfl⟩
  · exact Or.inl ⟨h, rfl⟩
theorem isB_in {x : Int32} {n : Nat} {b : Int32} (hb : b.toInt = n) (h : isB x b = true) : vp_in x n := by
  simp only [isB, Bool.and_eq_true, Bool.not_eq_true', decide_eq_false_iff_not] at h
  rw [vp_in_iff]
  obtain ⟨h1, h2⟩ := h
  rw [Int32.lt_iff_toInt_lt] at h1
  rw [Int32.le_iff_toInt_le] at h2
  rw [hb] at h2
  rw [Int32.toInt_zero] at h1
  omega
theorem isB_in8 {x : Int32} (h : isB x 8 = true) : vp_in x 8 := isB_in (by decide) h
theorem isB_in10 {x : Int32} (h : isB x 10 = true) : vp_in x 10 := isB_in (by decide) h
theorem isB_in9 {x : Int32} (h : isB x 9 = true) : vp_in x 9 := isB_in (by decide) h
theorem isB_in12 {x : Int32} (h : isB x 12 = true) : vp_in x 12 := isB_in (by decide) h
theorem isB_in4 {x : Int32} (h : isB x 4 = true) : vp_in x 4 := isB_in (by decide) h
theorem isB_in16 {x : Int32} (h : isB x 16 = true) : vp_in x 16 := isB_in (by decide) h
theorem and_in16 (x : Int32) : vp_in (x &&& 15) 16 := pk_andIn x 4 (by decide) (by decide)
theorem and_in8 (x : Int32) : vp_in (x &&& 7) 8 := pk_andIn x 3 (by decide) (by decide)
end
section
/-! what each method of the class answers and does, in words -/
def fStr (s n : Int32) : Bool := !decide (s < 0) && (!decide (n < 0) && (!decide (4 < n) && !decide ((4 - n) < s)))
def fHold (t y : Int32) : Bool := !decide ((t &&& ((1 : Int32) <<< (y &&& 31))) = 0)
def fMark (t : Int32) : Int32 := if t = 4 then 2 else if t = 5 then 3 else if t = 6 then 3 else 1
def fTone (t : Int32) : Int32 := if t = 1 then 7 else if t = 8 then 7 else 5
def fRank (t x : Int32) : Int32 := if t = 4 then x + 2 else if t = 6 then x + 6 else x + 1
def fFail (o f : Int32) : Int32 := if o = 0 then 100 * f else o + 1
def fWord (a w : Int32) : Int32 := if w = 0 then a + 1 else if w = 1 then a + 2 + 1 else if w = 2 then a + 4 + 2 + 1 else -a
def fPlace (p : Int32) : Int32 := (if p = 0 then 25 else 7) * 10000 + (if p = 1 then 25 else 8) * 100 + 9
def fQuo (a b : Int32) : Int32 := if b = 0 then (if a = 0 then 0 else if a ≤ 0 then -2147483648 else 2147483647) else FP.d2i (FP.ddiv (FP.i2d a) (FP.i2d b))
def fDig : Nat → Int32 → Int32 → Int32
  | 0, n, _ => n
  | k + 1, n, r => if r = 0 then n else fDig k (n + 1) (r / 10)
def fDec (x : Int32) : Int32 := fDig 9 (if 0 ≤ x then 1 else 2) (x / 10)
def fIs (t : TH) (y : Int32) : Bool := fHold (tokV t.1.toNatClampNeg) y
def fVol (t : TH) (x : Int32) : Int32 := if t.1 = 1 then x - 10 else if t.1 = 2 then (x + 10) * 3 else if t.1 = 9 then x - 10 else x + 10
def fWB (t : TH) : Int32 := 2 * t.2.1
def fWC (t : TH) : Int32 := 3 * t.2.1
def fWgt (t : TH) : Int32 := if t.1 = 0 then fWB t + 1 else if t.1 = 2 then 2 * fWC t else if t.1 = 9 then fWC t + t.2.2.2.2.2 else fWC t
def fSeed (t : TH) : Int32 := if t.1 = 0 then 20 + t.2.2.2.2.1 else if t.1 = 2 then 30 + t.2.1 else 1
-- the state's parts, changed
def uS (u : XS) (f : Nat → Option Nat) : XS := (f, u.2)
def uP (u : XS) (f : Nat → Option Nat) : XS := (u.1, f, u.2.2)
def uQ (u : XS) (f : Nat → Option Nat) : XS := (u.1, u.2.1, f, u.2.2.2)
def uN (u : XS) (k : Int32) : XS := (u.1, u.2.1, u.2.2.1, upd u.2.2.2.1 (u.2.2.2.2.1 &&& 15).toNatClampNeg k, u.2.2.2.2.1 + 1, u.2.2.2.2.2)
def uC (u : XS) (k : Int32) : XS := (u.1, u.2.1, u.2.2.1, u.2.2.2.1, u.2.2.2.2.1, k, u.2.2.2.2.2.2)
def uV (u : XS) (k : Int32) : XS := (u.1, u.2.1, u.2.2.1, u.2.2.2.1, u.2.2.2.2.1, u.2.2.2.2.2.1, k, u.2.2.2.2.2.2.2)
def uT (u : XS) (L : List Nat) (T : Nat → TH) : XS := (u.1, u.2.1, u.2.2.1, u.2.2.2.1, u.2.2.2.2.1, u.2.2.2.2.2.1, u.2.2.2.2.2.2.1, L, T)
abbrev gS (u : XS) : Nat → Option Nat := u.1
abbrev gP (u : XS) : Nat → Option Nat := u.2.1
abbrev gQ (u : XS) : Nat → Option Nat := u.2.2.1
abbrev gE (u : XS) : Nat → Int32 := u.2.2.2.1
abbrev gec (u : XS) : Int32 := u.2.2.2.2.1
abbrev gsc (u : XS) : Int32 := u.2.2.2.2.2.1
abbrev gvl (u : XS) : Int32 := u.2.2.2.2.2.2.1
abbrev gL (u : XS) : List Nat := u.2.2.2.2.2.2.2.1
abbrev gT (u : XS) : Nat → TH := u.2.2.2.2.2.2.2.2
def sWent (u : XS) (x : Int32) : Int32 × XS := (0, uV u x)
def chase (T : Nat → TH) : Nat → Nat → Nat
  | 0, a => a
  | n + 1, a => match (T a).2.2.1 with
    | none => a
    | some b => chase T n b
def fCall (t : TH) (sc x : Int32) : Int32 × Int32 := if t.1 = 0 then (x + t.2.1, sc) else if t.1 = 1 then (x - t.2.1, sc) else if t.1 = 2 then (2 * (x - t.2.1), sc) else if t.1 = 4 then (x + t.2.1, sc) else if t.1 = 5 then (x * t.2.1, sc) else if t.1 = 6 then (x + t.2.1 + (sc + 1), sc + 1) else if t.1 = 7 then (x * t.2.1, sc) else if t.1 = 9 then (x - t.2.1, sc) else (x, sc)
def sCall (u : XS) (a : Nat) (x : Int32) : Int32 × XS := ((fCall (gT u (chase (gT u) 3 a)) (gsc u) x).1, uC u (fCall (gT u (chase (gT u) 3 a)) (gsc u) x).2)
def sLoud (u : XS) (a : Nat) (x : Int32) : Int32 × XS := (2 * (sCall u a x).1, (sCall u a x).2)
def sSoft (u : XS) (a : Nat) (x : Int32) : Int32 × XS := ((sCall u a x).1 - 1, (sCall u a x).2)
def sTw (u : XS) (a : Nat) (x : Int32) : Int32 × XS := if (gT u a).1 = 0 then sLoud u a x else if (gT u a).1 = 1 then sSoft u a x else if (gT u a).1 = 2 then ((sLoud u a x).1 + (sSoft (sLoud u a x).2 a x).1, (sSoft (sLoud u a x).2 a x).2) else if (gT u a).1 = 4 then sLoud u a x else if (gT u a).1 = 5 then sLoud u a x else if (gT u a).1 = 9 then sSoft u a x else sCall (sCall u a x).2 a (sCall u a x).1
def sAns (u : XS) (a : Nat) (y m x : Int32) : Int32 × XS := if m = 0 then sCall u a x else if m = 1 then sTw u a x else if m = 2 then (fVol (gT u a) x, u) else if m = 3 then (fWgt (gT u a), u) else if m = 4 then (fWgt (gT u a) + 100 * fMark 3, u) else if m = 5 then (x + 100, u) else if m = 6 then (fMark y, u) else if m = 9 then (fSeed (gT u a), u) else if m = 10 then ((gT u a).2.1, u) else if y = 4 then (fWB (gT u a), u) else (fWC (gT u a), u)
def sProbe (u : XS) (a y m x w : Int32) : Int32 × XS := if isB a 8 = true then if isB y 9 = true then if isB m 12 = true then if isB w 4 = true then if fHold (memV m.toNatClampNeg) y = true then
  if m = 7 then (0, uV u (fTone y)) else if m = 8 then (0, uV u (fRank y x)) else (match gS u a.toNatClampNeg with
    | none => (2, u)
    | some q => if fIs (gT u q) y = true then (0, uV (sAns u q y m x).2 (sAns u q y m x).1) else (1, u)) else (-1, u) else (-1, u) else (-1, u) else (-1, u) else (-1, u)
def sDrop (u : XS) (a : Int32) : Int32 × XS := if isB a 8 = true then ((match gS u a.toNatClampNeg with | none => 2 | some _ => 0), uS u (va_up (gS u) a.toNatClampNeg none)) else (-1, u)
def sIs (u : XS) (a y : Int32) : Int32 × XS := (bI (isB a 8 && (isB y 9 && (match gS u a.toNatClampNeg with | none => false | some q => fIs (gT u q) y))), u)
def sSame (u : XS) (a b : Int32) : Int32 × XS := (bI (isB a 8 && (isB b 8 && decide (gS u a.toNatClampNeg = gS u b.toNatClampNeg))), u)
def fFit (u : XS) (r : Int32) (o : Option Nat) : Bool := match o with
  | none => true
  | some q => fIs (gT u q) (rowV r.toNatClampNeg)
def sPut (u : XS) (r p : Int32) (o : Option Nat) : Int32 × XS := if fFit u r o = true then (0, uP u (va_up (gP u) (r * 4 + p).toNatClampNeg o)) else (3, u)
theorem sPut_c {u v : XS} {r p k : Int32} {o : Option Nat} (h : (k, v) = sPut u r p o) : (k = 0 ∧ v = uP u (va_up (gP u) (r * 4 + p).toNatClampNeg o) ∧ fFit u r o = true) ∨ (k = 3 ∧ v = u ∧ fFit u r o = false) := by
  unfold sPut at h
  cases hf : fFit u r o
  · rw [hf] at h
    simp at h
    exact Or.inr ⟨h.1, h.2, rfl⟩
  · rw [hf] at h
    simp at h
    exact Or.inl ⟨h.1, h.2, rfl⟩
def sStore (u : XS) (r p a : Int32) : Int32 × XS := if isB r 4 = true then if isB a 8 = true then if isB p 4 = true then sPut u r p (gS u a.toNatClampNeg) else (4, u) else (-1, u) else (-1, u)
def sLoad (u : XS) (r p a : Int32) : Int32 × XS := if isB r 4 = true then if isB a 8 = true then if isB p 4 = true then (0, uS u (va_up (gS u) a.toNatClampNeg (gP u (r * 4 + p).toNatClampNeg))) else (4, u) else (-1, u) else (-1, u)
def cpA1 (P : Nat → Option Nat) (b n i : Int32) (k : (Nat → Option Nat) → (Nat → Option Nat)) (Q : Nat → Option Nat) : Nat → Option Nat := if n ≤ i then Q else k (va_up Q i.toNatClampNeg (P (b + i).toNatClampNeg))
def cpA (P : Nat → Option Nat) (b n : Int32) (Q : Nat → Option Nat) : Nat → Option Nat := cpA1 P b n 0 (cpA1 P b n 1 (cpA1 P b n 2 (cpA1 P b n 3 (fun Q => Q)))) Q
def cpB1 (n t h i : Int32) (k : XS → Int32 × XS) (u : XS) : Int32 × XS := if n ≤ i then (0, u) else if fFit u t (gQ u i.toNatClampNeg) = true then k (uP u (va_up (gP u) (t * 4 + (h + i)).toNatClampNeg (gQ u i.toNatClampNeg))) else (3, u)
def cpB (n t h : Int32) (u : XS) : Int32 × XS := cpB1 n t h 0 (cpB1 n t h 1 (cpB1 n t h 2 (cpB1 n t h 3 (fun u => (0, u))))) u
def sCopy (u : XS) (f a t h n : Int32) : Int32 × XS := if isB f 4 = true then if isB t 4 = true then if fStr a n = true then if fStr h n = true then cpB n t h (uQ u (cpA (gP u) (f * 4 + a) n (gQ u))) else (4, u) else (4, u) else (-1, u) else (-1, u)
def sComp (u : XS) (a b : Int32) : Int32 × XS := if isB a 8 = true then if isB b 8 = true then (match gS u a.toNatClampNeg, gS u b.toNatClampNeg with
    | none, _ => (2, u)
    | some _, none => (2, u)
    | some p, some q => if fIs (gT u p) 3 = true then if fIs (gT u q) 3 = true then (0, uV u (if (gT u p).2.1 < (gT u q).2.1 then -1 else if (gT u q).2.1 < (gT u p).2.1 then 1 else 0)) else (1, u) else (1, u)) else (-1, u) else (-1, u)
def sDiv (u : XS) (a b : Int32) : Int32 × XS := ((if b = 0 then -1 else a / b), uN u 1)
def tS (l e i : Int32) (k : Int32 → XS → Int32 × XS) (n : Int32) (u : XS) : Int32 × XS := if i = l then k n (uN u i) else if i = e then (n, uN u i) else k (n + 1) (uN u i)
def sTurn (u : XS) (l e : Int32) : Int32 × XS := tS l e 1 (tS l e 2 (tS l e 3 (tS l e 4 (tS l e 5 (fun n u => (n, u)))))) 0 u
def oEnd (u : XS) (b o : Int32) : Int32 × XS := if (b &&& 2) = 0 then (o, uN u 20) else (fFail o 4, uN u 20)
def oMid (u : XS) (b o : Int32) : Int32 × XS := if (b &&& 1) = 0 then oEnd (uN u 21) b o else oEnd (uN u 21) b (fFail o 3)
def sOpen (u : XS) (a b : Int32) : Int32 × XS := if (a &&& 1) = 0 then (if (a &&& 2) = 0 then oMid (uN (uN (uN u 10) 11) 12) b 0 else oMid (uN (uN (uN u 10) 11) 12) b (fFail 0 2)) else oEnd (uN (uN u 10) 11) b (fFail 0 1)
def sSq (u : XS) (n p : Int32) : Int32 × XS := if 1000 < n then (-1, u) else if n < 0 then (6, u) else if isB p n = true then (0, uV u (p * p)) else (4, u)
def sGo (v : Int32 × XS) : Int32 × XS := (0, uV v.2 v.1)
def sFlow (u : XS) (k a b : Int32) : Int32 × XS := if k = 0 then sGo (sDiv u a b) else if k = 1 then sGo (sTurn u (a &&& 7) (b &&& 7)) else if k = 2 then sGo (sOpen u a b) else if k = 3 then sGo (fWord a (b &&& 3), u) else if k = 4 then sGo (a + (a + 1) * b + b, u) else if k = 5 then sSq u a b else if k = 6 then sGo (fPlace (a &&& 1), u) else (-1, u)
def sNum (u : XS) (k a b : Int32) : Int32 × XS := if k = 0 then sGo (FP.f2i (FP.i2f a), u) else if k = 1 then sGo (fQuo a b, u) else if k = 2 then sGo (a.toInt8.toInt32 * (b.toUInt32 % 65536).toInt32, u) else if k = 3 then sGo ((a >>> (b &&& 31)) + (a.toUInt32 >>> (b.toUInt32 &&& Int32.toUInt32 31)).toInt32 + (a <<< (b &&& 31)), u) else if k = 4 then (if b = 0 then (5, u) else sGo (a - a / b * b, u)) else if k = 5 then sGo ((a.toInt16.toInt32 + b).toInt16.toInt32, u) else if k = 6 then sGo (((a.toInt64 * b.toInt64) >>> ((16 : Int32).toInt64 &&& 63)).toInt32, u) else if k = 7 then sGo ((if Op.cmpValue (FP.fcmp (FP.i2f a) (FP.i2f b)) .l = 0 then 1 else 0), u) else if k = 8 then sGo (FP.d2i (FP.dmul (FP.i2d a) 4604930618986332160), u) else if k = 9 then sGo (fDec a + 1 + fDec b, u) else (-1, u)
def sEv (u : XS) (i : Int32) : Int32 × XS := if isB i 16 = true then if gec u ≤ i then (-1, u) else (gE u ((gec u - 1 - i) &&& 15).toNatClampNeg, u) else (-1, u)
-- making: the new thing's place is where the heap ends, so these are relations
def tNew (k n : Int32) : TH := (k, n, none, 0, 0, 0)
def vBase (u : XS) (k n : Int32) (q : Nat) : XS := if k = 9 then uN (uT (uN u (fSeed (tNew k n))) (gL u ++ [q]) (va_up (gT u) q (k, n, none, 0, 0, n + 1))) (n + 1) else uT (uN u (fSeed (tNew k n))) (gL u ++ [q]) (va_up (gT u) q (k, n, none, 0, (if k = 0 then 4 else 0), 0))
def rBase (u : XS) (k n : Int32) (v : XS × Nat) : Prop := v.2 ∉ gL u ∧ v.1 = vBase u k n v.2
def rNew (F : XF) (u : XS) (k n : Int32) (v : XS × Nat) : Prop := if k = 4 then v = (u, F.2.1) else if k = 5 then v = (u, F.2.2.1) else if k = 0 ∨ k = 1 ∨ k = 2 ∨ k = 9 then rBase u k n v else v.2 ∉ gL u ∧ v.1 = uT u (gL u ++ [v.2]) (va_up (gT u) v.2 (tNew k n))
def rRep (u : XS) (a : Int32) (o : Option Nat) (r : Int32) (v : XS) : Prop := match o with
  | none => r = 2 ∧ v = u
  | some q => if (gT u q).2.2.2.1 < 3 then r = 0 ∧ ∃ z, z ∉ gL u ∧ v = uT (uS u (va_up (gS u) a.toNatClampNeg (some z))) (gL u ++ [z]) (va_up (gT u) z (8, 0, some q, (gT u q).2.2.2.1 + 1, 0, 0)) else r = -1 ∧ v = u
def rMake (F : XF) (u : XS) (a k n r : Int32) (v : XS) : Prop := if isB a 8 = true then if isB k 10 = true then (if k = 8 then rRep u a (gS u (n &&& 7).toNatClampNeg) r v else r = 0 ∧ ∃ (w : XS) (q : Nat), rNew F u k n (w, q) ∧ v = uS w (va_up (gS w) a.toNatClampNeg (some q))) else r = -1 ∧ v = u else r = -1 ∧ v = u
end
section
theorem rng16 {r p : Int32} (h0 : vp_in r 4) (h1 : vp_in p 4) : vp_in (r * 4 + p) 16 := by
  obtain ⟨j, hj, rfl⟩ := vp_in_of h0 (by decide)
  obtain ⟨k, hk, rfl⟩ := vp_in_of h1 (by decide)
  show vp_in (nI j * nI 4 + nI k) 16
  rw [pk_mul, nI_add]
  exact vp_in_nI (by omega) (by decide)
theorem fStr_e {a n : Int32} (h : fStr a n = true) : ∃ j k : Nat, a = nI j ∧ n = nI k ∧ j + k ≤ 4 := by
  simp only [fStr, Bool.and_eq_true, Bool.not_eq_true', decide_eq_false_iff_not] at h
  obtain ⟨h1, h2, h3, h4⟩ := h
  obtain ⟨j, hj, rfl⟩ := nI_of h1
  obtain ⟨k, hk, rfl⟩ := nI_of h2
  have hk4 : k ≤ 4 := by
    rcases Nat.lt_or_ge 4 k with q | q
    · exact absurd (show nI 4 < nI k from nI_lt q (by omega)) h3
    · exact q
  refine ⟨j, k, rfl, rfl, ?_⟩
  have e : (4 : Int32) - nI k = nI (4 - k) := by
    show nI 4 - nI k = _
    exact pk_sub hk4
  rw [e] at h4
  rcases Nat.lt_or_ge (4 - k) j with q | q
  · exact absurd (nI_lt q (by omega)) h4
  · omega
theorem fStr_le {a n : Int32} (h : fStr a n = true) : n ≤ 4 := by
  obtain ⟨j, k, -, rfl, h1⟩ := fStr_e h
  exact (show nI k ≤ nI 4 from nI_le (by omega) (by decide))
theorem rngC {f a n : Int32} (k : Nat) (hk : k < 4) (h0 : vp_in f 4) (h1 : fStr a n = true) {i : Int32} (hi : i = nI k) (h2 : ¬ n ≤ i) : vp_in (f * 4 + a + i) 16 := by
  subst hi
  obtain ⟨z, hz, rfl⟩ := vp_in_of h0 (by decide)
  obtain ⟨j, y, rfl, rfl, h3⟩ := fStr_e h1
  have hy : k < y := by
    rcases Nat.lt_or_ge k y with q | q
    · exact q
    · exact absurd (nI_le q (by omega)) h2
  show vp_in (nI z * nI 4 + nI j + nI k) 16
  rw [pk_mul, nI_add, nI_add]
  exact vp_in_nI (by omega) (by decide)
theorem rngD {a n : Int32} (k : Nat) (hk : k < 4) (h1 : fStr a n = true) {i : Int32} (hi : i = nI k) (h2 : ¬ n ≤ i) : vp_in (a + i) 4 := by
  subst hi
  obtain ⟨j, y, rfl, rfl, h3⟩ := fStr_e h1
  have hy : k < y := by
    rcases Nat.lt_or_ge k y with q | q
    · exact q
    · exact absurd (nI_le q (by omega)) h2
  rw [nI_add]
  exact vp_in_nI (by omega) (by decide)
theorem xOk_P {F : XF} {u : XS} (h : xOk F u) (i : Nat) (o : Option Nat) (ho : ∀ q, o = some q → q ∈ gL u) : xOk F (uP u (va_up (gP u) i o)) := by
  obtain ⟨h1, h2, h3, h4⟩ := h
  refine ⟨h1, fun j q hq => ?_, h3, h4⟩
  by_cases hj : j = i
  · subst hj
    exact ho q (by rw [← hq]; exact (va_up_self _ _ _).symm)
  · exact h2 j q (by rw [← hq]; exact (va_up_ne _ _ hj).symm)
theorem xOk_Q {F : XF} {u : XS} (h : xOk F u) (i : Nat) (o : Option Nat) (ho : ∀ q, o = some q → q ∈ gL u) : xOk F (uQ u (va_up (gQ u) i o)) := by
  obtain ⟨h1, h2, h3, h4⟩ := h
  refine ⟨h1, h2, fun j q hq => ?_, h4⟩
  by_cases hj : j = i
  · subst hj
    exact ho q (by rw [← hq]; exact (va_up_self _ _ _).symm)
  · exact h3 j q (by rw [← hq]; exact (va_up_ne _ _ hj).symm)
theorem xOk_S {F : XF} {u : XS} (h : xOk F u) (i : Nat) (o : Option Nat) (ho : ∀ q, o = some q → q ∈ gL u) : xOk F (uS u (va_up (gS u) i o)) := by
  obtain ⟨h1, h2⟩ := h
  refine ⟨fun j q hq => ?_, h2⟩
  by_cases hj : j = i
  · subst hj
    exact ho q (by rw [← hq]; exact (va_up_self _ _ _).symm)
  · exact h1 j q (by rw [← hq]; exact (va_up_ne _ _ hj).symm)
theorem xHeap {p : Program} {l : Launch} {e : Env} {R : Room} {s : State} {m : MethodId} {args : Array Value} {below : List Frame} {meth : Method} {c : Code} {Q : State → Prop} {g : JFrame} {C : Heap → Prop} (h : C s.heap) (k : ∀ H : Heap, C H → W p l e R s m args below meth c H [] 0 0 Q g) : W p l e R s m args below meth c s.heap [] 0 0 Q g := k _ h
section XO
variable {p : Program} {l : Launch} {e : Env} {R : Room} {s : State} {m : MethodId} {args : Array Value} {below : List Frame} {meth : Method} {c : Code} {H : Heap} {locs : List Loc} {cells slots : Nat} {Q : State → Prop}
variable {cc : ByteArray} {pc : Nat} {ls : Array Slot} {rest : List Value} {D : va_G} {A : Nat → Prop} {H0 : Heap}
theorem x_asto {F : XF} {u : XS} {a : Nat} (hexec : p.tables.exec = Jvm.exec) (hb : c.code = cc) (hK : va_K D vwCl (xTy F) s) (hP : va_P D vwCl (xW F u) H) (hD : va_D A (xW F u)) (hS : va_S A H0 H locs) (q0 t0 : Nat) {cA : ClassId} {n : Nat} {f : Nat → Option Nat} (ha : (xW F u)[q0]? = some (a, .inl (cA, n, .inr (.inr (.inr (.inr f)))))) (ht : (xTy F)[t0]? = some (cA, .object RX0)) {o : Option Nat} (ho : ∀ q, o = some q → q ∈ gL u) {i : Int32} (hin : vp_in i n) (hdg : decode cc pc = .ok (.aastore, 1))
    (kk : ∀ (H1 : Heap) (locs1 : List Loc), va_P D vwCl ((xW F u).set q0 (a, .inl (cA, n, .inr (.inr (.inr (.inr (va_up f i.toNatClampNeg o))))))) H1 → va_D A ((xW F u).set q0 (a, .inl (cA, n, .inr (.inr (.inr (.inr (va_up f i.toNatClampNeg o))))))) → va_S A H0 H1 locs1 → W p l e R s m args below meth c H1 locs1 cells slots Q (F0 m (pc + 1) ls rest)) : W p l e R s m args below meth c H locs cells slots Q (F0 m pc ls (va_rf o :: .int i :: .ref a :: rest)) := by
  cases o with
  | none => exact va_astqN hexec hb hK hP hD hS q0 t0 ha ht hin hdg kk
  | some v =>
    obtain ⟨k, hk⟩ := va_pl_get (X := xX F u) (f := thP (gT u)) (ho v rfl)
    exact va_astq hexec hb hK hP hD hS q0 t0 k 0 ha (r := (RX0, TX0, 6)) ht hk rfl hin hdg kk
end XO
-- numbers that are no NaN
theorem nn64 {x : UInt64} {K : Nat} (h : x.toNat % 2 ^ 63 < K * 2 ^ 52) (hK : K ≤ 2047) : vf_n64 x := by
  unfold vf_n64
  rw [UInt64.le_iff_toNat_le, UInt64.toNat_and]
  show x.toNat &&& (2 ^ 63 - 1) ≤ 9218868437227405312
  rw [Nat.and_two_pow_sub_one_eq_mod]
  omega
theorem nn_ddiv (a b : Int32) (hb : ¬ b = 0) : vf_n64 (FP.ddiv (FP.i2d a) (FP.i2d b)) :=
  nn64 (FP.Core.ddiv_mag (FP.Core.i2d_mag a) (FP.Core.i2d_big (FP.Core.int32_ne hb)).1 (FP.Core.i2d_big (FP.Core.int32_ne hb)).2 (by decide) (by decide)) (by decide)
theorem nn_dmul (a : Int32) : vf_n64 (FP.dmul (FP.i2d a) 4604930618986332160) :=
  nn64 (FP.Core.dmul_mag (Kb := 1023) (FP.Core.i2d_mag a) (by decide) (by decide) (by decide)) (by decide)
theorem thP_up (T : Nat → TH) (q : Nat) (t : TH) : va_up (thP T) q (thE t) = thP (va_up T q t) := by
  funext a
  by_cases h : a = q
  · subst h
    simp [thP, va_up]
  · simp [thP, va_up, h]
theorem x_push {F : XF} {u : XS} {q : Nat} {t : TH} (h : q ∉ gL u) : xW F u ++ [(q, thE t)] = xW F (uT u (gL u ++ [q]) (va_up (gT u) q t)) := by
  show (xX F u ++ va_pl (gL u) (thP (gT u))) ++ [(q, thE t)] = xX F u ++ va_pl (gL u ++ [q]) (thP (va_up (gT u) q t))
  rw [List.append_assoc, va_pl_push h, thP_up]
theorem x_fresh {A : Nat → Prop} {F : XF} {u : XS} {q : Nat} {e : va_E} (hD : va_D A (xW F u ++ [(q, e)])) : q ∉ gL u := va_pl_fresh2 (X := xX F u) (f := thP (gT u)) hD
theorem x_setT {A : Nat → Prop} {F : XF} {u : XS} {q k : Nat} {t : TH} (hD : va_D A (xW F u)) (hq : q ∈ gL u) (hk : (xW F u)[k]? = some (q, thP (gT u) q)) : (xW F u).set k (q, thE t) = xW F (uT u (gL u) (va_up (gT u) q t)) := by
  have h := va_pl_set (e := thE t) (X := xX F u) (f := thP (gT u)) hD hq hk
  rw [thP_up] at h
  exact h
theorem x_upd {A : Nat → Prop} {D : va_G} {F : XF} {u : XS} {H H1 : Heap} {q : Nat} {e0 : va_E} {t : TH} (hP : va_P D vwCl (xW F u) H) (hD : va_D A (xW F u)) (hq : q ∈ gL u) (hk : ∀ a : Nat, a < H.size → ¬ va_A [(q, e0)] H.size a → H1[a]? = H[a]?) (hP1 : va_P D vwCl [(q, thE t)] H1) : va_P D vwCl (xW F (uT u (gL u) (va_up (gT u) q t))) H1 ∧ va_D A (xW F (uT u (gL u) (va_up (gT u) q t))) := by
  obtain ⟨k, hk0⟩ := va_pl_get (X := xX F u) (f := thP (gT u)) hq
  have hk0 : (xW F u)[k]? = some (q, thP (gT u) q) := hk0
  rw [← x_setT hD hq hk0]
  refine ⟨fun j x hx => ?_, hD.set hk0⟩
  have hl := (List.getElem?_eq_some_iff.mp hk0).1
  by_cases hj : j = k
  · subst hj
    rw [List.getElem?_set_self hl] at hx
    cases hx
    exact hP1 0 _ rfl
  · rw [List.getElem?_set_ne (Ne.symm hj)] at hx
    have hlt := (hP j x hx).lt
    refine (hP j x hx).kept (hk x.1 hlt (fun h => ?_))
    rcases h with ⟨i, e1, h⟩ | h
    · have hi : i < 1 := (List.getElem?_eq_some_iff.mp h).1
      rw [show i = 0 by omega] at h
      have hq1 : q = x.1 := by cases h; rfl
      exact hj (hD.1 j k x _ hx hk0 hq1.symm)
    · omega
def tZ : TH := (0, 0, none, 0, 0, 0)
theorem r_keep {A : Nat → Prop} {D : va_G} {b : Nat} {e : va_E} {H0 H : Heap} {locs : List Loc} (h : va_P D vwCl [(b, e)] H0) (hS : va_S A H0 H locs) (hb : ¬ A b) : va_P D vwCl [(b, e)] H := by
  refine h.kept (fun k q hk => ?_)
  have hz : k < 1 := (List.getElem?_eq_some_iff.mp hk).1
  have hl := (h k q hk).lt
  rw [show k = 0 by omega] at hk
  cases hk
  exact hS.2.1 b hl hb
def iPc (D : va_G) (q sz : Nat) (k n : Int32) (o : Option Nat) (tb : TH) : Array Value → State → Prop := va_Pc [.ref q, .int k, .int n, va_rf o] (fun U => U.heap.size = sz ∧ va_P D vwCl [(q, thE tZ)] U.heap ∧ va_K D vwCl [] U ∧ va_D (fun _ => True) [(q, thE tZ)] ∧ ∀ b, o = some b → ¬ va_A [(q, thE tZ)] sz b ∧ va_P D vwCl [(b, thE tb)] U.heap)
def iTh (k n : Int32) (o : Option Nat) (tb : TH) : TH := (k, n, o, (match o with | none => 0 | some _ => tb.2.2.2.1 + 1), 0, 0)
theorem iPre {D : va_G} {q : Nat} {s : State} {A : Nat → Prop} {H : Heap} {tys : List (ClassId × FieldType)} (hK : va_K D vwCl tys s) (hP : va_P D vwCl [(q, thE tZ)] H) (k n : Int32) (o : Option Nat) (tb : TH) (ho : ∀ b, o = some b → ¬ va_A [(q, thE tZ)] H.size b ∧ va_P D vwCl [(b, thE tb)] H) :
    PreS s H (iPc D q H.size k n o tb) (.ref q :: [.int k, .int n, va_rf o]) := by
  refine ⟨fun a U g mk z => ?_, fun U hU hW => ⟨rfl, by rw [hU], by rw [hU]; exact hP, va_K.moved hW.alike (hK.sub [] rfl), ?_, by rw [hU]; exact ho⟩⟩
  · obtain ⟨q0, q1, qP, qK, qD, qO⟩ := z
    exact ⟨q0, q1, qP, va_K.moved (u := U) (U := U.calling g mk a) (Vm.Alike.refl U.vm) qK, qD, qO⟩
  · refine ⟨fun i j x y hi hj _ => ?_, fun _ _ _ => trivial⟩
    have hi : i < 1 := (List.getElem?_eq_some_iff.mp hi).1
    have hj : j < 1 := (List.getElem?_eq_some_iff.mp hj).1
    omega
/-- the source of a new thing is another thing -/
theorem x_src {A : Nat → Prop} {D : va_G} {F : XF} {u : XS} {H : Heap} {q b : Nat} {e0 : va_E} (hP : va_P D vwCl (xW F u) H) (hb : b ∈ gL u) (hne : b ≠ q) : ¬ va_A [(q, e0)] H.size b ∧ va_P D vwCl [(b, thE (gT u b))] H := by
  have h1 := x_one hP hb
  refine ⟨fun h => ?_, h1⟩
  rcases h with ⟨i, e1, h⟩ | h
  · have hi : i < 1 := (List.getElem?_eq_some_iff.mp h).1
    rw [show i = 0 by omega] at h
    cases h
    exact hne rfl
  · have := (h1 0 _ rfl).lt
    have h2 : b < H.size := this
    omega
def xT0 (w o : Nat) : Nat → TH := va_up (va_up (fun _ => tZ) w (4, 2, none, 0, 0, 0)) o (5, 9, none, 0, 0, 0)
theorem xT0_o {w o : Nat} : xT0 w o o = (5, 9, none, 0, 0, 0) := va_up_self _ _ _
theorem xT0_w {w o : Nat} (h : w ≠ o) : xT0 w o w = (4, 2, none, 0, 0, 0) := by
  unfold xT0
  rw [va_up_ne _ _ h]
  exact va_up_self _ _ _
def xU0 (F : XF) : XS := ((fun _ => none), (fun _ => none), (fun _ => none), (fun _ => 0), 0, 0, 0, [F.2.1, F.2.2.1], xT0 F.2.1 F.2.2.1)
theorem rBase_mem {u v : XS} {k n : Int32} {q : Nat} (h : rBase u k n (v, q)) : q ∈ gL v := by
  obtain ⟨-, h⟩ := h
  have h : v = vBase u k n q := h
  subst h
  unfold vBase
  split <;> exact List.mem_append_right _ (List.mem_singleton.mpr rfl)
theorem rNew_mem {F : XF} {u v : XS} {k n : Int32} {q : Nat} (hok : xOk F u) (h : rNew F u k n (v, q)) : q ∈ gL v := by
  unfold rNew at h
  split at h
  · cases h
    exact hok.2.2.2.2.2.1
  · split at h
    · cases h
      exact hok.2.2.2.2.2.2
    · split at h
      · exact rBase_mem h
      · obtain ⟨-, h⟩ := h
        have h : v = uT u (gL u ++ [q]) (va_up (gT u) q (tNew k n)) := h
        subst h
        exact List.mem_append_right _ (List.mem_singleton.mpr rfl)
end
section
/-! two worlds side by side -/
theorem w_L {D : va_G} {cl : List vw_C} {a b : va_W} {H : Heap} (h : va_P D cl (a ++ b) H) : va_P D cl a H := fun k q hk => h k q (by
  have hl := (List.getElem?_eq_some_iff.mp hk).1
  rw [List.getElem?_append_left hl]; exact hk)
theorem w_R {D : va_G} {cl : List vw_C} {a b : va_W} {H : Heap} (h : va_P D cl (a ++ b) H) : va_P D cl b H := fun k q hk => h (a.length + k) q (by
  rw [List.getElem?_append_right (by omega)]
  rw [show a.length + k - a.length = k by omega]; exact hk)
theorem wd_L {A : Nat → Prop} {a b : va_W} (h : va_D A (a ++ b)) : va_D A a := by
  have key : ∀ (k : Nat) (q : Nat × va_E), a[k]? = some q → (a ++ b)[k]? = some q := fun k q hk => by
    have hl := (List.getElem?_eq_some_iff.mp hk).1
    rw [List.getElem?_append_left hl]; exact hk
  exact ⟨fun i j p q hi hj hpq => h.1 i j p q (key i p hi) (key j q hj) hpq, fun k q hk => h.2 k q (key k q hk)⟩
theorem wd_R {A : Nat → Prop} {a b : va_W} (h : va_D A (a ++ b)) : va_D A b := by
  have key : ∀ (k : Nat) (q : Nat × va_E), b[k]? = some q → (a ++ b)[a.length + k]? = some q := fun k q hk => by
    rw [List.getElem?_append_right (by omega), show a.length + k - a.length = k by omega]; exact hk
  exact ⟨fun i j p q hi hj hpq => by have := h.1 _ _ p q (key i p hi) (key j q hj) hpq; omega, fun k q hk => h.2 _ q (key k q hk)⟩
theorem w_ne {A : Nat → Prop} {a b : va_W} (h : va_D A (a ++ b)) {i j : Nat} {p q : Nat × va_E} (hi : a[i]? = some p) (hj : b[j]? = some q) : p.1 ≠ q.1 := fun e => by
  have hl := (List.getElem?_eq_some_iff.mp hi).1
  have h1 := h.1 i (a.length + j) p q (by rw [List.getElem?_append_left hl]; exact hi) (by rw [List.getElem?_append_right (by omega), show a.length + j - a.length = j by omega]; exact hj) e
  omega
theorem w_joinL {A : Nat → Prop} {D : va_G} {cl : List vw_C} {a b a' : va_W} {H H1 : Heap} (hP : va_P D cl (a ++ b) H) (hD : va_D A (a ++ b)) (hk : ∀ q : Nat, q < H.size → ¬ va_A a H.size q → H1[q]? = H[q]?) (hF : ∀ q, va_A a H.size q → A q) (hP1 : va_P D cl a' H1) (hD1 : va_D (va_A a H.size) a') : va_P D cl (a' ++ b) H1 ∧ va_D A (a' ++ b) := by
  have out : ∀ (j : Nat) (q : Nat × va_E), b[j]? = some q → q.1 < H.size ∧ ¬ va_A a H.size q.1 := fun j q hj => by
    have hl := (w_R hP j q hj).lt
    refine ⟨hl, fun h => ?_⟩
    rcases h with ⟨k, e, h⟩ | h
    · exact w_ne hD h hj rfl
    · omega
  refine ⟨hP1.app (fun j q hj => (w_R hP j q hj).kept (hk q.1 (out j q hj).1 (out j q hj).2)), (hD1.weaken (fun _ q _ h => hF q.1 h)).app (wd_R hD) (fun i j p q hi hj e => (out j q hj).2 (e ▸ hD1.2 i p hi))⟩
theorem w_joinR {A : Nat → Prop} {D : va_G} {cl : List vw_C} {a b b' : va_W} {H H1 : Heap} (hP : va_P D cl (a ++ b) H) (hD : va_D A (a ++ b)) (hk : ∀ q : Nat, q < H.size → ¬ va_A b H.size q → H1[q]? = H[q]?) (hF : ∀ q, va_A b H.size q → A q) (hP1 : va_P D cl b' H1) (hD1 : va_D (va_A b H.size) b') : va_P D cl (a ++ b') H1 ∧ va_D A (a ++ b') := by
  have out : ∀ (j : Nat) (q : Nat × va_E), a[j]? = some q → q.1 < H.size ∧ ¬ va_A b H.size q.1 := fun j q hj => by
    have hl := (w_L hP j q hj).lt
    refine ⟨hl, fun h => ?_⟩
    rcases h with ⟨k, e, h⟩ | h
    · exact w_ne hD hj h rfl
    · omega
  refine ⟨va_P.app (fun j q hj => (w_L hP j q hj).kept (hk q.1 (out j q hj).1 (out j q hj).2)) hP1, va_D.app (wd_L hD) (hD1.weaken (fun _ q _ h => hF q.1 h)) (fun i j p q hi hj e => (out i p hi).2 (e ▸ hD1.2 j q hj))⟩
end
section
set_option maxHeartbeats 8000000 in
set_option maxRecDepth 100000 in
theorem k_isBelow (l : Launch) (p0 p1 : Int32) : Met l yX1_isBelow wsX1_isBelow ({ frames := 0, cells := 0, slots := 0, locals := 0 }) (fun v _ => v = ([.int p0, .int p1] : List Value).toArray) (vp_Si (fun r => r = bI (isB p0 p1))) 0 0 (fun _ => False) := by
  refine Met.ofW (cc := cX1_isBelow) (maxL := 2) (ret := (some .boolean)) (by decide) rfl ?_
  intro p e s m args below meth c s₁ B hml hv
  obtain rfl := hv
  have hx := B.exec
  have hb := B.bytes
  have hr := B.returns
  have hts := atoms_spec (ws := wsX1_isBelow) B.pre
  have hown : s.vm.findClass RX1 = some m.cls := findClass_of_methodNamed B.named
  have hlocks := B.notSynchronized
  have hl := lv_entry ([.int p0, .int p1]) (n := 2) (Nat.le_of_ble_eq_true rfl)
  rw [lg_entry_eq]
  generalize (lg_sl ([.int p0, .int p1]) ++ List.replicate (2 - (lg_sl ([.int p0, .int p1])).length) Slot.unset).toArray = ls at hl ⊢
  have hl : lv_has ls 2 [(0, .int p0), (1, .int p1)] := hl
  refine lv_iload_n hx hb dX1_isBelow_0 rfl (lv_at hl 0 rfl) ?_
  refine lv_if_lt (tgt := 13) hx hb dX1_isBelow_1 (by decide) (fun c1 => ?_) (fun c1 => ?_)
  · refine lv_iconst (v := 0) hx hb dX1_isBelow_13 (by decide) ?_
    exact W.zret (v := 0) hx hb hr rfl (fun tE ht hW => ⟨0, rfl, by first | (simp only [isB, bI, c1, eq_self, ↓reduceIte, Bool.false_eq_true, Bool.not_false, Bool.not_true, Bool.and_true, Bool.and_false, Bool.true_and, Bool.false_and, decide_true, decide_false] <;> first | done | decide) | (simp [isB, bI, c1]; done) | (exfalso; simp_all; done), ht⟩) (fun q h => by cases h) dX1_isBelow_14
  · refine lv_iload_n hx hb dX1_isBelow_4 rfl (lv_at hl 0 rfl) ?_
    refine lv_iload_n hx hb dX1_isBelow_5 rfl (lv_at hl 1 rfl) ?_
    refine lv_icmp_ge (tgt := 13) hx hb dX1_isBelow_6 (by decide) (fun c2 => ?_) (fun c2 => ?_)
    · refine lv_iconst (v := 0) hx hb dX1_isBelow_13 (by decide) ?_
      exact W.zret (v := 0) hx hb hr rfl (fun tE ht hW => ⟨0, rfl, by first | (simp only [isB, bI, c1, c2, eq_self, ↓reduceIte, Bool.false_eq_true, Bool.not_false, Bool.not_true, Bool.and_true, Bool.and_false, Bool.true_and, Bool.false_and, decide_true, decide_false] <;> first | done | decide) | (simp [isB, bI, c1, c2]; done) | (exfalso; simp_all; done), ht⟩) (fun q h => by cases h) dX1_isBelow_14
    · refine lv_iconst (v := 1) hx hb dX1_isBelow_9 (by decide) ?_
      refine lv_goto (tgt := 14) hx hb dX1_isBelow_10 (by decide) ?_
      exact W.zret (v := 1) hx hb hr rfl (fun tE ht hW => ⟨1, rfl, by first | (simp only [isB, bI, c1, c2, eq_self, ↓reduceIte, Bool.false_eq_true, Bool.not_false, Bool.not_true, Bool.and_true, Bool.and_false, Bool.true_and, Bool.false_and, decide_true, decide_false] <;> first | done | decide) | (simp [isB, bI, c1, c2]; done) | (exfalso; simp_all; done), ht⟩) (fun q h => by cases h) dX1_isBelow_14
set_option maxHeartbeats 8000000 in
set_option maxRecDepth 100000 in
theorem k_isStretch (l : Launch) (p0 p1 : Int32) : Met l yX1_isStretch wsX1_isStretch ({ frames := 0, cells := 0, slots := 0, locals := 0 }) (fun v _ => v = ([.int p0, .int p1] : List Value).toArray) (vp_Si (fun r => r = bI (fStr p0 p1))) 0 0 (fun _ => False) := by
  refine Met.ofW (cc := cX1_isStretch) (maxL := 2) (ret := (some .boolean)) (by decide) rfl ?_
  intro p e s m args below meth c s₁ B hml hv
  obtain rfl := hv
  have hx := B.exec
  have hb := B.bytes
  have hr := B.returns
  have hts := atoms_spec (ws := wsX1_isStretch) B.pre
  have hown : s.vm.findClass RX1 = some m.cls := findClass_of_methodNamed B.named
  have hlocks := B.notSynchronized
  have hl := lv_entry ([.int p0, .int p1]) (n := 2) (Nat.le_of_ble_eq_true rfl)
  rw [lg_entry_eq]
  generalize (lg_sl ([.int p0, .int p1]) ++ List.replicate (2 - (lg_sl ([.int p0, .int p1])).length) Slot.unset).toArray = ls at hl ⊢
  have hl : lv_has ls 2 [(0, .int p0), (1, .int p1)] := hl
  refine lv_iload_n hx hb dX1_isStretch_0 rfl (lv_at hl 0 rfl) ?_
  refine lv_if_lt (tgt := 24) hx hb dX1_isStretch_1 (by decide) (fun c1 => ?_) (fun c1 => ?_)
  · refine lv_iconst (v := 0) hx hb dX1_isStretch_24 (by decide) ?_
    exact W.zret (v := 0) hx hb hr rfl (fun tE ht hW => ⟨0, rfl, by first | (simp only [fStr, bI, c1, eq_self, ↓reduceIte, Bool.false_eq_true, Bool.not_false, Bool.not_true, Bool.and_true, Bool.and_false, Bool.true_and, Bool.false_and, decide_true, decide_false] <;> first | done | decide) | (simp [fStr, bI, c1]; done) | (exfalso; simp_all; done), ht⟩) (fun q h => by cases h) dX1_isStretch_25
  · refine lv_iload_n hx hb dX1_isStretch_4 rfl (lv_at hl 1 rfl) ?_
    refine lv_if_lt (tgt := 24) hx hb dX1_isStretch_5 (by decide) (fun c2 => ?_) (fun c2 => ?_)
    · refine lv_iconst (v := 0) hx hb dX1_isStretch_24 (by decide) ?_
      exact W.zret (v := 0) hx hb hr rfl (fun tE ht hW => ⟨0, rfl, by first | (simp only [fStr, bI, c1, c2, eq_self, ↓reduceIte, Bool.false_eq_true, Bool.not_false, Bool.not_true, Bool.and_true, Bool.and_false, Bool.true_and, Bool.false_and, decide_true, decide_false] <;> first | done | decide) | (simp [fStr, bI, c1, c2]; done) | (exfalso; simp_all; done), ht⟩) (fun q h => by cases h) dX1_isStretch_25
    · refine lv_iload_n hx hb dX1_isStretch_8 rfl (lv_at hl 1 rfl) ?_
      refine lv_iconst (v := 4) hx hb dX1_isStretch_9 (by decide) ?_
      refine lv_icmp_gt (tgt := 24) hx hb dX1_isStretch_10 (by decide) (fun c3 => ?_) (fun c3 => ?_)
      · refine lv_iconst (v := 0) hx hb dX1_isStretch_24 (by decide) ?_
        exact W.zret (v := 0) hx hb hr rfl (fun tE ht hW => ⟨0, rfl, by first | (simp only [fStr, bI, c1, c2, c3, eq_self, ↓reduceIte, Bool.false_eq_true, Bool.not_false, Bool.not_true, Bool.and_true, Bool.and_false, Bool.true_and, Bool.false_and, decide_true, decide_false] <;> first | done | decide) | (simp [fStr, bI, c1, c2, c3]; done) | (exfalso; simp_all; done), ht⟩) (fun q h => by cases h) dX1_isStretch_25
      · refine lv_iload_n hx hb dX1_isStretch_13 rfl (lv_at hl 0 rfl) ?_
        refine lv_iconst (v := 4) hx hb dX1_isStretch_14 (by decide) ?_
        refine lv_iload_n hx hb dX1_isStretch_15 rfl (lv_at hl 1 rfl) ?_
        refine lv_isub hx hb dX1_isStretch_16 ?_
        refine lv_icmp_gt (tgt := 24) hx hb dX1_isStretch_17 (by decide) (fun c4 => ?_) (fun c4 => ?_)
        · refine lv_iconst (v := 0) hx hb dX1_isStretch_24 (by decide) ?_
          exact W.zret (v := 0) hx hb hr rfl (fun tE ht hW => ⟨0, rfl, by first | (simp only [fStr, bI, c1, c2, c3, c4, eq_self, ↓reduceIte, Bool.false_eq_true, Bool.not_false, Bool.not_true, Bool.and_true, Bool.and_false, Bool.true_and, Bool.false_and, decide_true, decide_false] <;> first | done | decide) | (simp [fStr, bI, c1, c2, c3, c4]; done) | (exfalso; simp_all; done), ht⟩) (fun q h => by cases h) dX1_isStretch_25
        · refine lv_iconst (v := 1) hx hb dX1_isStretch_20 (by decide) ?_
          refine lv_goto (tgt := 25) hx hb dX1_isStretch_21 (by decide) ?_
          exact W.zret (v := 1) hx hb hr rfl (fun tE ht hW => ⟨1, rfl, by first | (simp only [fStr, bI, c1, c2, c3, c4, eq_self, ↓reduceIte, Bool.false_eq_true, Bool.not_false, Bool.not_true, Bool.and_true, Bool.and_false, Bool.true_and, Bool.false_and, decide_true, decide_false] <;> first | done | decide) | (simp [fStr, bI, c1, c2, c3, c4]; done) | (exfalso; simp_all; done), ht⟩) (fun q h => by cases h) dX1_isStretch_25
set_option maxHeartbeats 8000000 in
set_option maxRecDepth 100000 in
theorem k_holds (l : Launch) (p0 p1 : Int32) : Met l yX1_holds wsX1_holds ({ frames := 0, cells := 0, slots := 0, locals := 0 }) (fun v _ => v = ([.int p0, .int p1] : List Value).toArray) (vp_Si (fun r => r = bI (fHold p0 p1))) 0 0 (fun _ => False) := by
  refine Met.ofW (cc := cX1_holds) (maxL := 2) (ret := (some .boolean)) (by decide) rfl ?_
  intro p e s m args below meth c s₁ B hml hv
  obtain rfl := hv
  have hx := B.exec
  have hb := B.bytes
  have hr := B.returns
  have hts := atoms_spec (ws := wsX1_holds) B.pre
  have hown : s.vm.findClass RX1 = some m.cls := findClass_of_methodNamed B.named
  have hlocks := B.notSynchronized
  have hl := lv_entry ([.int p0, .int p1]) (n := 2) (Nat.le_of_ble_eq_true rfl)
  rw [lg_entry_eq]
  generalize (lg_sl ([.int p0, .int p1]) ++ List.replicate (2 - (lg_sl ([.int p0, .int p1])).length) Slot.unset).toArray = ls at hl ⊢
  have hl : lv_has ls 2 [(0, .int p0), (1, .int p1)] := hl
  refine lv_iload_n hx hb dX1_holds_0 rfl (lv_at hl 0 rfl) ?_
  refine lv_iconst (v := 1) hx hb dX1_holds_1 (by decide) ?_
  refine lv_iload_n hx hb dX1_holds_2 rfl (lv_at hl 1 rfl) ?_
  refine lv_ishl hx hb dX1_holds_3 ?_
  refine lv_iand hx hb dX1_holds_4 ?_
  refine lv_if_eq (tgt := 12) hx hb dX1_holds_5 (by decide) (fun c1 => ?_) (fun c1 => ?_)
  · refine lv_iconst (v := 0) hx hb dX1_holds_12 (by decide) ?_
    exact W.zret (v := 0) hx hb hr rfl (fun tE ht hW => ⟨0, rfl, by first | (simp only [fHold, bI, c1, eq_self, ↓reduceIte, Bool.false_eq_true, Bool.not_false, Bool.not_true, Bool.and_true, Bool.and_false, Bool.true_and, Bool.false_and, decide_true, decide_false] <;> first | done | decide) | (simp [fHold, bI, c1]; done) | (exfalso; simp_all; done), ht⟩) (fun q h => by cases h) dX1_holds_13
  · refine lv_iconst (v := 1) hx hb dX1_holds_8 (by decide) ?_
    refine lv_goto (tgt := 13) hx hb dX1_holds_9 (by decide) ?_
    exact W.zret (v := 1) hx hb hr rfl (fun tE ht hW => ⟨1, rfl, by first | (simp only [fHold, bI, c1, eq_self, ↓reduceIte, Bool.false_eq_true, Bool.not_false, Bool.not_true, Bool.and_true, Bool.and_false, Bool.true_and, Bool.false_and, decide_true, decide_false] <;> first | done | decide) | (simp [fHold, bI, c1]; done) | (exfalso; simp_all; done), ht⟩) (fun q h => by cases h) dX1_holds_13
set_option maxHeartbeats 8000000 in
set_option maxRecDepth 100000 in
theorem k_markOf (l : Launch) (p0 : Int32) : Met l yX1_markOf wsX1_markOf ({ frames := 0, cells := 0, slots := 0, locals := 0 }) (fun v _ => v = ([.int p0] : List Value).toArray) (vp_Si (fun r => r = (fMark p0))) 0 0 (fun _ => False) := by
  refine Met.ofW (cc := cX1_markOf) (maxL := 1) (ret := (some .int)) (by decide) rfl ?_
  intro p e s m args below meth c s₁ B hml hv
  obtain rfl := hv
  have hx := B.exec
  have hb := B.bytes
  have hr := B.returns
  have hts := atoms_spec (ws := wsX1_markOf) B.pre
  have hown : s.vm.findClass RX1 = some m.cls := findClass_of_methodNamed B.named
  have hlocks := B.notSynchronized
  have hl := lv_entry ([.int p0]) (n := 1) (Nat.le_of_ble_eq_true rfl)
  rw [lg_entry_eq]
  generalize (lg_sl ([.int p0]) ++ List.replicate (1 - (lg_sl ([.int p0])).length) Slot.unset).toArray = ls at hl ⊢
  have hl : lv_has ls 1 [(0, .int p0)] := hl
  refine lv_iload_n hx hb dX1_markOf_0 rfl (lv_at hl 0 rfl) ?_
  by_cases c1 : p0 = 4
  · refine lv_tableIn (off := 27) (tgt := 28) hx hb dX1_markOf_1 (by rw [c1]; decide) (by rw [c1]; decide) (by rw [c1]; rfl) (by decide) ?_
    refine lv_iconst (v := 2) hx hb dX1_markOf_28 (by decide) ?_
    exact W.iret (v := 2) hx hb hr (fun tE ht hW => ⟨2, rfl, by first | (simp only [fMark, c1, eq_self, ↓reduceIte, Bool.false_eq_true, Bool.not_false, Bool.not_true, Bool.and_true, Bool.and_false, Bool.true_and, Bool.false_and, decide_true, decide_false] <;> first | done | decide) | (simp [fMark, c1]; done) | (exfalso; simp_all; done), ht⟩) (fun q h => by cases h) dX1_markOf_29
  by_cases c2 : p0 = 5
  · refine lv_tableIn (off := 29) (tgt := 30) hx hb dX1_markOf_1 (by rw [c2]; decide) (by rw [c2]; decide) (by rw [c2]; rfl) (by decide) ?_
    refine lv_iconst (v := 3) hx hb dX1_markOf_30 (by decide) ?_
    exact W.iret (v := 3) hx hb hr (fun tE ht hW => ⟨3, rfl, by first | (simp only [fMark, c1, c2, eq_self, ↓reduceIte, Bool.false_eq_true, Bool.not_false, Bool.not_true, Bool.and_true, Bool.and_false, Bool.true_and, Bool.false_and, decide_true, decide_false] <;> first | done | decide) | (simp [fMark, c1, c2]; done) | (exfalso; simp_all; done), ht⟩) (fun q h => by cases h) dX1_markOf_31
  by_cases c3 : p0 = 6
  · refine lv_tableIn (off := 29) (tgt := 30) hx hb dX1_markOf_1 (by rw [c3]; decide) (by rw [c3]; decide) (by rw [c3]; rfl) (by decide) ?_
    refine lv_iconst (v := 3) hx hb dX1_markOf_30 (by decide) ?_
    exact W.iret (v := 3) hx hb hr (fun tE ht hW => ⟨3, rfl, by first | (simp only [fMark, c1, c2, c3, eq_self, ↓reduceIte, Bool.false_eq_true, Bool.not_false, Bool.not_true, Bool.and_true, Bool.and_false, Bool.true_and, Bool.false_and, decide_true, decide_false] <;> first | done | decide) | (simp [fMark, c1, c2, c3]; done) | (exfalso; simp_all; done), ht⟩) (fun q h => by cases h) dX1_markOf_31
  refine lv_tableOut (tgt := 32) hx hb dX1_markOf_1 (by have z0 := lv_neT (k := 4) (a := 4) c1 (by decide); have z1 := lv_neT (k := 5) (a := 5) c2 (by decide); have z2 := lv_neT (k := 6) (a := 6) c3 (by decide); omega) (by decide) ?_
  refine lv_iconst (v := 1) hx hb dX1_markOf_32 (by decide) ?_
  exact W.iret (v := 1) hx hb hr (fun tE ht hW => ⟨1, rfl, by first | (simp only [fMark, c1, c2, c3, eq_self, ↓reduceIte, Bool.false_eq_true, Bool.not_false, Bool.not_true, Bool.and_true, Bool.and_false, Bool.true_and, Bool.false_and, decide_true, decide_false] <;> first | done | decide) | (simp [fMark, c1, c2, c3]; done) | (exfalso; simp_all; done), ht⟩) (fun q h => by cases h) dX1_markOf_33
set_option maxHeartbeats 8000000 in
set_option maxRecDepth 100000 in
theorem k_toneOf (l : Launch) (p0 : Int32) : Met l yX1_toneOf wsX1_toneOf ({ frames := 0, cells := 0, slots := 0, locals := 0 }) (fun v _ => v = ([.int p0] : List Value).toArray) (vp_Si (fun r => r = (fTone p0))) 0 0 (fun _ => False) := by
  refine Met.ofW (cc := cX1_toneOf) (maxL := 1) (ret := (some .int)) (by decide) rfl ?_
  intro p e s m args below meth c s₁ B hml hv
  obtain rfl := hv
  have hx := B.exec
  have hb := B.bytes
  have hr := B.returns
  have hts := atoms_spec (ws := wsX1_toneOf) B.pre
  have hown : s.vm.findClass RX1 = some m.cls := findClass_of_methodNamed B.named
  have hlocks := B.notSynchronized
  have hl := lv_entry ([.int p0]) (n := 1) (Nat.le_of_ble_eq_true rfl)
  rw [lg_entry_eq]
  generalize (lg_sl ([.int p0]) ++ List.replicate (1 - (lg_sl ([.int p0])).length) Slot.unset).toArray = ls at hl ⊢
  have hl : lv_has ls 1 [(0, .int p0)] := hl
  refine lv_iload_n hx hb dX1_toneOf_0 rfl (lv_at hl 0 rfl) ?_
  refine lv_iconst (v := 1) hx hb dX1_toneOf_1 (by decide) ?_
  refine lv_icmp_eq (tgt := 11) hx hb dX1_toneOf_2 (by decide) (fun c1 => ?_) (fun c1 => ?_)
  · refine lv_bipush (v := 7) hx hb dX1_toneOf_11 (by decide) ?_
    refine lv_goto (tgt := 17) hx hb dX1_toneOf_13 (by decide) ?_
    exact W.iret (v := 7) hx hb hr (fun tE ht hW => ⟨7, rfl, by first | (simp only [fTone, c1, eq_self, ↓reduceIte, Bool.false_eq_true, Bool.not_false, Bool.not_true, Bool.and_true, Bool.and_false, Bool.true_and, Bool.false_and, decide_true, decide_false] <;> first | done | decide) | (simp [fTone, c1]; done) | (exfalso; simp_all; done), ht⟩) (fun q h => by cases h) dX1_toneOf_17
  · refine lv_iload_n hx hb dX1_toneOf_5 rfl (lv_at hl 0 rfl) ?_
    refine lv_bipush (v := 8) hx hb dX1_toneOf_6 (by decide) ?_
    refine lv_icmp_ne (tgt := 16) hx hb dX1_toneOf_8 (by decide) (fun c2 => ?_) (fun c2 => ?_)
    · refine lv_iconst (v := 5) hx hb dX1_toneOf_16 (by decide) ?_
      exact W.iret (v := 5) hx hb hr (fun tE ht hW => ⟨5, rfl, by first | (simp only [fTone, c1, c2, eq_self, ↓reduceIte, Bool.false_eq_true, Bool.not_false, Bool.not_true, Bool.and_true, Bool.and_false, Bool.true_and, Bool.false_and, decide_true, decide_false] <;> first | done | decide) | (simp [fTone, c1, c2]; done) | (exfalso; simp_all; done), ht⟩) (fun q h => by cases h) dX1_toneOf_17
    · refine lv_bipush (v := 7) hx hb dX1_toneOf_11 (by decide) ?_
      refine lv_goto (tgt := 17) hx hb dX1_toneOf_13 (by decide) ?_
      exact W.iret (v := 7) hx hb hr (fun tE ht hW => ⟨7, rfl, by first | (simp only [fTone, c1, c2, eq_self, ↓reduceIte, Bool.false_eq_true, Bool.not_false, Bool.not_true, Bool.and_true, Bool.and_false, Bool.true_and, Bool.false_and, decide_true, decide_false] <;> first | done | decide) | (simp [fTone, c1, c2]; done) | (exfalso; simp_all; done), ht⟩) (fun q h => by cases h) dX1_toneOf_17
set_option maxHeartbeats 8000000 in
set_option maxRecDepth 100000 in
theorem k_rankOf (l : Launch) (p0 p1 : Int32) : Met l yX1_rankOf wsX1_rankOf ({ frames := 0, cells := 0, slots := 0, locals := 0 }) (fun v _ => v = ([.int p0, .int p1] : List Value).toArray) (vp_Si (fun r => r = (fRank p0 p1))) 0 0 (fun _ => False) := by
  refine Met.ofW (cc := cX1_rankOf) (maxL := 2) (ret := (some .int)) (by decide) rfl ?_
  intro p e s m args below meth c s₁ B hml hv
  obtain rfl := hv
  have hx := B.exec
  have hb := B.bytes
  have hr := B.returns
  have hts := atoms_spec (ws := wsX1_rankOf) B.pre
  have hown : s.vm.findClass RX1 = some m.cls := findClass_of_methodNamed B.named
  have hlocks := B.notSynchronized
  have hl := lv_entry ([.int p0, .int p1]) (n := 2) (Nat.le_of_ble_eq_true rfl)
  rw [lg_entry_eq]
  generalize (lg_sl ([.int p0, .int p1]) ++ List.replicate (2 - (lg_sl ([.int p0, .int p1])).length) Slot.unset).toArray = ls at hl ⊢
  have hl : lv_has ls 2 [(0, .int p0), (1, .int p1)] := hl
  refine lv_iload_n hx hb dX1_rankOf_0 rfl (lv_at hl 0 rfl) ?_
  by_cases c1 : p0 = 4
  · refine lv_lookup (off := 27) (tgt := 28) hx hb dX1_rankOf_1 (by decide) (by rw [c1]; rfl) (by decide) ?_
    refine lv_iload_n hx hb dX1_rankOf_28 rfl (lv_at hl 1 rfl) ?_
    refine lv_iconst (v := 2) hx hb dX1_rankOf_29 (by decide) ?_
    refine lv_iadd hx hb dX1_rankOf_30 ?_
    exact W.iret (v := (p1 + 2)) hx hb hr (fun tE ht hW => ⟨(p1 + 2), rfl, by first | (simp only [fRank, c1, eq_self, ↓reduceIte, Bool.false_eq_true, Bool.not_false, Bool.not_true, Bool.and_true, Bool.and_false, Bool.true_and, Bool.false_and, decide_true, decide_false] <;> first | done | decide) | (simp [fRank, c1]; done) | (exfalso; simp_all; done), ht⟩) (fun q h => by cases h) dX1_rankOf_31
  by_cases c2 : p0 = 6
  · refine lv_lookup (off := 31) (tgt := 32) hx hb dX1_rankOf_1 (by decide) (by rw [c2]; rfl) (by decide) ?_
    refine lv_iload_n hx hb dX1_rankOf_32 rfl (lv_at hl 1 rfl) ?_
    refine lv_bipush (v := 6) hx hb dX1_rankOf_33 (by decide) ?_
    refine lv_iadd hx hb dX1_rankOf_35 ?_
    exact W.iret (v := (p1 + 6)) hx hb hr (fun tE ht hW => ⟨(p1 + 6), rfl, by first | (simp only [fRank, c1, c2, eq_self, ↓reduceIte, Bool.false_eq_true, Bool.not_false, Bool.not_true, Bool.and_true, Bool.and_false, Bool.true_and, Bool.false_and, decide_true, decide_false] <;> first | done | decide) | (simp [fRank, c1, c2]; done) | (exfalso; simp_all; done), ht⟩) (fun q h => by cases h) dX1_rankOf_36
  refine lv_lookup (off := 36) (tgt := 37) hx hb dX1_rankOf_1 (by decide) (by show Op.lookupswitch.offset [(4, 27), (6, 31)] 36 _ = 36; rw [lv_osw (k := 4) c1 (by decide), lv_osw (k := 6) c2 (by decide)]; rfl) (by decide) ?_
  refine lv_iload_n hx hb dX1_rankOf_37 rfl (lv_at hl 1 rfl) ?_
  refine lv_iconst (v := 1) hx hb dX1_rankOf_38 (by decide) ?_
  refine lv_iadd hx hb dX1_rankOf_39 ?_
  exact W.iret (v := (p1 + 1)) hx hb hr (fun tE ht hW => ⟨(p1 + 1), rfl, by first | (simp only [fRank, c1, c2, eq_self, ↓reduceIte, Bool.false_eq_true, Bool.not_false, Bool.not_true, Bool.and_true, Bool.and_false, Bool.true_and, Bool.false_and, decide_true, decide_false] <;> first | done | decide) | (simp [fRank, c1, c2]; done) | (exfalso; simp_all; done), ht⟩) (fun q h => by cases h) dX1_rankOf_40
set_option maxHeartbeats 8000000 in
set_option maxRecDepth 100000 in
theorem k_withFailure (l : Launch) (p0 p1 : Int32) : Met l yX1_withFailure wsX1_withFailure ({ frames := 0, cells := 0, slots := 0, locals := 0 }) (fun v _ => v = ([.int p0, .int p1] : List Value).toArray) (vp_Si (fun r => r = (fFail p0 p1))) 0 0 (fun _ => False) := by
  refine Met.ofW (cc := cX1_withFailure) (maxL := 2) (ret := (some .int)) (by decide) rfl ?_
  intro p e s m args below meth c s₁ B hml hv
  obtain rfl := hv
  have hx := B.exec
  have hb := B.bytes
  have hr := B.returns
  have hts := atoms_spec (ws := wsX1_withFailure) B.pre
  have hown : s.vm.findClass RX1 = some m.cls := findClass_of_methodNamed B.named
  have hlocks := B.notSynchronized
  have hl := lv_entry ([.int p0, .int p1]) (n := 2) (Nat.le_of_ble_eq_true rfl)
  rw [lg_entry_eq]
  generalize (lg_sl ([.int p0, .int p1]) ++ List.replicate (2 - (lg_sl ([.int p0, .int p1])).length) Slot.unset).toArray = ls at hl ⊢
  have hl : lv_has ls 2 [(0, .int p0), (1, .int p1)] := hl
  refine lv_iload_n hx hb dX1_withFailure_0 rfl (lv_at hl 0 rfl) ?_
  refine lv_if_ne (tgt := 11) hx hb dX1_withFailure_1 (by decide) (fun c1 => ?_) (fun c1 => ?_)
  · refine lv_iload_n hx hb dX1_withFailure_11 rfl (lv_at hl 0 rfl) ?_
    refine lv_iconst (v := 1) hx hb dX1_withFailure_12 (by decide) ?_
    refine lv_iadd hx hb dX1_withFailure_13 ?_
    exact W.iret (v := (p0 + 1)) hx hb hr (fun tE ht hW => ⟨(p0 + 1), rfl, by first | (simp only [fFail, c1, eq_self, ↓reduceIte, Bool.false_eq_true, Bool.not_false, Bool.not_true, Bool.and_true, Bool.and_false, Bool.true_and, Bool.false_and, decide_true, decide_false] <;> first | done | decide) | (simp [fFail, c1]; done) | (exfalso; simp_all; done), ht⟩) (fun q h => by cases h) dX1_withFailure_14
  · refine lv_bipush (v := 100) hx hb dX1_withFailure_4 (by decide) ?_
    refine lv_iload_n hx hb dX1_withFailure_6 rfl (lv_at hl 1 rfl) ?_
    refine lv_imul hx hb dX1_withFailure_7 ?_
    refine lv_goto (tgt := 14) hx hb dX1_withFailure_8 (by decide) ?_
    exact W.iret (v := (100 * p1)) hx hb hr (fun tE ht hW => ⟨(100 * p1), rfl, by first | (simp only [fFail, c1, eq_self, ↓reduceIte, Bool.false_eq_true, Bool.not_false, Bool.not_true, Bool.and_true, Bool.and_false, Bool.true_and, Bool.false_and, decide_true, decide_false] <;> first | done | decide) | (simp [fFail, c1]; done) | (exfalso; simp_all; done), ht⟩) (fun q h => by cases h) dX1_withFailure_14
set_option maxHeartbeats 8000000 in
set_option maxRecDepth 100000 in
theorem k_workByWord (l : Launch) (p0 p1 : Int32) : Met l yX1_workByWord wsX1_workByWord ({ frames := 0, cells := 0, slots := 0, locals := 0 }) (fun v _ => v = ([.int p0, .int p1] : List Value).toArray) (vp_Si (fun r => r = (fWord p0 p1))) 0 0 (fun _ => False) := by
  refine Met.ofW (cc := cX1_workByWord) (maxL := 2) (ret := (some .int)) (by decide) rfl ?_
  intro p e s m args below meth c s₁ B hml hv
  obtain rfl := hv
  have hx := B.exec
  have hb := B.bytes
  have hr := B.returns
  have hts := atoms_spec (ws := wsX1_workByWord) B.pre
  have hown : s.vm.findClass RX1 = some m.cls := findClass_of_methodNamed B.named
  have hlocks := B.notSynchronized
  have hl := lv_entry ([.int p0, .int p1]) (n := 2) (Nat.le_of_ble_eq_true rfl)
  rw [lg_entry_eq]
  generalize (lg_sl ([.int p0, .int p1]) ++ List.replicate (2 - (lg_sl ([.int p0, .int p1])).length) Slot.unset).toArray = ls at hl ⊢
  have hl : lv_has ls 2 [(0, .int p0), (1, .int p1)] := hl
  refine lv_iload_n hx hb dX1_workByWord_0 rfl (lv_at hl 1 rfl) ?_
  by_cases c1 : p1 = 0
  · refine lv_tableIn (off := 27) (tgt := 28) hx hb dX1_workByWord_1 (by rw [c1]; decide) (by rw [c1]; decide) (by rw [c1]; rfl) (by decide) ?_
    refine lv_iload_n hx hb dX1_workByWord_28 rfl (lv_at hl 0 rfl) ?_
    refine lv_iconst (v := 1) hx hb dX1_workByWord_29 (by decide) ?_
    refine lv_iadd hx hb dX1_workByWord_30 ?_
    exact W.iret (v := (p0 + 1)) hx hb hr (fun tE ht hW => ⟨(p0 + 1), rfl, by first | (simp only [fWord, c1, eq_self, ↓reduceIte, Bool.false_eq_true, Bool.not_false, Bool.not_true, Bool.and_true, Bool.and_false, Bool.true_and, Bool.false_and, decide_true, decide_false] <;> first | done | decide) | (simp [fWord, c1]; done) | (exfalso; simp_all; done), ht⟩) (fun q h => by cases h) dX1_workByWord_31
  by_cases c2 : p1 = 1
  · refine lv_tableIn (off := 31) (tgt := 32) hx hb dX1_workByWord_1 (by rw [c2]; decide) (by rw [c2]; decide) (by rw [c2]; rfl) (by decide) ?_
    refine lv_iload_n hx hb dX1_workByWord_32 rfl (lv_at hl 0 rfl) ?_
    refine lv_iconst (v := 2) hx hb dX1_workByWord_33 (by decide) ?_
    refine lv_iadd hx hb dX1_workByWord_34 ?_
    refine lv_iconst (v := 1) hx hb dX1_workByWord_35 (by decide) ?_
    refine lv_iadd hx hb dX1_workByWord_36 ?_
    exact W.iret (v := ((p0 + 2) + 1)) hx hb hr (fun tE ht hW => ⟨((p0 + 2) + 1), rfl, by first | (simp only [fWord, c1, c2, eq_self, ↓reduceIte, Bool.false_eq_true, Bool.not_false, Bool.not_true, Bool.and_true, Bool.and_false, Bool.true_and, Bool.false_and, decide_true, decide_false] <;> first | done | decide) | (simp [fWord, c1, c2]; done) | (exfalso; simp_all; done), ht⟩) (fun q h => by cases h) dX1_workByWord_37
  by_cases c3 : p1 = 2
  · refine lv_tableIn (off := 37) (tgt := 38) hx hb dX1_workByWord_1 (by rw [c3]; decide) (by rw [c3]; decide) (by rw [c3]; rfl) (by decide) ?_
    refine lv_iload_n hx hb dX1_workByWord_38 rfl (lv_at hl 0 rfl) ?_
    refine lv_iconst (v := 4) hx hb dX1_workByWord_39 (by decide) ?_
    refine lv_iadd hx hb dX1_workByWord_40 ?_
    refine lv_iconst (v := 2) hx hb dX1_workByWord_41 (by decide) ?_
    refine lv_iadd hx hb dX1_workByWord_42 ?_
    refine lv_iconst (v := 1) hx hb dX1_workByWord_43 (by decide) ?_
    refine lv_iadd hx hb dX1_workByWord_44 ?_
    exact W.iret (v := (((p0 + 4) + 2) + 1)) hx hb hr (fun tE ht hW => ⟨(((p0 + 4) + 2) + 1), rfl, by first | (simp only [fWord, c1, c2, c3, eq_self, ↓reduceIte, Bool.false_eq_true, Bool.not_false, Bool.not_true, Bool.and_true, Bool.and_false, Bool.true_and, Bool.false_and, decide_true, decide_false] <;> first | done | decide) | (simp [fWord, c1, c2, c3]; done) | (exfalso; simp_all; done), ht⟩) (fun q h => by cases h) dX1_workByWord_45
  refine lv_tableOut (tgt := 46) hx hb dX1_workByWord_1 (by have z0 := lv_neT (k := 0) (a := 0) c1 (by decide); have z1 := lv_neT (k := 1) (a := 1) c2 (by decide); have z2 := lv_neT (k := 2) (a := 2) c3 (by decide); omega) (by decide) ?_
  refine lv_iload_n hx hb dX1_workByWord_46 rfl (lv_at hl 0 rfl) ?_
  refine lv_ineg hx hb dX1_workByWord_47 ?_
  exact W.iret (v := (-p0)) hx hb hr (fun tE ht hW => ⟨(-p0), rfl, by first | (simp only [fWord, c1, c2, c3, eq_self, ↓reduceIte, Bool.false_eq_true, Bool.not_false, Bool.not_true, Bool.and_true, Bool.and_false, Bool.true_and, Bool.false_and, decide_true, decide_false] <;> first | done | decide) | (simp [fWord, c1, c2, c3]; done) | (exfalso; simp_all; done), ht⟩) (fun q h => by cases h) dX1_workByWord_48
set_option maxHeartbeats 8000000 in
set_option maxRecDepth 100000 in
theorem k_putAtToldPlace (l : Launch) (p0 : Int32) : Met l yX1_putAtToldPlace wsX1_putAtToldPlace ({ frames := 0, cells := 0, slots := 0, locals := 0 }) (fun v _ => v = ([.int p0] : List Value).toArray) (vp_Si (fun r => r = (fPlace p0))) 0 0 (fun _ => False) := by
  refine Met.ofW (cc := cX1_putAtToldPlace) (maxL := 3) (ret := (some .int)) (by decide) rfl ?_
  intro p e s m args below meth c s₁ B hml hv
  obtain rfl := hv
  have hx := B.exec
  have hb := B.bytes
  have hr := B.returns
  have hts := atoms_spec (ws := wsX1_putAtToldPlace) B.pre
  have hown : s.vm.findClass RX1 = some m.cls := findClass_of_methodNamed B.named
  have hlocks := B.notSynchronized
  have hl := lv_entry ([.int p0]) (n := 3) (Nat.le_of_ble_eq_true rfl)
  rw [lg_entry_eq]
  generalize (lg_sl ([.int p0]) ++ List.replicate (3 - (lg_sl ([.int p0])).length) Slot.unset).toArray = ls at hl ⊢
  have hl : lv_has ls 3 [(0, .int p0)] := hl
  refine lv_iload_n hx hb dX1_putAtToldPlace_0 rfl (lv_at hl 0 rfl) ?_
  refine lv_if_ne (tgt := 9) hx hb dX1_putAtToldPlace_1 (by decide) (fun c1 => ?_) (fun c1 => ?_)
  · refine lv_bipush (v := 7) hx hb dX1_putAtToldPlace_9 (by decide) ?_
    refine lv_istore_n (lv' := [(1, .int 7), (0, .int p0)]) hx hb dX1_putAtToldPlace_11 rfl hl (by decide) rfl (fun ls hl => ?_)
    refine lv_iload_n hx hb dX1_putAtToldPlace_12 rfl (lv_at hl 1 rfl) ?_
    refine lv_iconst (v := 1) hx hb dX1_putAtToldPlace_13 (by decide) ?_
    refine lv_icmp_ne (tgt := 22) hx hb dX1_putAtToldPlace_14 (by decide) (fun c2 => ?_) (fun c2 => ?_)
    · refine lv_bipush (v := 8) hx hb dX1_putAtToldPlace_22 (by decide) ?_
      refine lv_istore_n (lv' := [(2, .int 8), (1, .int 7), (0, .int p0)]) hx hb dX1_putAtToldPlace_24 rfl hl (by decide) rfl (fun ls hl => ?_)
      refine lv_iload_n hx hb dX1_putAtToldPlace_25 rfl (lv_at hl 1 rfl) ?_
      refine lv_sipush (v := 10000) hx hb dX1_putAtToldPlace_26 (by decide) ?_
      refine lv_imul hx hb dX1_putAtToldPlace_29 ?_
      refine lv_iload_n hx hb dX1_putAtToldPlace_30 rfl (lv_at hl 0 rfl) ?_
      refine lv_bipush (v := 100) hx hb dX1_putAtToldPlace_31 (by decide) ?_
      refine lv_imul hx hb dX1_putAtToldPlace_33 ?_
      refine lv_iadd hx hb dX1_putAtToldPlace_34 ?_
      refine lv_bipush (v := 9) hx hb dX1_putAtToldPlace_35 (by decide) ?_
      refine lv_iadd hx hb dX1_putAtToldPlace_37 ?_
      exact W.iret (v := (((7 * 10000) + (8 * 100)) + 9)) hx hb hr (fun tE ht hW => ⟨(((7 * 10000) + (8 * 100)) + 9), rfl, by first | (simp only [fPlace, c1, c2, eq_self, ↓reduceIte, Bool.false_eq_true, Bool.not_false, Bool.not_true, Bool.and_true, Bool.and_false, Bool.true_and, Bool.false_and, decide_true, decide_false] <;> first | done | decide) | (simp [fPlace, c1, c2]; done) | (exfalso; simp_all; done), ht⟩) (fun q h => by cases h) dX1_putAtToldPlace_38
    · refine lv_bipush (v := 25) hx hb dX1_putAtToldPlace_17 (by decide) ?_
      refine lv_goto (tgt := 24) hx hb dX1_putAtToldPlace_19 (by decide) ?_
      refine lv_istore_n (lv' := [(2, .int 25), (1, .int 7), (0, .int p0)]) hx hb dX1_putAtToldPlace_24 rfl hl (by decide) rfl (fun ls hl => ?_)
      refine lv_iload_n hx hb dX1_putAtToldPlace_25 rfl (lv_at hl 1 rfl) ?_
      refine lv_sipush (v := 10000) hx hb dX1_putAtToldPlace_26 (by decide) ?_
      refine lv_imul hx hb dX1_putAtToldPlace_29 ?_
      refine lv_iload_n hx hb dX1_putAtToldPlace_30 rfl (lv_at hl 0 rfl) ?_
      refine lv_bipush (v := 100) hx hb dX1_putAtToldPlace_31 (by decide) ?_
      refine lv_imul hx hb dX1_putAtToldPlace_33 ?_
      refine lv_iadd hx hb dX1_putAtToldPlace_34 ?_
      refine lv_bipush (v := 9) hx hb dX1_putAtToldPlace_35 (by decide) ?_
      refine lv_iadd hx hb dX1_putAtToldPlace_37 ?_
      exact W.iret (v := (((7 * 10000) + (25 * 100)) + 9)) hx hb hr (fun tE ht hW => ⟨(((7 * 10000) + (25 * 100)) + 9), rfl, by first | (simp only [fPlace, c1, c2, eq_self, ↓reduceIte, Bool.false_eq_true, Bool.not_false, Bool.not_true, Bool.and_true, Bool.and_false, Bool.true_and, Bool.false_and, decide_true, decide_false] <;> first | done | decide) | (simp [fPlace, c1, c2]; done) | (exfalso; simp_all; done), ht⟩) (fun q h => by cases h) dX1_putAtToldPlace_38
  · refine lv_bipush (v := 25) hx hb dX1_putAtToldPlace_4 (by decide) ?_
    refine lv_goto (tgt := 11) hx hb dX1_putAtToldPlace_6 (by decide) ?_
    refine lv_istore_n (lv' := [(1, .int 25), (0, .int p0)]) hx hb dX1_putAtToldPlace_11 rfl hl (by decide) rfl (fun ls hl => ?_)
    refine lv_iload_n hx hb dX1_putAtToldPlace_12 rfl (lv_at hl 1 rfl) ?_
    refine lv_iconst (v := 1) hx hb dX1_putAtToldPlace_13 (by decide) ?_
    refine lv_icmp_ne (tgt := 22) hx hb dX1_putAtToldPlace_14 (by decide) (fun c3 => ?_) (fun c3 => ?_)
    · refine lv_bipush (v := 8) hx hb dX1_putAtToldPlace_22 (by decide) ?_
      refine lv_istore_n (lv' := [(2, .int 8), (1, .int 25), (0, .int p0)]) hx hb dX1_putAtToldPlace_24 rfl hl (by decide) rfl (fun ls hl => ?_)
      refine lv_iload_n hx hb dX1_putAtToldPlace_25 rfl (lv_at hl 1 rfl) ?_
      refine lv_sipush (v := 10000) hx hb dX1_putAtToldPlace_26 (by decide) ?_
      refine lv_imul hx hb dX1_putAtToldPlace_29 ?_
      refine lv_iload_n hx hb dX1_putAtToldPlace_30 rfl (lv_at hl 0 rfl) ?_
      refine lv_bipush (v := 100) hx hb dX1_putAtToldPlace_31 (by decide) ?_
      refine lv_imul hx hb dX1_putAtToldPlace_33 ?_
      refine lv_iadd hx hb dX1_putAtToldPlace_34 ?_
      refine lv_bipush (v := 9) hx hb dX1_putAtToldPlace_35 (by decide) ?_
      refine lv_iadd hx hb dX1_putAtToldPlace_37 ?_
      exact W.iret (v := (((25 * 10000) + (8 * 100)) + 9)) hx hb hr (fun tE ht hW => ⟨(((25 * 10000) + (8 * 100)) + 9), rfl, by first | (simp only [fPlace, c1, c3, eq_self, ↓reduceIte, Bool.false_eq_true, Bool.not_false, Bool.not_true, Bool.and_true, Bool.and_false, Bool.true_and, Bool.false_and, decide_true, decide_false] <;> first | done | decide) | (simp [fPlace, c1, c3]; done) | (exfalso; simp_all; done), ht⟩) (fun q h => by cases h) dX1_putAtToldPlace_38
    · refine lv_bipush (v := 25) hx hb dX1_putAtToldPlace_17 (by decide) ?_
      refine lv_goto (tgt := 24) hx hb dX1_putAtToldPlace_19 (by decide) ?_
      refine lv_istore_n (lv' := [(2, .int 25), (1, .int 25), (0, .int p0)]) hx hb dX1_putAtToldPlace_24 rfl hl (by decide) rfl (fun ls hl => ?_)
      refine lv_iload_n hx hb dX1_putAtToldPlace_25 rfl (lv_at hl 1 rfl) ?_
      refine lv_sipush (v := 10000) hx hb dX1_putAtToldPlace_26 (by decide) ?_
      refine lv_imul hx hb dX1_putAtToldPlace_29 ?_
      refine lv_iload_n hx hb dX1_putAtToldPlace_30 rfl (lv_at hl 0 rfl) ?_
      refine lv_bipush (v := 100) hx hb dX1_putAtToldPlace_31 (by decide) ?_
      refine lv_imul hx hb dX1_putAtToldPlace_33 ?_
      refine lv_iadd hx hb dX1_putAtToldPlace_34 ?_
      refine lv_bipush (v := 9) hx hb dX1_putAtToldPlace_35 (by decide) ?_
      refine lv_iadd hx hb dX1_putAtToldPlace_37 ?_
      exact W.iret (v := (((25 * 10000) + (25 * 100)) + 9)) hx hb hr (fun tE ht hW => ⟨(((25 * 10000) + (25 * 100)) + 9), rfl, by first | (simp only [fPlace, c1, c3, eq_self, ↓reduceIte, Bool.false_eq_true, Bool.not_false, Bool.not_true, Bool.and_true, Bool.and_false, Bool.true_and, Bool.false_and, decide_true, decide_false] <;> first | done | decide) | (simp [fPlace, c1, c3]; done) | (exfalso; simp_all; done), ht⟩) (fun q h => by cases h) dX1_putAtToldPlace_38
set_option maxHeartbeats 8000000 in
set_option maxRecDepth 100000 in
theorem k_quotientOfDoubles (l : Launch) (p0 p1 : Int32) : Met l yX1_quotientOfDoubles wsX1_quotientOfDoubles ({ frames := 0, cells := 0, slots := 0, locals := 0 }) (fun v _ => v = ([.int p0, .int p1] : List Value).toArray) (vp_Si (fun r => r = (fQuo p0 p1))) 0 0 (fun _ => False) := by
  refine Met.ofW (cc := cX1_quotientOfDoubles) (maxL := 2) (ret := (some .int)) (by decide) rfl ?_
  intro p e s m args below meth c s₁ B hml hv
  obtain rfl := hv
  have hx := B.exec
  have hb := B.bytes
  have hr := B.returns
  have hts := atoms_spec (ws := wsX1_quotientOfDoubles) B.pre
  have hown : s.vm.findClass RX1 = some m.cls := findClass_of_methodNamed B.named
  have hlocks := B.notSynchronized
  have hl := lv_entry ([.int p0, .int p1]) (n := 2) (Nat.le_of_ble_eq_true rfl)
  rw [lg_entry_eq]
  generalize (lg_sl ([.int p0, .int p1]) ++ List.replicate (2 - (lg_sl ([.int p0, .int p1])).length) Slot.unset).toArray = ls at hl ⊢
  have hl : lv_has ls 2 [(0, .int p0), (1, .int p1)] := hl
  refine lv_iload_n hx hb dX1_quotientOfDoubles_0 rfl (lv_at hl 1 rfl) ?_
  refine lv_if_ne (tgt := 24) hx hb dX1_quotientOfDoubles_1 (by decide) (fun c1 => ?_) (fun c1 => ?_)
  · refine lv_iload_n hx hb dX1_quotientOfDoubles_24 rfl (lv_at hl 0 rfl) ?_
    refine lv_i2d hx hb dX1_quotientOfDoubles_25 ?_
    refine lv_iload_n hx hb dX1_quotientOfDoubles_26 rfl (lv_at hl 1 rfl) ?_
    refine lv_i2d hx hb dX1_quotientOfDoubles_27 ?_
    refine lv_ddiv hx hb dX1_quotientOfDoubles_28 (nn_ddiv _ _ c1) ?_
    refine lv_d2i hx hb dX1_quotientOfDoubles_29 ?_
    exact W.iret (v := (FP.d2i (FP.ddiv (FP.i2d p0) (FP.i2d p1)))) hx hb hr (fun tE ht hW => ⟨(FP.d2i (FP.ddiv (FP.i2d p0) (FP.i2d p1))), rfl, by first | (simp only [fQuo, c1, eq_self, ↓reduceIte, Bool.false_eq_true, Bool.not_false, Bool.not_true, Bool.and_true, Bool.and_false, Bool.true_and, Bool.false_and, decide_true, decide_false] <;> first | done | decide) | (simp [fQuo, c1]; done) | (exfalso; simp_all; done), ht⟩) (fun q h => by cases h) dX1_quotientOfDoubles_30
  · refine lv_iload_n hx hb dX1_quotientOfDoubles_4 rfl (lv_at hl 0 rfl) ?_
    refine lv_if_ne (tgt := 12) hx hb dX1_quotientOfDoubles_5 (by decide) (fun c2 => ?_) (fun c2 => ?_)
    · refine lv_iload_n hx hb dX1_quotientOfDoubles_12 rfl (lv_at hl 0 rfl) ?_
      refine lv_if_le (tgt := 21) hx hb dX1_quotientOfDoubles_13 (by decide) (fun c3 => ?_) (fun c3 => ?_)
      · refine lv_ldc (v := (-2147483648)) hx hb hown (hts (.constant RX1 182 (-2147483648)) (by decide +kernel)) dX1_quotientOfDoubles_21 ?_
        exact W.iret (v := (-2147483648)) hx hb hr (fun tE ht hW => ⟨(-2147483648), rfl, by first | (simp only [fQuo, c1, c2, c3, eq_self, ↓reduceIte, Bool.false_eq_true, Bool.not_false, Bool.not_true, Bool.and_true, Bool.and_false, Bool.true_and, Bool.false_and, decide_true, decide_false] <;> first | done | decide) | (simp [fQuo, c1, c2, c3]; done) | (exfalso; simp_all; done), ht⟩) (fun q h => by cases h) dX1_quotientOfDoubles_23
      · refine lv_ldc (v := 2147483647) hx hb hown (hts (.constant RX1 181 2147483647) (by decide +kernel)) dX1_quotientOfDoubles_16 ?_
        refine lv_goto (tgt := 23) hx hb dX1_quotientOfDoubles_18 (by decide) ?_
        exact W.iret (v := 2147483647) hx hb hr (fun tE ht hW => ⟨2147483647, rfl, by first | (simp only [fQuo, c1, c2, c3, eq_self, ↓reduceIte, Bool.false_eq_true, Bool.not_false, Bool.not_true, Bool.and_true, Bool.and_false, Bool.true_and, Bool.false_and, decide_true, decide_false] <;> first | done | decide) | (simp [fQuo, c1, c2, c3]; done) | (exfalso; simp_all; done), ht⟩) (fun q h => by cases h) dX1_quotientOfDoubles_23
    · refine lv_iconst (v := 0) hx hb dX1_quotientOfDoubles_8 (by decide) ?_
      refine lv_goto (tgt := 23) hx hb dX1_quotientOfDoubles_9 (by decide) ?_
      exact W.iret (v := 0) hx hb hr (fun tE ht hW => ⟨0, rfl, by first | (simp only [fQuo, c1, c2, eq_self, ↓reduceIte, Bool.false_eq_true, Bool.not_false, Bool.not_true, Bool.and_true, Bool.and_false, Bool.true_and, Bool.false_and, decide_true, decide_false] <;> first | done | decide) | (simp [fQuo, c1, c2]; done) | (exfalso; simp_all; done), ht⟩) (fun q h => by cases h) dX1_quotientOfDoubles_23
set_option maxHeartbeats 8000000 in
set_option maxRecDepth 100000 in
theorem k_decimalLength (l : Launch) (p0 : Int32) : Met l yX1_decimalLength wsX1_decimalLength ({ frames := 0, cells := 0, slots := 0, locals := 0 }) (fun v _ => v = ([.int p0] : List Value).toArray) (vp_Si (fun r => r = (fDec p0))) 0 0 (fun _ => False) := by
  refine Met.ofW (cc := cX1_decimalLength) (maxL := 4) (ret := (some .int)) (by decide) rfl ?_
  intro p e s m args below meth c s₁ B hml hv
  obtain rfl := hv
  have hx := B.exec
  have hb := B.bytes
  have hr := B.returns
  have hts := atoms_spec (ws := wsX1_decimalLength) B.pre
  have hown : s.vm.findClass RX1 = some m.cls := findClass_of_methodNamed B.named
  have hlocks := B.notSynchronized
  have hl := lv_entry ([.int p0]) (n := 4) (Nat.le_of_ble_eq_true rfl)
  rw [lg_entry_eq]
  generalize (lg_sl ([.int p0]) ++ List.replicate (4 - (lg_sl ([.int p0])).length) Slot.unset).toArray = ls at hl ⊢
  have hl : lv_has ls 4 [(0, .int p0)] := hl
  refine lv_iload_n hx hb dX1_decimalLength_0 rfl (lv_at hl 0 rfl) ?_
  refine lv_if_ge (tgt := 8) hx hb dX1_decimalLength_1 (by decide) (fun c1 => ?_) (fun c1 => ?_)
  · refine lv_iconst (v := 1) hx hb dX1_decimalLength_8 (by decide) ?_
    refine lv_istore_n (lv' := [(1, .int 1), (0, .int p0)]) hx hb dX1_decimalLength_9 rfl hl (by decide) rfl (fun ls hl => ?_)
    refine lv_iload_n hx hb dX1_decimalLength_10 rfl (lv_at hl 1 rfl) ?_
    refine lv_bipush (v := 10) hx hb dX1_decimalLength_11 (by decide) ?_
    refine lv_idiv hx hb dX1_decimalLength_13 (by decide) ?_
    refine lv_istore_n (lv' := [(2, .int (p0 / 10)), (1, .int 1), (0, .int p0)]) hx hb dX1_decimalLength_14 rfl hl (by decide) rfl (fun ls hl => ?_)
    refine lv_iconst (v := 1) hx hb dX1_decimalLength_15 (by decide) ?_
    refine lv_istore_n (lv' := [(3, .int 1), (2, .int (p0 / 10)), (1, .int 1), (0, .int p0)]) hx hb dX1_decimalLength_16 rfl hl (by decide) rfl (fun ls hl => ?_)
    refine lv_iload_n hx hb dX1_decimalLength_17 rfl (lv_at hl 0 rfl) ?_
    refine lv_bipush (v := 10) hx hb dX1_decimalLength_18 (by decide) ?_
    refine lv_icmp_ge (tgt := 41) hx hb dX1_decimalLength_20 (by decide) (fun cz => absurd cz (by decide)) (fun _ => ?_)
    refine lv_iload_n hx hb dX1_decimalLength_23 rfl (lv_at hl 1 rfl) ?_
    refine lv_if_eq (tgt := 41) hx hb dX1_decimalLength_24 (by decide) (fun c2 => ?_) (fun c2 => ?_)
    · refine lv_iload_n hx hb dX1_decimalLength_41 rfl (lv_at hl 2 rfl) ?_
      exact W.iret (v := 1) hx hb hr (fun tE ht hW => ⟨1, rfl, by first | (simp only [fDec, fDig, c1, c2, eq_self, ↓reduceIte, Bool.false_eq_true, Bool.not_false, Bool.not_true, Bool.and_true, Bool.and_false, Bool.true_and, Bool.false_and, decide_true, decide_false] <;> first | done | decide) | (simp [fDec, fDig, c1, c2]; done) | (exfalso; simp_all; done), ht⟩) (fun q h => by cases h) dX1_decimalLength_42
    · refine lv_iinc (v := 2) (lv' := [(1, .int 2), (3, .int 1), (2, .int (p0 / 10)), (0, .int p0)]) hx hb dX1_decimalLength_27 hl (k := 2) rfl (by decide) (by decide) rfl (fun ls hl => ?_)
      refine lv_iload_n hx hb dX1_decimalLength_30 rfl (lv_at hl 2 rfl) ?_
      refine lv_bipush (v := 10) hx hb dX1_decimalLength_31 (by decide) ?_
      refine lv_idiv hx hb dX1_decimalLength_33 (by decide) ?_
      refine lv_istore_n (lv' := [(2, .int ((p0 / 10) / 10)), (1, .int 2), (3, .int 1), (0, .int p0)]) hx hb dX1_decimalLength_34 rfl hl (by decide) rfl (fun ls hl => ?_)
      refine lv_iinc (v := 2) (lv' := [(3, .int 2), (2, .int ((p0 / 10) / 10)), (1, .int 2), (0, .int p0)]) hx hb dX1_decimalLength_35 hl (k := 2) rfl (by decide) (by decide) rfl (fun ls hl => ?_)
      refine lv_goto (tgt := 17) hx hb dX1_decimalLength_38 (by decide) ?_
      refine lv_iload_n hx hb dX1_decimalLength_17 rfl (lv_at hl 0 rfl) ?_
      refine lv_bipush (v := 10) hx hb dX1_decimalLength_18 (by decide) ?_
      refine lv_icmp_ge (tgt := 41) hx hb dX1_decimalLength_20 (by decide) (fun cz => absurd cz (by decide)) (fun _ => ?_)
      refine lv_iload_n hx hb dX1_decimalLength_23 rfl (lv_at hl 1 rfl) ?_
      refine lv_if_eq (tgt := 41) hx hb dX1_decimalLength_24 (by decide) (fun c3 => ?_) (fun c3 => ?_)
      · refine lv_iload_n hx hb dX1_decimalLength_41 rfl (lv_at hl 2 rfl) ?_
        exact W.iret (v := 2) hx hb hr (fun tE ht hW => ⟨2, rfl, by first | (simp only [fDec, fDig, c1, c2, c3, eq_self, ↓reduceIte, Bool.false_eq_true, Bool.not_false, Bool.not_true, Bool.and_true, Bool.and_false, Bool.true_and, Bool.false_and, decide_true, decide_false] <;> first | done | decide) | (simp [fDec, fDig, c1, c2, c3]; done) | (exfalso; simp_all; done), ht⟩) (fun q h => by cases h) dX1_decimalLength_42
      · refine lv_iinc (v := 3) (lv' := [(1, .int 3), (3, .int 2), (2, .int ((p0 / 10) / 10)), (0, .int p0)]) hx hb dX1_decimalLength_27 hl (k := 2) rfl (by decide) (by decide) rfl (fun ls hl => ?_)
        refine lv_iload_n hx hb dX1_decimalLength_30 rfl (lv_at hl 2 rfl) ?_
        refine lv_bipush (v := 10) hx hb dX1_decimalLength_31 (by decide) ?_
        refine lv_idiv hx hb dX1_decimalLength_33 (by decide) ?_
        refine lv_istore_n (lv' := [(2, .int (((p0 / 10) / 10) / 10)), (1, .int 3), (3, .int 2), (0, .int p0)]) hx hb dX1_decimalLength_34 rfl hl (by decide) rfl (fun ls hl => ?_)
        refine lv_iinc (v := 3) (lv' := [(3, .int 3), (2, .int (((p0 / 10) / 10) / 10)), (1, .int 3), (0, .int p0)]) hx hb dX1_decimalLength_35 hl (k := 2) rfl (by decide) (by decide) rfl (fun ls hl => ?_)
        refine lv_goto (tgt := 17) hx hb dX1_decimalLength_38 (by decide) ?_
        refine lv_iload_n hx hb dX1_decimalLength_17 rfl (lv_at hl 0 rfl) ?_
        refine lv_bipush (v := 10) hx hb dX1_decimalLength_18 (by decide) ?_
        refine lv_icmp_ge (tgt := 41) hx hb dX1_decimalLength_20 (by decide) (fun cz => absurd cz (by decide)) (fun _ => ?_)
        refine lv_iload_n hx hb dX1_decimalLength_23 rfl (lv_at hl 1 rfl) ?_
        refine lv_if_eq (tgt := 41) hx hb dX1_decimalLength_24 (by decide) (fun c4 => ?_) (fun c4 => ?_)
        · refine lv_iload_n hx hb dX1_decimalLength_41 rfl (lv_at hl 2 rfl) ?_
          exact W.iret (v := 3) hx hb hr (fun tE ht hW => ⟨3, rfl, by first | (simp only [fDec, fDig, c1, c2, c3, c4, eq_self, ↓reduceIte, Bool.false_eq_true, Bool.not_false, Bool.not_true, Bool.and_true, Bool.and_false, Bool.true_and, Bool.false_and, decide_true, decide_false] <;> first | done | decide) | (simp [fDec, fDig, c1, c2, c3, c4]; done) | (exfalso; simp_all; done), ht⟩) (fun q h => by cases h) dX1_decimalLength_42
        · refine lv_iinc (v := 4) (lv' := [(1, .int 4), (3, .int 3), (2, .int (((p0 / 10) / 10) / 10)), (0, .int p0)]) hx hb dX1_decimalLength_27 hl (k := 2) rfl (by decide) (by decide) rfl (fun ls hl => ?_)
          refine lv_iload_n hx hb dX1_decimalLength_30 rfl (lv_at hl 2 rfl) ?_
          refine lv_bipush (v := 10) hx hb dX1_decimalLength_31 (by decide) ?_
          refine lv_idiv hx hb dX1_decimalLength_33 (by decide) ?_
          refine lv_istore_n (lv' := [(2, .int ((((p0 / 10) / 10) / 10) / 10)), (1, .int 4), (3, .int 3), (0, .int p0)]) hx hb dX1_decimalLength_34 rfl hl (by decide) rfl (fun ls hl => ?_)
          refine lv_iinc (v := 4) (lv' := [(3, .int 4), (2, .int ((((p0 / 10) / 10) / 10) / 10)), (1, .int 4), (0, .int p0)]) hx hb dX1_decimalLength_35 hl (k := 2) rfl (by decide) (by decide) rfl (fun ls hl => ?_)
          refine lv_goto (tgt := 17) hx hb dX1_decimalLength_38 (by decide) ?_
          refine lv_iload_n hx hb dX1_decimalLength_17 rfl (lv_at hl 0 rfl) ?_
          refine lv_bipush (v := 10) hx hb dX1_decimalLength_18 (by decide) ?_
          refine lv_icmp_ge (tgt := 41) hx hb dX1_decimalLength_20 (by decide) (fun cz => absurd cz (by decide)) (fun _ => ?_)
          refine lv_iload_n hx hb dX1_decimalLength_23 rfl (lv_at hl 1 rfl) ?_
          refine lv_if_eq (tgt := 41) hx hb dX1_decimalLength_24 (by decide) (fun c5 => ?_) (fun c5 => ?_)
          · refine lv_iload_n hx hb dX1_decimalLength_41 rfl (lv_at hl 2 rfl) ?_
            exact W.iret (v := 4) hx hb hr (fun tE ht hW => ⟨4, rfl, by first | (simp only [fDec, fDig, c1, c2, c3, c4, c5, eq_self, ↓reduceIte, Bool.false_eq_true, Bool.not_false, Bool.not_true, Bool.and_true, Bool.and_false, Bool.true_and, Bool.false_and, decide_true, decide_false] <;> first | done | decide) | (simp [fDec, fDig, c1, c2, c3, c4, c5]; done) | (exfalso; simp_all; done), ht⟩) (fun q h => by cases h) dX1_decimalLength_42
          · refine lv_iinc (v := 5) (lv' := [(1, .int 5), (3, .int 4), (2, .int ((((p0 / 10) / 10) / 10) / 10)), (0, .int p0)]) hx hb dX1_decimalLength_27 hl (k := 2) rfl (by decide) (by decide) rfl (fun ls hl => ?_)
            refine lv_iload_n hx hb dX1_decimalLength_30 rfl (lv_at hl 2 rfl) ?_
            refine lv_bipush (v := 10) hx hb dX1_decimalLength_31 (by decide) ?_
            refine lv_idiv hx hb dX1_decimalLength_33 (by decide) ?_
            refine lv_istore_n (lv' := [(2, .int (((((p0 / 10) / 10) / 10) / 10) / 10)), (1, .int 5), (3, .int 4), (0, .int p0)]) hx hb dX1_decimalLength_34 rfl hl (by decide) rfl (fun ls hl => ?_)
            refine lv_iinc (v := 5) (lv' := [(3, .int 5), (2, .int (((((p0 / 10) / 10) / 10) / 10) / 10)), (1, .int 5), (0, .int p0)]) hx hb dX1_decimalLength_35 hl (k := 2) rfl (by decide) (by decide) rfl (fun ls hl => ?_)
            refine lv_goto (tgt := 17) hx hb dX1_decimalLength_38 (by decide) ?_
            refine lv_iload_n hx hb dX1_decimalLength_17 rfl (lv_at hl 0 rfl) ?_
            refine lv_bipush (v := 10) hx hb dX1_decimalLength_18 (by decide) ?_
            refine lv_icmp_ge (tgt := 41) hx hb dX1_decimalLength_20 (by decide) (fun cz => absurd cz (by decide)) (fun _ => ?_)
            refine lv_iload_n hx hb dX1_decimalLength_23 rfl (lv_at hl 1 rfl) ?_
            refine lv_if_eq (tgt := 41) hx hb dX1_decimalLength_24 (by decide) (fun c6 => ?_) (fun c6 => ?_)
            · refine lv_iload_n hx hb dX1_decimalLength_41 rfl (lv_at hl 2 rfl) ?_
              exact W.iret (v := 5) hx hb hr (fun tE ht hW => ⟨5, rfl, by first | (simp only [fDec, fDig, c1, c2, c3, c4, c5, c6, eq_self, ↓reduceIte, Bool.false_eq_true, Bool.not_false, Bool.not_true, Bool.and_true, Bool.and_false, Bool.true_and, Bool.false_and, decide_true, decide_false] <;> first | done | decide) | (simp [fDec, fDig, c1, c2, c3, c4, c5, c6]; done) | (exfalso; simp_all; done), ht⟩) (fun q h => by cases h) dX1_decimalLength_42
            · refine lv_iinc (v := 6) (lv' := [(1, .int 6), (3, .int 5), (2, .int (((((p0 / 10) / 10) / 10) / 10) / 10)), (0, .int p0)]) hx hb dX1_decimalLength_27 hl (k := 2) rfl (by decide) (by decide) rfl (fun ls hl => ?_)
              refine lv_iload_n hx hb dX1_decimalLength_30 rfl (lv_at hl 2 rfl) ?_
              refine lv_bipush (v := 10) hx hb dX1_decimalLength_31 (by decide) ?_
              refine lv_idiv hx hb dX1_decimalLength_33 (by decide) ?_
              refine lv_istore_n (lv' := [(2, .int ((((((p0 / 10) / 10) / 10) / 10) / 10) / 10)), (1, .int 6), (3, .int 5), (0, .int p0)]) hx hb dX1_decimalLength_34 rfl hl (by decide) rfl (fun ls hl => ?_)
              refine lv_iinc (v := 6) (lv' := [(3, .int 6), (2, .int ((((((p0 / 10) / 10) / 10) / 10) / 10) / 10)), (1, .int 6), (0, .int p0)]) hx hb dX1_decimalLength_35 hl (k := 2) rfl (by decide) (by decide) rfl (fun ls hl => ?_)
              refine lv_goto (tgt := 17) hx hb dX1_decimalLength_38 (by decide) ?_
              refine lv_iload_n hx hb dX1_decimalLength_17 rfl (lv_at hl 0 rfl) ?_
              refine lv_bipush (v := 10) hx hb dX1_decimalLength_18 (by decide) ?_
              refine lv_icmp_ge (tgt := 41) hx hb dX1_decimalLength_20 (by decide) (fun cz => absurd cz (by decide)) (fun _ => ?_)
              refine lv_iload_n hx hb dX1_decimalLength_23 rfl (lv_at hl 1 rfl) ?_
              refine lv_if_eq (tgt := 41) hx hb dX1_decimalLength_24 (by decide) (fun c7 => ?_) (fun c7 => ?_)
              · refine lv_iload_n hx hb dX1_decimalLength_41 rfl (lv_at hl 2 rfl) ?_
                exact W.iret (v := 6) hx hb hr (fun tE ht hW => ⟨6, rfl, by first | (simp only [fDec, fDig, c1, c2, c3, c4, c5, c6, c7, eq_self, ↓reduceIte, Bool.false_eq_true, Bool.not_false, Bool.not_true, Bool.and_true, Bool.and_false, Bool.true_and, Bool.false_and, decide_true, decide_false] <;> first | done | decide) | (simp [fDec, fDig, c1, c2, c3, c4, c5, c6, c7]; done) | (exfalso; simp_all; done), ht⟩) (fun q h => by cases h) dX1_decimalLength_42
              · refine lv_iinc (v := 7) (lv' := [(1, .int 7), (3, .int 6), (2, .int ((((((p0 / 10) / 10) / 10) / 10) / 10) / 10)), (0, .int p0)]) hx hb dX1_decimalLength_27 hl (k := 2) rfl (by decide) (by decide) rfl (fun ls hl => ?_)
                refine lv_iload_n hx hb dX1_decimalLength_30 rfl (lv_at hl 2 rfl) ?_
                refine lv_bipush (v := 10) hx hb dX1_decimalLength_31 (by decide) ?_
                refine lv_idiv hx hb dX1_decimalLength_33 (by decide) ?_
                refine lv_istore_n (lv' := [(2, .int (((((((p0 / 10) / 10) / 10) / 10) / 10) / 10) / 10)), (1, .int 7), (3, .int 6), (0, .int p0)]) hx hb dX1_decimalLength_34 rfl hl (by decide) rfl (fun ls hl => ?_)
                refine lv_iinc (v := 7) (lv' := [(3, .int 7), (2, .int (((((((p0 / 10) / 10) / 10) / 10) / 10) / 10) / 10)), (1, .int 7), (0, .int p0)]) hx hb dX1_decimalLength_35 hl (k := 2) rfl (by decide) (by decide) rfl (fun ls hl => ?_)
                refine lv_goto (tgt := 17) hx hb dX1_decimalLength_38 (by decide) ?_
                refine lv_iload_n hx hb dX1_decimalLength_17 rfl (lv_at hl 0 rfl) ?_
                refine lv_bipush (v := 10) hx hb dX1_decimalLength_18 (by decide) ?_
                refine lv_icmp_ge (tgt := 41) hx hb dX1_decimalLength_20 (by decide) (fun cz => absurd cz (by decide)) (fun _ => ?_)
                refine lv_iload_n hx hb dX1_decimalLength_23 rfl (lv_at hl 1 rfl) ?_
                refine lv_if_eq (tgt := 41) hx hb dX1_decimalLength_24 (by decide) (fun c8 => ?_) (fun c8 => ?_)
                · refine lv_iload_n hx hb dX1_decimalLength_41 rfl (lv_at hl 2 rfl) ?_
                  exact W.iret (v := 7) hx hb hr (fun tE ht hW => ⟨7, rfl, by first | (simp only [fDec, fDig, c1, c2, c3, c4, c5, c6, c7, c8, eq_self, ↓reduceIte, Bool.false_eq_true, Bool.not_false, Bool.not_true, Bool.and_true, Bool.and_false, Bool.true_and, Bool.false_and, decide_true, decide_false] <;> first | done | decide) | (simp [fDec, fDig, c1, c2, c3, c4, c5, c6, c7, c8]; done) | (exfalso; simp_all; done), ht⟩) (fun q h => by cases h) dX1_decimalLength_42
                · refine lv_iinc (v := 8) (lv' := [(1, .int 8), (3, .int 7), (2, .int (((((((p0 / 10) / 10) / 10) / 10) / 10) / 10) / 10)), (0, .int p0)]) hx hb dX1_decimalLength_27 hl (k := 2) rfl (by decide) (by decide) rfl (fun ls hl => ?_)
                  refine lv_iload_n hx hb dX1_decimalLength_30 rfl (lv_at hl 2 rfl) ?_
                  refine lv_bipush (v := 10) hx hb dX1_decimalLength_31 (by decide) ?_
                  refine lv_idiv hx hb dX1_decimalLength_33 (by decide) ?_
                  refine lv_istore_n (lv' := [(2, .int ((((((((p0 / 10) / 10) / 10) / 10) / 10) / 10) / 10) / 10)), (1, .int 8), (3, .int 7), (0, .int p0)]) hx hb dX1_decimalLength_34 rfl hl (by decide) rfl (fun ls hl => ?_)
                  refine lv_iinc (v := 8) (lv' := [(3, .int 8), (2, .int ((((((((p0 / 10) / 10) / 10) / 10) / 10) / 10) / 10) / 10)), (1, .int 8), (0, .int p0)]) hx hb dX1_decimalLength_35 hl (k := 2) rfl (by decide) (by decide) rfl (fun ls hl => ?_)
                  refine lv_goto (tgt := 17) hx hb dX1_decimalLength_38 (by decide) ?_
                  refine lv_iload_n hx hb dX1_decimalLength_17 rfl (lv_at hl 0 rfl) ?_
                  refine lv_bipush (v := 10) hx hb dX1_decimalLength_18 (by decide) ?_
                  refine lv_icmp_ge (tgt := 41) hx hb dX1_decimalLength_20 (by decide) (fun cz => absurd cz (by decide)) (fun _ => ?_)
                  refine lv_iload_n hx hb dX1_decimalLength_23 rfl (lv_at hl 1 rfl) ?_
                  refine lv_if_eq (tgt := 41) hx hb dX1_decimalLength_24 (by decide) (fun c9 => ?_) (fun c9 => ?_)
                  · refine lv_iload_n hx hb dX1_decimalLength_41 rfl (lv_at hl 2 rfl) ?_
                    exact W.iret (v := 8) hx hb hr (fun tE ht hW => ⟨8, rfl, by first | (simp only [fDec, fDig, c1, c2, c3, c4, c5, c6, c7, c8, c9, eq_self, ↓reduceIte, Bool.false_eq_true, Bool.not_false, Bool.not_true, Bool.and_true, Bool.and_false, Bool.true_and, Bool.false_and, decide_true, decide_false] <;> first | done | decide) | (simp [fDec, fDig, c1, c2, c3, c4, c5, c6, c7, c8, c9]; done) | (exfalso; simp_all; done), ht⟩) (fun q h => by cases h) dX1_decimalLength_42
                  · refine lv_iinc (v := 9) (lv' := [(1, .int 9), (3, .int 8), (2, .int ((((((((p0 / 10) / 10) / 10) / 10) / 10) / 10) / 10) / 10)), (0, .int p0)]) hx hb dX1_decimalLength_27 hl (k := 2) rfl (by decide) (by decide) rfl (fun ls hl => ?_)
                    refine lv_iload_n hx hb dX1_decimalLength_30 rfl (lv_at hl 2 rfl) ?_
                    refine lv_bipush (v := 10) hx hb dX1_decimalLength_31 (by decide) ?_
                    refine lv_idiv hx hb dX1_decimalLength_33 (by decide) ?_
                    refine lv_istore_n (lv' := [(2, .int (((((((((p0 / 10) / 10) / 10) / 10) / 10) / 10) / 10) / 10) / 10)), (1, .int 9), (3, .int 8), (0, .int p0)]) hx hb dX1_decimalLength_34 rfl hl (by decide) rfl (fun ls hl => ?_)
                    refine lv_iinc (v := 9) (lv' := [(3, .int 9), (2, .int (((((((((p0 / 10) / 10) / 10) / 10) / 10) / 10) / 10) / 10) / 10)), (1, .int 9), (0, .int p0)]) hx hb dX1_decimalLength_35 hl (k := 2) rfl (by decide) (by decide) rfl (fun ls hl => ?_)
                    refine lv_goto (tgt := 17) hx hb dX1_decimalLength_38 (by decide) ?_
                    refine lv_iload_n hx hb dX1_decimalLength_17 rfl (lv_at hl 0 rfl) ?_
                    refine lv_bipush (v := 10) hx hb dX1_decimalLength_18 (by decide) ?_
                    refine lv_icmp_ge (tgt := 41) hx hb dX1_decimalLength_20 (by decide) (fun cz => absurd cz (by decide)) (fun _ => ?_)
                    refine lv_iload_n hx hb dX1_decimalLength_23 rfl (lv_at hl 1 rfl) ?_
                    refine lv_if_eq (tgt := 41) hx hb dX1_decimalLength_24 (by decide) (fun c10 => ?_) (fun c10 => ?_)
                    · refine lv_iload_n hx hb dX1_decimalLength_41 rfl (lv_at hl 2 rfl) ?_
                      exact W.iret (v := 9) hx hb hr (fun tE ht hW => ⟨9, rfl, by first | (simp only [fDec, fDig, c1, c2, c3, c4, c5, c6, c7, c8, c9, c10, eq_self, ↓reduceIte, Bool.false_eq_true, Bool.not_false, Bool.not_true, Bool.and_true, Bool.and_false, Bool.true_and, Bool.false_and, decide_true, decide_false] <;> first | done | decide) | (simp [fDec, fDig, c1, c2, c3, c4, c5, c6, c7, c8, c9, c10]; done) | (exfalso; simp_all; done), ht⟩) (fun q h => by cases h) dX1_decimalLength_42
                    · refine lv_iinc (v := 10) (lv' := [(1, .int 10), (3, .int 9), (2, .int (((((((((p0 / 10) / 10) / 10) / 10) / 10) / 10) / 10) / 10) / 10)), (0, .int p0)]) hx hb dX1_decimalLength_27 hl (k := 2) rfl (by decide) (by decide) rfl (fun ls hl => ?_)
                      refine lv_iload_n hx hb dX1_decimalLength_30 rfl (lv_at hl 2 rfl) ?_
                      refine lv_bipush (v := 10) hx hb dX1_decimalLength_31 (by decide) ?_
                      refine lv_idiv hx hb dX1_decimalLength_33 (by decide) ?_
                      refine lv_istore_n (lv' := [(2, .int ((((((((((p0 / 10) / 10) / 10) / 10) / 10) / 10) / 10) / 10) / 10) / 10)), (1, .int 10), (3, .int 9), (0, .int p0)]) hx hb dX1_decimalLength_34 rfl hl (by decide) rfl (fun ls hl => ?_)
                      refine lv_iinc (v := 10) (lv' := [(3, .int 10), (2, .int ((((((((((p0 / 10) / 10) / 10) / 10) / 10) / 10) / 10) / 10) / 10) / 10)), (1, .int 10), (0, .int p0)]) hx hb dX1_decimalLength_35 hl (k := 2) rfl (by decide) (by decide) rfl (fun ls hl => ?_)
                      refine lv_goto (tgt := 17) hx hb dX1_decimalLength_38 (by decide) ?_
                      refine lv_iload_n hx hb dX1_decimalLength_17 rfl (lv_at hl 0 rfl) ?_
                      refine lv_bipush (v := 10) hx hb dX1_decimalLength_18 (by decide) ?_
                      refine lv_icmp_ge (tgt := 41) hx hb dX1_decimalLength_20 (by decide) (fun _ => ?_) (fun cz => absurd cz (by decide))
                      refine lv_iload_n hx hb dX1_decimalLength_41 rfl (lv_at hl 2 rfl) ?_
                      exact W.iret (v := 10) hx hb hr (fun tE ht hW => ⟨10, rfl, by first | (simp only [fDec, fDig, c1, c2, c3, c4, c5, c6, c7, c8, c9, c10, eq_self, ↓reduceIte, Bool.false_eq_true, Bool.not_false, Bool.not_true, Bool.and_true, Bool.and_false, Bool.true_and, Bool.false_and, decide_true, decide_false] <;> first | done | decide) | (simp [fDec, fDig, c1, c2, c3, c4, c5, c6, c7, c8, c9, c10]; done) | (exfalso; simp_all; done), ht⟩) (fun q h => by cases h) dX1_decimalLength_42
  · refine lv_iconst (v := 2) hx hb dX1_decimalLength_4 (by decide) ?_
    refine lv_goto (tgt := 9) hx hb dX1_decimalLength_5 (by decide) ?_
    refine lv_istore_n (lv' := [(1, .int 2), (0, .int p0)]) hx hb dX1_decimalLength_9 rfl hl (by decide) rfl (fun ls hl => ?_)
    refine lv_iload_n hx hb dX1_decimalLength_10 rfl (lv_at hl 1 rfl) ?_
    refine lv_bipush (v := 10) hx hb dX1_decimalLength_11 (by decide) ?_
    refine lv_idiv hx hb dX1_decimalLength_13 (by decide) ?_
    refine lv_istore_n (lv' := [(2, .int (p0 / 10)), (1, .int 2), (0, .int p0)]) hx hb dX1_decimalLength_14 rfl hl (by decide) rfl (fun ls hl => ?_)
    refine lv_iconst (v := 1) hx hb dX1_decimalLength_15 (by decide) ?_
    refine lv_istore_n (lv' := [(3, .int 1), (2, .int (p0 / 10)), (1, .int 2), (0, .int p0)]) hx hb dX1_decimalLength_16 rfl hl (by decide) rfl (fun ls hl => ?_)
    refine lv_iload_n hx hb dX1_decimalLength_17 rfl (lv_at hl 0 rfl) ?_
    refine lv_bipush (v := 10) hx hb dX1_decimalLength_18 (by decide) ?_
    refine lv_icmp_ge (tgt := 41) hx hb dX1_decimalLength_20 (by decide) (fun cz => absurd cz (by decide)) (fun _ => ?_)
    refine lv_iload_n hx hb dX1_decimalLength_23 rfl (lv_at hl 1 rfl) ?_
    refine lv_if_eq (tgt := 41) hx hb dX1_decimalLength_24 (by decide) (fun c11 => ?_) (fun c11 => ?_)
    · refine lv_iload_n hx hb dX1_decimalLength_41 rfl (lv_at hl 2 rfl) ?_
      exact W.iret (v := 2) hx hb hr (fun tE ht hW => ⟨2, rfl, by first | (simp only [fDec, fDig, c1, c11, eq_self, ↓reduceIte, Bool.false_eq_true, Bool.not_false, Bool.not_true, Bool.and_true, Bool.and_false, Bool.true_and, Bool.false_and, decide_true, decide_false] <;> first | done | decide) | (simp [fDec, fDig, c1, c11]; done) | (exfalso; simp_all; done), ht⟩) (fun q h => by cases h) dX1_decimalLength_42
    · refine lv_iinc (v := 3) (lv' := [(1, .int 3), (3, .int 1), (2, .int (p0 / 10)), (0, .int p0)]) hx hb dX1_decimalLength_27 hl (k := 2) rfl (by decide) (by decide) rfl (fun ls hl => ?_)
      refine lv_iload_n hx hb dX1_decimalLength_30 rfl (lv_at hl 2 rfl) ?_
      refine lv_bipush (v := 10) hx hb dX1_decimalLength_31 (by decide) ?_
      refine lv_idiv hx hb dX1_decimalLength_33 (by decide) ?_
      refine lv_istore_n (lv' := [(2, .int ((p0 / 10) / 10)), (1, .int 3), (3, .int 1), (0, .int p0)]) hx hb dX1_decimalLength_34 rfl hl (by decide) rfl (fun ls hl => ?_)
      refine lv_iinc (v := 2) (lv' := [(3, .int 2), (2, .int ((p0 / 10) / 10)), (1, .int 3), (0, .int p0)]) hx hb dX1_decimalLength_35 hl (k := 2) rfl (by decide) (by decide) rfl (fun ls hl => ?_)
      refine lv_goto (tgt := 17) hx hb dX1_decimalLength_38 (by decide) ?_
      refine lv_iload_n hx hb dX1_decimalLength_17 rfl (lv_at hl 0 rfl) ?_
      refine lv_bipush (v := 10) hx hb dX1_decimalLength_18 (by decide) ?_
      refine lv_icmp_ge (tgt := 41) hx hb dX1_decimalLength_20 (by decide) (fun cz => absurd cz (by decide)) (fun _ => ?_)
      refine lv_iload_n hx hb dX1_decimalLength_23 rfl (lv_at hl 1 rfl) ?_
      refine lv_if_eq (tgt := 41) hx hb dX1_decimalLength_24 (by decide) (fun c12 => ?_) (fun c12 => ?_)
      · refine lv_iload_n hx hb dX1_decimalLength_41 rfl (lv_at hl 2 rfl) ?_
        exact W.iret (v := 3) hx hb hr (fun tE ht hW => ⟨3, rfl, by first | (simp only [fDec, fDig, c1, c11, c12, eq_self, ↓reduceIte, Bool.false_eq_true, Bool.not_false, Bool.not_true, Bool.and_true, Bool.and_false, Bool.true_and, Bool.false_and, decide_true, decide_false] <;> first | done | decide) | (simp [fDec, fDig, c1, c11, c12]; done) | (exfalso; simp_all; done), ht⟩) (fun q h => by cases h) dX1_decimalLength_42
      · refine lv_iinc (v := 4) (lv' := [(1, .int 4), (3, .int 2), (2, .int ((p0 / 10) / 10)), (0, .int p0)]) hx hb dX1_decimalLength_27 hl (k := 2) rfl (by decide) (by decide) rfl (fun ls hl => ?_)
        refine lv_iload_n hx hb dX1_decimalLength_30 rfl (lv_at hl 2 rfl) ?_
        refine lv_bipush (v := 10) hx hb dX1_decimalLength_31 (by decide) ?_
        refine lv_idiv hx hb dX1_decimalLength_33 (by decide) ?_
        refine lv_istore_n (lv' := [(2, .int (((p0 / 10) / 10) / 10)), (1, .int 4), (3, .int 2), (0, .int p0)]) hx hb dX1_decimalLength_34 rfl hl (by decide) rfl (fun ls hl => ?_)
        refine lv_iinc (v := 3) (lv' := [(3, .int 3), (2, .int (((p0 / 10) / 10) / 10)), (1, .int 4), (0, .int p0)]) hx hb dX1_decimalLength_35 hl (k := 2) rfl (by decide) (by decide) rfl (fun ls hl => ?_)
        refine lv_goto (tgt := 17) hx hb dX1_decimalLength_38 (by decide) ?_
        refine lv_iload_n hx hb dX1_decimalLength_17 rfl (lv_at hl 0 rfl) ?_
        refine lv_bipush (v := 10) hx hb dX1_decimalLength_18 (by decide) ?_
        refine lv_icmp_ge (tgt := 41) hx hb dX1_decimalLength_20 (by decide) (fun cz => absurd cz (by decide)) (fun _ => ?_)
        refine lv_iload_n hx hb dX1_decimalLength_23 rfl (lv_at hl 1 rfl) ?_
        refine lv_if_eq (tgt := 41) hx hb dX1_decimalLength_24 (by decide) (fun c13 => ?_) (fun c13 => ?_)
        · refine lv_iload_n hx hb dX1_decimalLength_41 rfl (lv_at hl 2 rfl) ?_
          exact W.iret (v := 4) hx hb hr (fun tE ht hW => ⟨4, rfl, by first | (simp only [fDec, fDig, c1, c11, c12, c13, eq_self, ↓reduceIte, Bool.false_eq_true, Bool.not_false, Bool.not_true, Bool.and_true, Bool.and_false, Bool.true_and, Bool.false_and, decide_true, decide_false] <;> first | done | decide) | (simp [fDec, fDig, c1, c11, c12, c13]; done) | (exfalso; simp_all; done), ht⟩) (fun q h => by cases h) dX1_decimalLength_42
        · refine lv_iinc (v := 5) (lv' := [(1, .int 5), (3, .int 3), (2, .int (((p0 / 10) / 10) / 10)), (0, .int p0)]) hx hb dX1_decimalLength_27 hl (k := 2) rfl (by decide) (by decide) rfl (fun ls hl => ?_)
          refine lv_iload_n hx hb dX1_decimalLength_30 rfl (lv_at hl 2 rfl) ?_
          refine lv_bipush (v := 10) hx hb dX1_decimalLength_31 (by decide) ?_
          refine lv_idiv hx hb dX1_decimalLength_33 (by decide) ?_
          refine lv_istore_n (lv' := [(2, .int ((((p0 / 10) / 10) / 10) / 10)), (1, .int 5), (3, .int 3), (0, .int p0)]) hx hb dX1_decimalLength_34 rfl hl (by decide) rfl (fun ls hl => ?_)
          refine lv_iinc (v := 4) (lv' := [(3, .int 4), (2, .int ((((p0 / 10) / 10) / 10) / 10)), (1, .int 5), (0, .int p0)]) hx hb dX1_decimalLength_35 hl (k := 2) rfl (by decide) (by decide) rfl (fun ls hl => ?_)
          refine lv_goto (tgt := 17) hx hb dX1_decimalLength_38 (by decide) ?_
          refine lv_iload_n hx hb dX1_decimalLength_17 rfl (lv_at hl 0 rfl) ?_
          refine lv_bipush (v := 10) hx hb dX1_decimalLength_18 (by decide) ?_
          refine lv_icmp_ge (tgt := 41) hx hb dX1_decimalLength_20 (by decide) (fun cz => absurd cz (by decide)) (fun _ => ?_)
          refine lv_iload_n hx hb dX1_decimalLength_23 rfl (lv_at hl 1 rfl) ?_
          refine lv_if_eq (tgt := 41) hx hb dX1_decimalLength_24 (by decide) (fun c14 => ?_) (fun c14 => ?_)
          · refine lv_iload_n hx hb dX1_decimalLength_41 rfl (lv_at hl 2 rfl) ?_
            exact W.iret (v := 5) hx hb hr (fun tE ht hW => ⟨5, rfl, by first | (simp only [fDec, fDig, c1, c11, c12, c13, c14, eq_self, ↓reduceIte, Bool.false_eq_true, Bool.not_false, Bool.not_true, Bool.and_true, Bool.and_false, Bool.true_and, Bool.false_and, decide_true, decide_false] <;> first | done | decide) | (simp [fDec, fDig, c1, c11, c12, c13, c14]; done) | (exfalso; simp_all; done), ht⟩) (fun q h => by cases h) dX1_decimalLength_42
          · refine lv_iinc (v := 6) (lv' := [(1, .int 6), (3, .int 4), (2, .int ((((p0 / 10) / 10) / 10) / 10)), (0, .int p0)]) hx hb dX1_decimalLength_27 hl (k := 2) rfl (by decide) (by decide) rfl (fun ls hl => ?_)
            refine lv_iload_n hx hb dX1_decimalLength_30 rfl (lv_at hl 2 rfl) ?_
            refine lv_bipush (v := 10) hx hb dX1_decimalLength_31 (by decide) ?_
            refine lv_idiv hx hb dX1_decimalLength_33 (by decide) ?_
            refine lv_istore_n (lv' := [(2, .int (((((p0 / 10) / 10) / 10) / 10) / 10)), (1, .int 6), (3, .int 4), (0, .int p0)]) hx hb dX1_decimalLength_34 rfl hl (by decide) rfl (fun ls hl => ?_)
            refine lv_iinc (v := 5) (lv' := [(3, .int 5), (2, .int (((((p0 / 10) / 10) / 10) / 10) / 10)), (1, .int 6), (0, .int p0)]) hx hb dX1_decimalLength_35 hl (k := 2) rfl (by decide) (by decide) rfl (fun ls hl => ?_)
            refine lv_goto (tgt := 17) hx hb dX1_decimalLength_38 (by decide) ?_
            refine lv_iload_n hx hb dX1_decimalLength_17 rfl (lv_at hl 0 rfl) ?_
            refine lv_bipush (v := 10) hx hb dX1_decimalLength_18 (by decide) ?_
            refine lv_icmp_ge (tgt := 41) hx hb dX1_decimalLength_20 (by decide) (fun cz => absurd cz (by decide)) (fun _ => ?_)
            refine lv_iload_n hx hb dX1_decimalLength_23 rfl (lv_at hl 1 rfl) ?_
            refine lv_if_eq (tgt := 41) hx hb dX1_decimalLength_24 (by decide) (fun c15 => ?_) (fun c15 => ?_)
            · refine lv_iload_n hx hb dX1_decimalLength_41 rfl (lv_at hl 2 rfl) ?_
              exact W.iret (v := 6) hx hb hr (fun tE ht hW => ⟨6, rfl, by first | (simp only [fDec, fDig, c1, c11, c12, c13, c14, c15, eq_self, ↓reduceIte, Bool.false_eq_true, Bool.not_false, Bool.not_true, Bool.and_true, Bool.and_false, Bool.true_and, Bool.false_and, decide_true, decide_false] <;> first | done | decide) | (simp [fDec, fDig, c1, c11, c12, c13, c14, c15]; done) | (exfalso; simp_all; done), ht⟩) (fun q h => by cases h) dX1_decimalLength_42
            · refine lv_iinc (v := 7) (lv' := [(1, .int 7), (3, .int 5), (2, .int (((((p0 / 10) / 10) / 10) / 10) / 10)), (0, .int p0)]) hx hb dX1_decimalLength_27 hl (k := 2) rfl (by decide) (by decide) rfl (fun ls hl => ?_)
              refine lv_iload_n hx hb dX1_decimalLength_30 rfl (lv_at hl 2 rfl) ?_
              refine lv_bipush (v := 10) hx hb dX1_decimalLength_31 (by decide) ?_
              refine lv_idiv hx hb dX1_decimalLength_33 (by decide) ?_
              refine lv_istore_n (lv' := [(2, .int ((((((p0 / 10) / 10) / 10) / 10) / 10) / 10)), (1, .int 7), (3, .int 5), (0, .int p0)]) hx hb dX1_decimalLength_34 rfl hl (by decide) rfl (fun ls hl => ?_)
              refine lv_iinc (v := 6) (lv' := [(3, .int 6), (2, .int ((((((p0 / 10) / 10) / 10) / 10) / 10) / 10)), (1, .int 7), (0, .int p0)]) hx hb dX1_decimalLength_35 hl (k := 2) rfl (by decide) (by decide) rfl (fun ls hl => ?_)
              refine lv_goto (tgt := 17) hx hb dX1_decimalLength_38 (by decide) ?_
              refine lv_iload_n hx hb dX1_decimalLength_17 rfl (lv_at hl 0 rfl) ?_
              refine lv_bipush (v := 10) hx hb dX1_decimalLength_18 (by decide) ?_
              refine lv_icmp_ge (tgt := 41) hx hb dX1_decimalLength_20 (by decide) (fun cz => absurd cz (by decide)) (fun _ => ?_)
              refine lv_iload_n hx hb dX1_decimalLength_23 rfl (lv_at hl 1 rfl) ?_
              refine lv_if_eq (tgt := 41) hx hb dX1_decimalLength_24 (by decide) (fun c16 => ?_) (fun c16 => ?_)
              · refine lv_iload_n hx hb dX1_decimalLength_41 rfl (lv_at hl 2 rfl) ?_
                exact W.iret (v := 7) hx hb hr (fun tE ht hW => ⟨7, rfl, by first | (simp only [fDec, fDig, c1, c11, c12, c13, c14, c15, c16, eq_self, ↓reduceIte, Bool.false_eq_true, Bool.not_false, Bool.not_true, Bool.and_true, Bool.and_false, Bool.true_and, Bool.false_and, decide_true, decide_false] <;> first | done | decide) | (simp [fDec, fDig, c1, c11, c12, c13, c14, c15, c16]; done) | (exfalso; simp_all; done), ht⟩) (fun q h => by cases h) dX1_decimalLength_42
              · refine lv_iinc (v := 8) (lv' := [(1, .int 8), (3, .int 6), (2, .int ((((((p0 / 10) / 10) / 10) / 10) / 10) / 10)), (0, .int p0)]) hx hb dX1_decimalLength_27 hl (k := 2) rfl (by decide) (by decide) rfl (fun ls hl => ?_)
                refine lv_iload_n hx hb dX1_decimalLength_30 rfl (lv_at hl 2 rfl) ?_
                refine lv_bipush (v := 10) hx hb dX1_decimalLength_31 (by decide) ?_
                refine lv_idiv hx hb dX1_decimalLength_33 (by decide) ?_
                refine lv_istore_n (lv' := [(2, .int (((((((p0 / 10) / 10) / 10) / 10) / 10) / 10) / 10)), (1, .int 8), (3, .int 6), (0, .int p0)]) hx hb dX1_decimalLength_34 rfl hl (by decide) rfl (fun ls hl => ?_)
                refine lv_iinc (v := 7) (lv' := [(3, .int 7), (2, .int (((((((p0 / 10) / 10) / 10) / 10) / 10) / 10) / 10)), (1, .int 8), (0, .int p0)]) hx hb dX1_decimalLength_35 hl (k := 2) rfl (by decide) (by decide) rfl (fun ls hl => ?_)
                refine lv_goto (tgt := 17) hx hb dX1_decimalLength_38 (by decide) ?_
                refine lv_iload_n hx hb dX1_decimalLength_17 rfl (lv_at hl 0 rfl) ?_
                refine lv_bipush (v := 10) hx hb dX1_decimalLength_18 (by decide) ?_
                refine lv_icmp_ge (tgt := 41) hx hb dX1_decimalLength_20 (by decide) (fun cz => absurd cz (by decide)) (fun _ => ?_)
                refine lv_iload_n hx hb dX1_decimalLength_23 rfl (lv_at hl 1 rfl) ?_
                refine lv_if_eq (tgt := 41) hx hb dX1_decimalLength_24 (by decide) (fun c17 => ?_) (fun c17 => ?_)
                · refine lv_iload_n hx hb dX1_decimalLength_41 rfl (lv_at hl 2 rfl) ?_
                  exact W.iret (v := 8) hx hb hr (fun tE ht hW => ⟨8, rfl, by first | (simp only [fDec, fDig, c1, c11, c12, c13, c14, c15, c16, c17, eq_self, ↓reduceIte, Bool.false_eq_true, Bool.not_false, Bool.not_true, Bool.and_true, Bool.and_false, Bool.true_and, Bool.false_and, decide_true, decide_false] <;> first | done | decide) | (simp [fDec, fDig, c1, c11, c12, c13, c14, c15, c16, c17]; done) | (exfalso; simp_all; done), ht⟩) (fun q h => by cases h) dX1_decimalLength_42
                · refine lv_iinc (v := 9) (lv' := [(1, .int 9), (3, .int 7), (2, .int (((((((p0 / 10) / 10) / 10) / 10) / 10) / 10) / 10)), (0, .int p0)]) hx hb dX1_decimalLength_27 hl (k := 2) rfl (by decide) (by decide) rfl (fun ls hl => ?_)
                  refine lv_iload_n hx hb dX1_decimalLength_30 rfl (lv_at hl 2 rfl) ?_
                  refine lv_bipush (v := 10) hx hb dX1_decimalLength_31 (by decide) ?_
                  refine lv_idiv hx hb dX1_decimalLength_33 (by decide) ?_
                  refine lv_istore_n (lv' := [(2, .int ((((((((p0 / 10) / 10) / 10) / 10) / 10) / 10) / 10) / 10)), (1, .int 9), (3, .int 7), (0, .int p0)]) hx hb dX1_decimalLength_34 rfl hl (by decide) rfl (fun ls hl => ?_)
                  refine lv_iinc (v := 8) (lv' := [(3, .int 8), (2, .int ((((((((p0 / 10) / 10) / 10) / 10) / 10) / 10) / 10) / 10)), (1, .int 9), (0, .int p0)]) hx hb dX1_decimalLength_35 hl (k := 2) rfl (by decide) (by decide) rfl (fun ls hl => ?_)
                  refine lv_goto (tgt := 17) hx hb dX1_decimalLength_38 (by decide) ?_
                  refine lv_iload_n hx hb dX1_decimalLength_17 rfl (lv_at hl 0 rfl) ?_
                  refine lv_bipush (v := 10) hx hb dX1_decimalLength_18 (by decide) ?_
                  refine lv_icmp_ge (tgt := 41) hx hb dX1_decimalLength_20 (by decide) (fun cz => absurd cz (by decide)) (fun _ => ?_)
                  refine lv_iload_n hx hb dX1_decimalLength_23 rfl (lv_at hl 1 rfl) ?_
                  refine lv_if_eq (tgt := 41) hx hb dX1_decimalLength_24 (by decide) (fun c18 => ?_) (fun c18 => ?_)
                  · refine lv_iload_n hx hb dX1_decimalLength_41 rfl (lv_at hl 2 rfl) ?_
                    exact W.iret (v := 9) hx hb hr (fun tE ht hW => ⟨9, rfl, by first | (simp only [fDec, fDig, c1, c11, c12, c13, c14, c15, c16, c17, c18, eq_self, ↓reduceIte, Bool.false_eq_true, Bool.not_false, Bool.not_true, Bool.and_true, Bool.and_false, Bool.true_and, Bool.false_and, decide_true, decide_false] <;> first | done | decide) | (simp [fDec, fDig, c1, c11, c12, c13, c14, c15, c16, c17, c18]; done) | (exfalso; simp_all; done), ht⟩) (fun q h => by cases h) dX1_decimalLength_42
                  · refine lv_iinc (v := 10) (lv' := [(1, .int 10), (3, .int 8), (2, .int ((((((((p0 / 10) / 10) / 10) / 10) / 10) / 10) / 10) / 10)), (0, .int p0)]) hx hb dX1_decimalLength_27 hl (k := 2) rfl (by decide) (by decide) rfl (fun ls hl => ?_)
                    refine lv_iload_n hx hb dX1_decimalLength_30 rfl (lv_at hl 2 rfl) ?_
                    refine lv_bipush (v := 10) hx hb dX1_decimalLength_31 (by decide) ?_
                    refine lv_idiv hx hb dX1_decimalLength_33 (by decide) ?_
                    refine lv_istore_n (lv' := [(2, .int (((((((((p0 / 10) / 10) / 10) / 10) / 10) / 10) / 10) / 10) / 10)), (1, .int 10), (3, .int 8), (0, .int p0)]) hx hb dX1_decimalLength_34 rfl hl (by decide) rfl (fun ls hl => ?_)
                    refine lv_iinc (v := 9) (lv' := [(3, .int 9), (2, .int (((((((((p0 / 10) / 10) / 10) / 10) / 10) / 10) / 10) / 10) / 10)), (1, .int 10), (0, .int p0)]) hx hb dX1_decimalLength_35 hl (k := 2) rfl (by decide) (by decide) rfl (fun ls hl => ?_)
                    refine lv_goto (tgt := 17) hx hb dX1_decimalLength_38 (by decide) ?_
                    refine lv_iload_n hx hb dX1_decimalLength_17 rfl (lv_at hl 0 rfl) ?_
                    refine lv_bipush (v := 10) hx hb dX1_decimalLength_18 (by decide) ?_
                    refine lv_icmp_ge (tgt := 41) hx hb dX1_decimalLength_20 (by decide) (fun cz => absurd cz (by decide)) (fun _ => ?_)
                    refine lv_iload_n hx hb dX1_decimalLength_23 rfl (lv_at hl 1 rfl) ?_
                    refine lv_if_eq (tgt := 41) hx hb dX1_decimalLength_24 (by decide) (fun c19 => ?_) (fun c19 => ?_)
                    · refine lv_iload_n hx hb dX1_decimalLength_41 rfl (lv_at hl 2 rfl) ?_
                      exact W.iret (v := 10) hx hb hr (fun tE ht hW => ⟨10, rfl, by first | (simp only [fDec, fDig, c1, c11, c12, c13, c14, c15, c16, c17, c18, c19, eq_self, ↓reduceIte, Bool.false_eq_true, Bool.not_false, Bool.not_true, Bool.and_true, Bool.and_false, Bool.true_and, Bool.false_and, decide_true, decide_false] <;> first | done | decide) | (simp [fDec, fDig, c1, c11, c12, c13, c14, c15, c16, c17, c18, c19]; done) | (exfalso; simp_all; done), ht⟩) (fun q h => by cases h) dX1_decimalLength_42
                    · refine lv_iinc (v := 11) (lv' := [(1, .int 11), (3, .int 9), (2, .int (((((((((p0 / 10) / 10) / 10) / 10) / 10) / 10) / 10) / 10) / 10)), (0, .int p0)]) hx hb dX1_decimalLength_27 hl (k := 2) rfl (by decide) (by decide) rfl (fun ls hl => ?_)
                      refine lv_iload_n hx hb dX1_decimalLength_30 rfl (lv_at hl 2 rfl) ?_
                      refine lv_bipush (v := 10) hx hb dX1_decimalLength_31 (by decide) ?_
                      refine lv_idiv hx hb dX1_decimalLength_33 (by decide) ?_
                      refine lv_istore_n (lv' := [(2, .int ((((((((((p0 / 10) / 10) / 10) / 10) / 10) / 10) / 10) / 10) / 10) / 10)), (1, .int 11), (3, .int 9), (0, .int p0)]) hx hb dX1_decimalLength_34 rfl hl (by decide) rfl (fun ls hl => ?_)
                      refine lv_iinc (v := 10) (lv' := [(3, .int 10), (2, .int ((((((((((p0 / 10) / 10) / 10) / 10) / 10) / 10) / 10) / 10) / 10) / 10)), (1, .int 11), (0, .int p0)]) hx hb dX1_decimalLength_35 hl (k := 2) rfl (by decide) (by decide) rfl (fun ls hl => ?_)
                      refine lv_goto (tgt := 17) hx hb dX1_decimalLength_38 (by decide) ?_
                      refine lv_iload_n hx hb dX1_decimalLength_17 rfl (lv_at hl 0 rfl) ?_
                      refine lv_bipush (v := 10) hx hb dX1_decimalLength_18 (by decide) ?_
                      refine lv_icmp_ge (tgt := 41) hx hb dX1_decimalLength_20 (by decide) (fun _ => ?_) (fun cz => absurd cz (by decide))
                      refine lv_iload_n hx hb dX1_decimalLength_41 rfl (lv_at hl 2 rfl) ?_
                      exact W.iret (v := 11) hx hb hr (fun tE ht hW => ⟨11, rfl, by first | (simp only [fDec, fDig, c1, c11, c12, c13, c14, c15, c16, c17, c18, c19, eq_self, ↓reduceIte, Bool.false_eq_true, Bool.not_false, Bool.not_true, Bool.and_true, Bool.and_false, Bool.true_and, Bool.false_and, decide_true, decide_false] <;> first | done | decide) | (simp [fDec, fDig, c1, c11, c12, c13, c14, c15, c16, c17, c18, c19]; done) | (exfalso; simp_all; done), ht⟩) (fun q h => by cases h) dX1_decimalLength_42
end
section
set_option maxHeartbeats 8000000 in
set_option maxRecDepth 100000 in
theorem k_isOfType (l : Launch) (D : va_G) (q : Nat) (t : TH) (hkd : isB t.1 10 = true) (p0 : Int32) : Met l yX1_isOfType wsX1_isOfType ({ frames := 1, cells := 0, slots := 0, locals := 21 }) (rPc D q t [.ref q, .int p0]) (vp_Si (fun r => r = bI (fIs t p0))) 0 0 (fun _ => False) := by
  refine Met.ofW (cc := cX1_isOfType) (maxL := 2) (ret := (some .boolean)) (by decide) rfl ?_
  intro p e s m args below meth c s₁ B hml hv
  obtain ⟨rfl, hP, hK, hN, hZ⟩ := hv
  have hx := B.exec
  have hb := B.bytes
  have hr := B.returns
  have hts := atoms_spec (ws := wsX1_isOfType) B.pre
  have hown : s.vm.findClass RX1 = some m.cls := findClass_of_methodNamed B.named
  have hlocks := B.notSynchronized
  have hS : va_S (fun _ => False) s.heap s.heap [] := va_S.rf
  obtain ⟨tk, tm, tr, hztk, httk, hztm, httm, hztr, httr⟩ := id hZ
  have hl := lv_entry ([.ref q, .int p0]) (n := 2) (Nat.le_of_ble_eq_true rfl)
  rw [lg_entry_eq]
  generalize (lg_sl ([.ref q, .int p0]) ++ List.replicate (2 - (lg_sl ([.ref q, .int p0])).length) Slot.unset).toArray = ls at hl ⊢
  have hl : lv_has ls 2 [(0, .ref q), (1, .int p0)] := hl
  refine va_gets hx hb hztk hS hown (hts (.fieldLink RX1 115 "FamilyProbes" "TYPES_OF_KIND" "[I") (by decide +kernel)) (fun _ h9 => h9) dX1_isOfType_0 ?_
  refine lv_aload_n hx hb dX1_isOfType_3 rfl (lv_at hl 0 rfl) ?_
  refine va_getN (D := D) (ci := 0) (v := .int t.1) (C := RX0) (T := TX0) (N := 6) hx hb hts (by decide +kernel) hown hK hP 0 rfl rfl 0 (by decide) (va_Nw.use rfl (hN (.fieldLinkNest RX1 118 "FamilyProbes$Thing" "kind" "I" "FamilyProbes") (by decide +kernel))) (fun _ h9 => h9) rfl dX1_isOfType_4 ?_
  refine va_ti (v := .int (tokV t.1.toNatClampNeg)) hx hb httk hS (isB_in10 hkd) rfl dX1_isOfType_7 ?_
  refine lv_iload_n hx hb dX1_isOfType_8 rfl (lv_at hl 1 rfl) ?_
  refine vp_callSi (va_Run.run (va_runS (As := [.int (tokV t.1.toNatClampNeg), .int p0]) (rest := []) ⟨hx, hb, hml, hown, hts⟩ (k_holds l (tokV t.1.toNatClampNeg) p0) (va_cwS 2 hts gX1_isOfType_X1_holds rfl rfl rfl (by decide +kernel) ⟨Nat.le_of_ble_eq_true rfl, Nat.le_of_ble_eq_true rfl⟩) preEq rfl rfl hl.1 rfl (lv_room (Nat.le_of_ble_eq_true rfl)) dX1_isOfType_9 ⟨Nat.le_of_ble_eq_true rfl, Nat.le_of_ble_eq_true rfl⟩)) (fun r1 hw2 => ?_)
  rcases bI_c hw2 with ⟨rfl, b3⟩ | ⟨rfl, b3⟩
  · exact W.zret (v := 1) hx hb hr rfl (fun tE ht hW => ⟨1, rfl, by first | (simp only [fIs, bI, b3, eq_self, ↓reduceIte, Bool.false_eq_true, Bool.not_false, Bool.not_true, Bool.and_true, Bool.and_false, Bool.true_and, Bool.false_and, decide_true, decide_false] <;> first | done | decide) | (simp [fIs, bI, b3]; done) | (exfalso; simp_all; done), ht⟩) (fun q h => by cases h) dX1_isOfType_12
  · exact W.zret (v := 0) hx hb hr rfl (fun tE ht hW => ⟨0, rfl, by first | (simp only [fIs, bI, b3, eq_self, ↓reduceIte, Bool.false_eq_true, Bool.not_false, Bool.not_true, Bool.and_true, Bool.and_false, Bool.true_and, Bool.false_and, decide_true, decide_false] <;> first | done | decide) | (simp [fIs, bI, b3]; done) | (exfalso; simp_all; done), ht⟩) (fun q h => by cases h) dX1_isOfType_12
set_option maxHeartbeats 8000000 in
set_option maxRecDepth 100000 in
theorem k_volumeOf (l : Launch) (D : va_G) (q : Nat) (t : TH) (p0 : Int32) : Met l yX1_volumeOf wsX1_volumeOf ({ frames := 0, cells := 0, slots := 0, locals := 0 }) (rPc D q t [.ref q, .int p0]) (vp_Si (fun r => r = (fVol t p0))) 0 0 (fun _ => False) := by
  refine Met.ofW (cc := cX1_volumeOf) (maxL := 2) (ret := (some .int)) (by decide) rfl ?_
  intro p e s m args below meth c s₁ B hml hv
  obtain ⟨rfl, hP, hK, hN, hZ⟩ := hv
  have hx := B.exec
  have hb := B.bytes
  have hr := B.returns
  have hts := atoms_spec (ws := wsX1_volumeOf) B.pre
  have hown : s.vm.findClass RX1 = some m.cls := findClass_of_methodNamed B.named
  have hlocks := B.notSynchronized
  have hS : va_S (fun _ => False) s.heap s.heap [] := va_S.rf
  obtain ⟨tk, tm, tr, hztk, httk, hztm, httm, hztr, httr⟩ := id hZ
  have hl := lv_entry ([.ref q, .int p0]) (n := 2) (Nat.le_of_ble_eq_true rfl)
  rw [lg_entry_eq]
  generalize (lg_sl ([.ref q, .int p0]) ++ List.replicate (2 - (lg_sl ([.ref q, .int p0])).length) Slot.unset).toArray = ls at hl ⊢
  have hl : lv_has ls 2 [(0, .ref q), (1, .int p0)] := hl
  refine lv_aload_n hx hb dX1_volumeOf_0 rfl (lv_at hl 0 rfl) ?_
  refine va_getN (D := D) (ci := 0) (v := .int t.1) (C := RX0) (T := TX0) (N := 6) hx hb hts (by decide +kernel) hown hK hP 0 rfl rfl 0 (by decide) (va_Nw.use rfl (hN (.fieldLinkNest RX1 118 "FamilyProbes$Thing" "kind" "I" "FamilyProbes") (by decide +kernel))) (fun _ h9 => h9) rfl dX1_volumeOf_1 ?_
  by_cases c1 : t.1 = 1
  · refine lv_lookup (off := 36) (tgt := 40) hx hb dX1_volumeOf_4 (by decide) (by rw [c1]; rfl) (by decide) ?_
    refine lv_iload_n hx hb dX1_volumeOf_40 rfl (lv_at hl 1 rfl) ?_
    refine lv_bipush (v := 10) hx hb dX1_volumeOf_41 (by decide) ?_
    refine lv_isub hx hb dX1_volumeOf_43 ?_
    exact W.iret (v := (p0 - 10)) hx hb hr (fun tE ht hW => ⟨(p0 - 10), rfl, by first | (simp only [fVol, c1, eq_self, ↓reduceIte, Bool.false_eq_true, Bool.not_false, Bool.not_true, Bool.and_true, Bool.and_false, Bool.true_and, Bool.false_and, decide_true, decide_false] <;> first | done | decide) | (simp [fVol, c1]; done) | (exfalso; simp_all; done), ht⟩) (fun q h => by cases h) dX1_volumeOf_44
  by_cases c2 : t.1 = 2
  · refine lv_lookup (off := 41) (tgt := 45) hx hb dX1_volumeOf_4 (by decide) (by rw [c2]; rfl) (by decide) ?_
    refine lv_iload_n hx hb dX1_volumeOf_45 rfl (lv_at hl 1 rfl) ?_
    refine lv_bipush (v := 10) hx hb dX1_volumeOf_46 (by decide) ?_
    refine lv_iadd hx hb dX1_volumeOf_48 ?_
    refine lv_iconst (v := 3) hx hb dX1_volumeOf_49 (by decide) ?_
    refine lv_imul hx hb dX1_volumeOf_50 ?_
    exact W.iret (v := ((p0 + 10) * 3)) hx hb hr (fun tE ht hW => ⟨((p0 + 10) * 3), rfl, by first | (simp only [fVol, c1, c2, eq_self, ↓reduceIte, Bool.false_eq_true, Bool.not_false, Bool.not_true, Bool.and_true, Bool.and_false, Bool.true_and, Bool.false_and, decide_true, decide_false] <;> first | done | decide) | (simp [fVol, c1, c2]; done) | (exfalso; simp_all; done), ht⟩) (fun q h => by cases h) dX1_volumeOf_51
  by_cases c3 : t.1 = 9
  · refine lv_lookup (off := 36) (tgt := 40) hx hb dX1_volumeOf_4 (by decide) (by rw [c3]; rfl) (by decide) ?_
    refine lv_iload_n hx hb dX1_volumeOf_40 rfl (lv_at hl 1 rfl) ?_
    refine lv_bipush (v := 10) hx hb dX1_volumeOf_41 (by decide) ?_
    refine lv_isub hx hb dX1_volumeOf_43 ?_
    exact W.iret (v := (p0 - 10)) hx hb hr (fun tE ht hW => ⟨(p0 - 10), rfl, by first | (simp only [fVol, c1, c2, c3, eq_self, ↓reduceIte, Bool.false_eq_true, Bool.not_false, Bool.not_true, Bool.and_true, Bool.and_false, Bool.true_and, Bool.false_and, decide_true, decide_false] <;> first | done | decide) | (simp [fVol, c1, c2, c3]; done) | (exfalso; simp_all; done), ht⟩) (fun q h => by cases h) dX1_volumeOf_44
  refine lv_lookup (off := 48) (tgt := 52) hx hb dX1_volumeOf_4 (by decide) (by show Op.lookupswitch.offset [(1, 36), (2, 41), (9, 36)] 48 _ = 48; rw [lv_osw (k := 1) c1 (by decide), lv_osw (k := 2) c2 (by decide), lv_osw (k := 9) c3 (by decide)]; rfl) (by decide) ?_
  refine lv_iload_n hx hb dX1_volumeOf_52 rfl (lv_at hl 1 rfl) ?_
  refine lv_bipush (v := 10) hx hb dX1_volumeOf_53 (by decide) ?_
  refine lv_iadd hx hb dX1_volumeOf_55 ?_
  exact W.iret (v := (p0 + 10)) hx hb hr (fun tE ht hW => ⟨(p0 + 10), rfl, by first | (simp only [fVol, c1, c2, c3, eq_self, ↓reduceIte, Bool.false_eq_true, Bool.not_false, Bool.not_true, Bool.and_true, Bool.and_false, Bool.true_and, Bool.false_and, decide_true, decide_false] <;> first | done | decide) | (simp [fVol, c1, c2, c3]; done) | (exfalso; simp_all; done), ht⟩) (fun q h => by cases h) dX1_volumeOf_56
set_option maxHeartbeats 8000000 in
set_option maxRecDepth 100000 in
theorem k_weightAsBase (l : Launch) (D : va_G) (q : Nat) (t : TH) : Met l yX1_weightAsBase wsX1_weightAsBase ({ frames := 0, cells := 0, slots := 0, locals := 0 }) (rPc D q t [.ref q]) (vp_Si (fun r => r = (fWB t))) 0 0 (fun _ => False) := by
  refine Met.ofW (cc := cX1_weightAsBase) (maxL := 1) (ret := (some .int)) (by decide) rfl ?_
  intro p e s m args below meth c s₁ B hml hv
  obtain ⟨rfl, hP, hK, hN, hZ⟩ := hv
  have hx := B.exec
  have hb := B.bytes
  have hr := B.returns
  have hts := atoms_spec (ws := wsX1_weightAsBase) B.pre
  have hown : s.vm.findClass RX1 = some m.cls := findClass_of_methodNamed B.named
  have hlocks := B.notSynchronized
  have hS : va_S (fun _ => False) s.heap s.heap [] := va_S.rf
  obtain ⟨tk, tm, tr, hztk, httk, hztm, httm, hztr, httr⟩ := id hZ
  have hl := lv_entry ([.ref q]) (n := 1) (Nat.le_of_ble_eq_true rfl)
  rw [lg_entry_eq]
  generalize (lg_sl ([.ref q]) ++ List.replicate (1 - (lg_sl ([.ref q])).length) Slot.unset).toArray = ls at hl ⊢
  have hl : lv_has ls 1 [(0, .ref q)] := hl
  refine lv_iconst (v := 2) hx hb dX1_weightAsBase_0 (by decide) ?_
  refine lv_aload_n hx hb dX1_weightAsBase_1 rfl (lv_at hl 0 rfl) ?_
  refine va_getN (D := D) (ci := 0) (v := .int t.2.1) (C := RX0) (T := TX0) (N := 6) hx hb hts (by decide +kernel) hown hK hP 0 rfl rfl 1 (by decide) (va_Nw.use rfl (hN (.fieldLinkNest RX1 83 "FamilyProbes$Thing" "n" "I" "FamilyProbes") (by decide +kernel))) (fun _ h9 => h9) rfl dX1_weightAsBase_2 ?_
  refine lv_imul hx hb dX1_weightAsBase_5 ?_
  exact W.iret (v := (2 * t.2.1)) hx hb hr (fun tE ht hW => ⟨(2 * t.2.1), rfl, by first | (simp only [fWB, eq_self, ↓reduceIte, Bool.false_eq_true, Bool.not_false, Bool.not_true, Bool.and_true, Bool.and_false, Bool.true_and, Bool.false_and, decide_true, decide_false] <;> first | done | decide) | (simp [fWB]; done) | (exfalso; simp_all; done), ht⟩) (fun q h => by cases h) dX1_weightAsBase_6
set_option maxHeartbeats 8000000 in
set_option maxRecDepth 100000 in
theorem k_weightAsCat (l : Launch) (D : va_G) (q : Nat) (t : TH) : Met l yX1_weightAsCat wsX1_weightAsCat ({ frames := 0, cells := 0, slots := 0, locals := 0 }) (rPc D q t [.ref q]) (vp_Si (fun r => r = (fWC t))) 0 0 (fun _ => False) := by
  refine Met.ofW (cc := cX1_weightAsCat) (maxL := 1) (ret := (some .int)) (by decide) rfl ?_
  intro p e s m args below meth c s₁ B hml hv
  obtain ⟨rfl, hP, hK, hN, hZ⟩ := hv
  have hx := B.exec
  have hb := B.bytes
  have hr := B.returns
  have hts := atoms_spec (ws := wsX1_weightAsCat) B.pre
  have hown : s.vm.findClass RX1 = some m.cls := findClass_of_methodNamed B.named
  have hlocks := B.notSynchronized
  have hS : va_S (fun _ => False) s.heap s.heap [] := va_S.rf
  obtain ⟨tk, tm, tr, hztk, httk, hztm, httm, hztr, httr⟩ := id hZ
  have hl := lv_entry ([.ref q]) (n := 1) (Nat.le_of_ble_eq_true rfl)
  rw [lg_entry_eq]
  generalize (lg_sl ([.ref q]) ++ List.replicate (1 - (lg_sl ([.ref q])).length) Slot.unset).toArray = ls at hl ⊢
  have hl : lv_has ls 1 [(0, .ref q)] := hl
  refine lv_iconst (v := 3) hx hb dX1_weightAsCat_0 (by decide) ?_
  refine lv_aload_n hx hb dX1_weightAsCat_1 rfl (lv_at hl 0 rfl) ?_
  refine va_getN (D := D) (ci := 0) (v := .int t.2.1) (C := RX0) (T := TX0) (N := 6) hx hb hts (by decide +kernel) hown hK hP 0 rfl rfl 1 (by decide) (va_Nw.use rfl (hN (.fieldLinkNest RX1 83 "FamilyProbes$Thing" "n" "I" "FamilyProbes") (by decide +kernel))) (fun _ h9 => h9) rfl dX1_weightAsCat_2 ?_
  refine lv_imul hx hb dX1_weightAsCat_5 ?_
  exact W.iret (v := (3 * t.2.1)) hx hb hr (fun tE ht hW => ⟨(3 * t.2.1), rfl, by first | (simp only [fWC, eq_self, ↓reduceIte, Bool.false_eq_true, Bool.not_false, Bool.not_true, Bool.and_true, Bool.and_false, Bool.true_and, Bool.false_and, decide_true, decide_false] <;> first | done | decide) | (simp [fWC]; done) | (exfalso; simp_all; done), ht⟩) (fun q h => by cases h) dX1_weightAsCat_6
set_option maxHeartbeats 8000000 in
set_option maxRecDepth 100000 in
theorem k_weightOf (l : Launch) (D : va_G) (q : Nat) (t : TH) : Met l yX1_weightOf wsX1_weightOf ({ frames := 1, cells := 0, slots := 0, locals := 20 }) (rPc D q t [.ref q]) (vp_Si (fun r => r = (fWgt t))) 0 0 (fun _ => False) := by
  refine Met.ofW (cc := cX1_weightOf) (maxL := 1) (ret := (some .int)) (by decide) rfl ?_
  intro p e s m args below meth c s₁ B hml hv
  obtain ⟨rfl, hP, hK, hN, hZ⟩ := hv
  have hx := B.exec
  have hb := B.bytes
  have hr := B.returns
  have hts := atoms_spec (ws := wsX1_weightOf) B.pre
  have hown : s.vm.findClass RX1 = some m.cls := findClass_of_methodNamed B.named
  have hlocks := B.notSynchronized
  have hS : va_S (fun _ => False) s.heap s.heap [] := va_S.rf
  obtain ⟨tk, tm, tr, hztk, httk, hztm, httm, hztr, httr⟩ := id hZ
  have hl := lv_entry ([.ref q]) (n := 1) (Nat.le_of_ble_eq_true rfl)
  rw [lg_entry_eq]
  generalize (lg_sl ([.ref q]) ++ List.replicate (1 - (lg_sl ([.ref q])).length) Slot.unset).toArray = ls at hl ⊢
  have hl : lv_has ls 1 [(0, .ref q)] := hl
  refine lv_aload_n hx hb dX1_weightOf_0 rfl (lv_at hl 0 rfl) ?_
  refine va_getN (D := D) (ci := 0) (v := .int t.1) (C := RX0) (T := TX0) (N := 6) hx hb hts (by decide +kernel) hown hK hP 0 rfl rfl 0 (by decide) (va_Nw.use rfl (hN (.fieldLinkNest RX1 118 "FamilyProbes$Thing" "kind" "I" "FamilyProbes") (by decide +kernel))) (fun _ h9 => h9) rfl dX1_weightOf_1 ?_
  by_cases c1 : t.1 = 0
  · refine lv_lookup (off := 36) (tgt := 40) hx hb dX1_weightOf_4 (by decide) (by rw [c1]; rfl) (by decide) ?_
    refine lv_aload_n hx hb dX1_weightOf_40 rfl (lv_at hl 0 rfl) ?_
    refine vp_callSi (va_Run.run (va_runS (As := [.ref q]) (rest := []) ⟨hx, hb, hml, hown, hts⟩ (k_weightAsBase l D q t ) (va_cwS 1 hts gX1_weightOf_X1_weightAsBase rfl rfl rfl (by decide +kernel) ⟨Nat.le_of_ble_eq_true rfl, Nat.le_of_ble_eq_true rfl⟩) (rPre hN hK hP hS hZ xFalse _) rfl rfl hl.1 rfl (lv_room (Nat.le_of_ble_eq_true rfl)) dX1_weightOf_41 ⟨Nat.le_of_ble_eq_true rfl, Nat.le_of_ble_eq_true rfl⟩)) (fun r2 hw3 => ?_)
    subst hw3
    refine lv_iconst (v := 1) hx hb dX1_weightOf_44 (by decide) ?_
    refine lv_iadd hx hb dX1_weightOf_45 ?_
    exact W.iret (v := ((fWB t) + 1)) hx hb hr (fun tE ht hW => ⟨((fWB t) + 1), rfl, by first | (simp only [fWgt, c1, eq_self, ↓reduceIte, Bool.false_eq_true, Bool.not_false, Bool.not_true, Bool.and_true, Bool.and_false, Bool.true_and, Bool.false_and, decide_true, decide_false] <;> first | done | decide) | (simp [fWgt, c1]; done) | (exfalso; simp_all; done), ht⟩) (fun q h => by cases h) dX1_weightOf_46
  by_cases c4 : t.1 = 2
  · refine lv_lookup (off := 43) (tgt := 47) hx hb dX1_weightOf_4 (by decide) (by rw [c4]; rfl) (by decide) ?_
    refine lv_iconst (v := 2) hx hb dX1_weightOf_47 (by decide) ?_
    refine lv_aload_n hx hb dX1_weightOf_48 rfl (lv_at hl 0 rfl) ?_
    refine vp_callSi (va_Run.run (va_runS (As := [.ref q]) (rest := [.int 2]) ⟨hx, hb, hml, hown, hts⟩ (k_weightAsCat l D q t ) (va_cwS 1 hts gX1_weightOf_X1_weightAsCat rfl rfl rfl (by decide +kernel) ⟨Nat.le_of_ble_eq_true rfl, Nat.le_of_ble_eq_true rfl⟩) (rPre hN hK hP hS hZ xFalse _) rfl rfl hl.1 rfl (lv_room (Nat.le_of_ble_eq_true rfl)) dX1_weightOf_49 ⟨Nat.le_of_ble_eq_true rfl, Nat.le_of_ble_eq_true rfl⟩)) (fun r5 hw6 => ?_)
    subst hw6
    refine lv_imul hx hb dX1_weightOf_52 ?_
    exact W.iret (v := (2 * (fWC t))) hx hb hr (fun tE ht hW => ⟨(2 * (fWC t)), rfl, by first | (simp only [fWgt, c1, c4, eq_self, ↓reduceIte, Bool.false_eq_true, Bool.not_false, Bool.not_true, Bool.and_true, Bool.and_false, Bool.true_and, Bool.false_and, decide_true, decide_false] <;> first | done | decide) | (simp [fWgt, c1, c4]; done) | (exfalso; simp_all; done), ht⟩) (fun q h => by cases h) dX1_weightOf_53
  by_cases c7 : t.1 = 9
  · refine lv_lookup (off := 50) (tgt := 54) hx hb dX1_weightOf_4 (by decide) (by rw [c7]; rfl) (by decide) ?_
    refine lv_aload_n hx hb dX1_weightOf_54 rfl (lv_at hl 0 rfl) ?_
    refine vp_callSi (va_Run.run (va_runS (As := [.ref q]) (rest := []) ⟨hx, hb, hml, hown, hts⟩ (k_weightAsCat l D q t ) (va_cwS 1 hts gX1_weightOf_X1_weightAsCat rfl rfl rfl (by decide +kernel) ⟨Nat.le_of_ble_eq_true rfl, Nat.le_of_ble_eq_true rfl⟩) (rPre hN hK hP hS hZ xFalse _) rfl rfl hl.1 rfl (lv_room (Nat.le_of_ble_eq_true rfl)) dX1_weightOf_55 ⟨Nat.le_of_ble_eq_true rfl, Nat.le_of_ble_eq_true rfl⟩)) (fun r8 hw9 => ?_)
    subst hw9
    refine lv_aload_n hx hb dX1_weightOf_58 rfl (lv_at hl 0 rfl) ?_
    refine va_getN (D := D) (ci := 0) (v := .int t.2.2.2.2.2) (C := RX0) (T := TX0) (N := 6) hx hb hts (by decide +kernel) hown hK hP 0 rfl rfl 5 (by decide) (va_Nw.use rfl (hN (.fieldLinkNest RX1 138 "FamilyProbes$Thing" "extra" "I" "FamilyProbes") (by decide +kernel))) (fun _ h9 => h9) rfl dX1_weightOf_59 ?_
    refine lv_iadd hx hb dX1_weightOf_62 ?_
    exact W.iret (v := ((fWC t) + t.2.2.2.2.2)) hx hb hr (fun tE ht hW => ⟨((fWC t) + t.2.2.2.2.2), rfl, by first | (simp only [fWgt, c1, c4, c7, eq_self, ↓reduceIte, Bool.false_eq_true, Bool.not_false, Bool.not_true, Bool.and_true, Bool.and_false, Bool.true_and, Bool.false_and, decide_true, decide_false] <;> first | done | decide) | (simp [fWgt, c1, c4, c7]; done) | (exfalso; simp_all; done), ht⟩) (fun q h => by cases h) dX1_weightOf_63
  refine lv_lookup (off := 60) (tgt := 64) hx hb dX1_weightOf_4 (by decide) (by show Op.lookupswitch.offset [(0, 36), (2, 43), (9, 50)] 60 _ = 60; rw [lv_osw (k := 0) c1 (by decide), lv_osw (k := 2) c4 (by decide), lv_osw (k := 9) c7 (by decide)]; rfl) (by decide) ?_
  refine lv_aload_n hx hb dX1_weightOf_64 rfl (lv_at hl 0 rfl) ?_
  refine vp_callSi (va_Run.run (va_runS (As := [.ref q]) (rest := []) ⟨hx, hb, hml, hown, hts⟩ (k_weightAsCat l D q t ) (va_cwS 1 hts gX1_weightOf_X1_weightAsCat rfl rfl rfl (by decide +kernel) ⟨Nat.le_of_ble_eq_true rfl, Nat.le_of_ble_eq_true rfl⟩) (rPre hN hK hP hS hZ xFalse _) rfl rfl hl.1 rfl (lv_room (Nat.le_of_ble_eq_true rfl)) dX1_weightOf_65 ⟨Nat.le_of_ble_eq_true rfl, Nat.le_of_ble_eq_true rfl⟩)) (fun r10 hw11 => ?_)
  subst hw11
  exact W.iret (v := (fWC t)) hx hb hr (fun tE ht hW => ⟨(fWC t), rfl, by first | (simp only [fWgt, c1, c4, c7, eq_self, ↓reduceIte, Bool.false_eq_true, Bool.not_false, Bool.not_true, Bool.and_true, Bool.and_false, Bool.true_and, Bool.false_and, decide_true, decide_false] <;> first | done | decide) | (simp [fWgt, c1, c4, c7]; done) | (exfalso; simp_all; done), ht⟩) (fun q h => by cases h) dX1_weightOf_68
set_option maxHeartbeats 8000000 in
set_option maxRecDepth 100000 in
theorem k_seedOf (l : Launch) (D : va_G) (q : Nat) (t : TH) : Met l yX1_seedOf wsX1_seedOf ({ frames := 0, cells := 0, slots := 0, locals := 0 }) (rPc D q t [.ref q]) (vp_Si (fun r => r = (fSeed t))) 0 0 (fun _ => False) := by
  refine Met.ofW (cc := cX1_seedOf) (maxL := 1) (ret := (some .int)) (by decide) rfl ?_
  intro p e s m args below meth c s₁ B hml hv
  obtain ⟨rfl, hP, hK, hN, hZ⟩ := hv
  have hx := B.exec
  have hb := B.bytes
  have hr := B.returns
  have hts := atoms_spec (ws := wsX1_seedOf) B.pre
  have hown : s.vm.findClass RX1 = some m.cls := findClass_of_methodNamed B.named
  have hlocks := B.notSynchronized
  have hS : va_S (fun _ => False) s.heap s.heap [] := va_S.rf
  obtain ⟨tk, tm, tr, hztk, httk, hztm, httm, hztr, httr⟩ := id hZ
  have hl := lv_entry ([.ref q]) (n := 1) (Nat.le_of_ble_eq_true rfl)
  rw [lg_entry_eq]
  generalize (lg_sl ([.ref q]) ++ List.replicate (1 - (lg_sl ([.ref q])).length) Slot.unset).toArray = ls at hl ⊢
  have hl : lv_has ls 1 [(0, .ref q)] := hl
  refine lv_aload_n hx hb dX1_seedOf_0 rfl (lv_at hl 0 rfl) ?_
  refine va_getN (D := D) (ci := 0) (v := .int t.1) (C := RX0) (T := TX0) (N := 6) hx hb hts (by decide +kernel) hown hK hP 0 rfl rfl 0 (by decide) (va_Nw.use rfl (hN (.fieldLinkNest RX1 118 "FamilyProbes$Thing" "kind" "I" "FamilyProbes") (by decide +kernel))) (fun _ h9 => h9) rfl dX1_seedOf_1 ?_
  by_cases c1 : t.1 = 0
  · refine lv_lookup (off := 28) (tgt := 32) hx hb dX1_seedOf_4 (by decide) (by rw [c1]; rfl) (by decide) ?_
    refine lv_bipush (v := 20) hx hb dX1_seedOf_32 (by decide) ?_
    refine lv_aload_n hx hb dX1_seedOf_34 rfl (lv_at hl 0 rfl) ?_
    refine va_getN (D := D) (ci := 0) (v := .int t.2.2.2.2.1) (C := RX0) (T := TX0) (N := 6) hx hb hts (by decide +kernel) hown hK hP 0 rfl rfl 4 (by decide) (va_Nw.use rfl (hN (.fieldLinkNest RX1 135 "FamilyProbes$Thing" "bonus" "I" "FamilyProbes") (by decide +kernel))) (fun _ h9 => h9) rfl dX1_seedOf_35 ?_
    refine lv_iadd hx hb dX1_seedOf_38 ?_
    exact W.iret (v := (20 + t.2.2.2.2.1)) hx hb hr (fun tE ht hW => ⟨(20 + t.2.2.2.2.1), rfl, by first | (simp only [fSeed, c1, eq_self, ↓reduceIte, Bool.false_eq_true, Bool.not_false, Bool.not_true, Bool.and_true, Bool.and_false, Bool.true_and, Bool.false_and, decide_true, decide_false] <;> first | done | decide) | (simp [fSeed, c1]; done) | (exfalso; simp_all; done), ht⟩) (fun q h => by cases h) dX1_seedOf_39
  by_cases c2 : t.1 = 2
  · refine lv_lookup (off := 36) (tgt := 40) hx hb dX1_seedOf_4 (by decide) (by rw [c2]; rfl) (by decide) ?_
    refine lv_bipush (v := 30) hx hb dX1_seedOf_40 (by decide) ?_
    refine lv_aload_n hx hb dX1_seedOf_42 rfl (lv_at hl 0 rfl) ?_
    refine va_getN (D := D) (ci := 0) (v := .int t.2.1) (C := RX0) (T := TX0) (N := 6) hx hb hts (by decide +kernel) hown hK hP 0 rfl rfl 1 (by decide) (va_Nw.use rfl (hN (.fieldLinkNest RX1 83 "FamilyProbes$Thing" "n" "I" "FamilyProbes") (by decide +kernel))) (fun _ h9 => h9) rfl dX1_seedOf_43 ?_
    refine lv_iadd hx hb dX1_seedOf_46 ?_
    exact W.iret (v := (30 + t.2.1)) hx hb hr (fun tE ht hW => ⟨(30 + t.2.1), rfl, by first | (simp only [fSeed, c1, c2, eq_self, ↓reduceIte, Bool.false_eq_true, Bool.not_false, Bool.not_true, Bool.and_true, Bool.and_false, Bool.true_and, Bool.false_and, decide_true, decide_false] <;> first | done | decide) | (simp [fSeed, c1, c2]; done) | (exfalso; simp_all; done), ht⟩) (fun q h => by cases h) dX1_seedOf_47
  refine lv_lookup (off := 44) (tgt := 48) hx hb dX1_seedOf_4 (by decide) (by show Op.lookupswitch.offset [(0, 28), (2, 36)] 44 _ = 44; rw [lv_osw (k := 0) c1 (by decide), lv_osw (k := 2) c2 (by decide)]; rfl) (by decide) ?_
  refine lv_iconst (v := 1) hx hb dX1_seedOf_48 (by decide) ?_
  exact W.iret (v := 1) hx hb hr (fun tE ht hW => ⟨1, rfl, by first | (simp only [fSeed, c1, c2, eq_self, ↓reduceIte, Bool.false_eq_true, Bool.not_false, Bool.not_true, Bool.and_true, Bool.and_false, Bool.true_and, Bool.false_and, decide_true, decide_false] <;> first | done | decide) | (simp [fSeed, c1, c2]; done) | (exfalso; simp_all; done), ht⟩) (fun q h => by cases h) dX1_seedOf_49
end
section
set_option maxHeartbeats 8000000 in
set_option maxRecDepth 100000 in
theorem k_wentWith (l : Launch) (D : va_G) (F : XF) (u : XS) (sz : Nat) (p0 : Int32) : Met l yX1_wentWith wsX1_wentWith ({ frames := 0, cells := 0, slots := 0, locals := 0 }) (xPc D F u sz [.ref F.1, .int p0]) (va_Qi (fun (r : Int32) (v : XS) => (r, v) = sWent u p0) (xB D F (va_A (xW F u) sz)) (va_A (xW F u) sz)) 0 0 (va_A (xW F u) sz) := by
  obtain ⟨sS, sP, sQ, sE, ec, sc, vl, LP, sT⟩ := u
  refine Met.ofW (cc := cX1_wentWith) (maxL := 2) (ret := (some .int)) (by decide) rfl ?_
  intro p e s m args below meth c s₁ B hml hv
  obtain ⟨rfl, hsz, hP, hK, hD0, hN, hZ⟩ := hv
  have hx := B.exec
  have hb := B.bytes
  have hr := B.returns
  have hts := atoms_spec (ws := wsX1_wentWith) B.pre
  have hown : s.vm.findClass RX1 = some m.cls := findClass_of_methodNamed B.named
  have hlocks := B.notSynchronized
  subst hsz
  have hD := hD0.self (sz := s.heap.size)
  generalize hAe : va_A (xW F (sS, sP, sQ, sE, ec, sc, vl, LP, sT)) s.heap.size = A at hD hZ ⊢
  have hA : ∀ q : Nat, s.heap.size ≤ q → A q := fun q h => by rw [← hAe]; exact Or.inr h
  have hS : va_S A s.heap s.heap [] := va_S.rf
  obtain ⟨tk, tm, tr, hztk, httk, hztm, httm, hztr, httr⟩ := id hZ
  refine xHeap (C := fun H => va_P D vwCl (xW F (sS, sP, sQ, sE, ec, sc, vl, LP, sT)) H ∧ va_S A s.heap H []) ⟨hP, hS⟩ (fun H hC => ?_)
  obtain ⟨hP, hS⟩ := hC
  have hl := lv_entry ([.ref F.1, .int p0]) (n := 2) (Nat.le_of_ble_eq_true rfl)
  rw [lg_entry_eq]
  generalize (lg_sl ([.ref F.1, .int p0]) ++ List.replicate (2 - (lg_sl ([.ref F.1, .int p0])).length) Slot.unset).toArray = ls at hl ⊢
  have hl : lv_has ls 2 [(0, .ref F.1), (1, .int p0)] := hl
  refine lv_aload_n hx hb dX1_wentWith_0 rfl (lv_at hl 0 rfl) ?_
  refine lv_iload_n hx hb dX1_wentWith_1 rfl (lv_at hl 1 rfl) ?_
  refine va_put (D := D) (ci := 1) (v := .int p0) (ty := .int) (C := RX1) (T := TX1) (N := 9) hx hb hts (by decide +kernel) tyX1 tyX1_ok nmX1 hown hK hP hD hS 0 rfl rfl 8 (by decide) (hts (.fieldLink RX1 72 "FamilyProbes" "lastValue" "I") (by decide +kernel)) (fun _ h9 => h9) rfl (by decide +kernel) rfl rfl (Nat.le_of_ble_eq_true rfl) dX1_wentWith_2 (fun H locs hP hD hS => ?_)
  have hP : va_P D vwCl (xW F (sS, sP, sQ, sE, ec, sc, p0, LP, sT)) H := hP
  have hD : va_D A (xW F (sS, sP, sQ, sE, ec, sc, p0, LP, sT)) := hD
  refine lv_iconst (v := 0) hx hb dX1_wentWith_5 (by decide) ?_
  exact W.iret (v := 0) hx hb hr (fun tE ht hW => ⟨⟨0, (sS, sP, sQ, sE, ec, sc, p0, LP, sT), rfl, by first | (simp only [sWent, uV, gS, gP, gQ, gE, gec, gsc, gvl, gL, gT, eq_self, ↓reduceIte, Bool.false_eq_true, Bool.not_false, Bool.not_true, Bool.and_true, Bool.and_false, Bool.true_and, Bool.false_and, decide_true, decide_false] <;> first | done | decide) | (simp [sWent, uV, gS, gP, gQ, gE, gec, gsc, gvl, gL, gT]; done) | (exfalso; simp_all; done), by rw [ht]; exact hP, va_K.moved hW.alike hK, hD⟩, hS.F ht⟩) hS.2.2 dX1_wentWith_6
set_option maxHeartbeats 8000000 in
set_option maxRecDepth 100000 in
theorem k_note (l : Launch) (D : va_G) (F : XF) (u : XS) (sz : Nat) (p0 : Int32) : Met l yX1_note wsX1_note ({ frames := 0, cells := 0, slots := 0, locals := 0 }) (xPc D F u sz [.ref F.1, .int p0]) (va_Qv (fun v : XS => v = uN u p0) (xB D F (va_A (xW F u) sz)) (va_A (xW F u) sz)) 0 0 (va_A (xW F u) sz) := by
  obtain ⟨sS, sP, sQ, sE, ec, sc, vl, LP, sT⟩ := u
  refine Met.ofW (cc := cX1_note) (maxL := 2) (ret := none) (by decide) rfl ?_
  intro p e s m args below meth c s₁ B hml hv
  obtain ⟨rfl, hsz, hP, hK, hD0, hN, hZ⟩ := hv
  have hx := B.exec
  have hb := B.bytes
  have hr := B.returns
  have hts := atoms_spec (ws := wsX1_note) B.pre
  have hown : s.vm.findClass RX1 = some m.cls := findClass_of_methodNamed B.named
  have hlocks := B.notSynchronized
  subst hsz
  have hD := hD0.self (sz := s.heap.size)
  generalize hAe : va_A (xW F (sS, sP, sQ, sE, ec, sc, vl, LP, sT)) s.heap.size = A at hD hZ ⊢
  have hA : ∀ q : Nat, s.heap.size ≤ q → A q := fun q h => by rw [← hAe]; exact Or.inr h
  have hS : va_S A s.heap s.heap [] := va_S.rf
  obtain ⟨tk, tm, tr, hztk, httk, hztm, httm, hztr, httr⟩ := id hZ
  refine xHeap (C := fun H => va_P D vwCl (xW F (sS, sP, sQ, sE, ec, sc, vl, LP, sT)) H ∧ va_S A s.heap H []) ⟨hP, hS⟩ (fun H hC => ?_)
  obtain ⟨hP, hS⟩ := hC
  have hl := lv_entry ([.ref F.1, .int p0]) (n := 2) (Nat.le_of_ble_eq_true rfl)
  rw [lg_entry_eq]
  generalize (lg_sl ([.ref F.1, .int p0]) ++ List.replicate (2 - (lg_sl ([.ref F.1, .int p0])).length) Slot.unset).toArray = ls at hl ⊢
  have hl : lv_has ls 2 [(0, .ref F.1), (1, .int p0)] := hl
  refine lv_aload_n hx hb dX1_note_0 rfl (lv_at hl 0 rfl) ?_
  refine va_get (D := D) (ci := 1) (v := .ref F.2.2.2.2.2.2.1) (C := RX1) (T := TX1) (N := 9) hx hb hts (by decide +kernel) hown hK hP 0 rfl rfl 5 (by decide) (hts (.fieldLink RX1 31 "FamilyProbes" "lastEvents" "[I") (by decide +kernel)) (fun _ h9 => h9) rfl dX1_note_1 ?_
  refine lv_aload_n hx hb dX1_note_4 rfl (lv_at hl 0 rfl) ?_
  refine va_get (D := D) (ci := 1) (v := .int ec) (C := RX1) (T := TX1) (N := 9) hx hb hts (by decide +kernel) hown hK hP 0 rfl rfl 6 (by decide) (hts (.fieldLink RX1 112 "FamilyProbes" "eventCount" "I") (by decide +kernel)) (fun _ h9 => h9) rfl dX1_note_5 ?_
  refine lv_bipush (v := 15) hx hb dX1_note_8 (by decide) ?_
  refine lv_iand hx hb dX1_note_10 ?_
  refine lv_iload_n hx hb dX1_note_11 rfl (lv_at hl 1 rfl) ?_
  refine va_iast hx hb hK hP hD hS 4 3 rfl rfl (and_in16 _) dX1_note_12 (fun H locs hP hD hS => ?_)
  have hP : va_P D vwCl (xW F (sS, sP, sQ, (upd sE (ec &&& 15).toNatClampNeg p0), ec, sc, vl, LP, sT)) H := hP
  have hD : va_D A (xW F (sS, sP, sQ, (upd sE (ec &&& 15).toNatClampNeg p0), ec, sc, vl, LP, sT)) := hD
  refine lv_aload_n hx hb dX1_note_13 rfl (lv_at hl 0 rfl) ?_
  refine lv_dup hx hb dX1_note_14 rfl ?_
  refine va_get (D := D) (ci := 1) (v := .int ec) (C := RX1) (T := TX1) (N := 9) hx hb hts (by decide +kernel) hown hK hP 0 rfl rfl 6 (by decide) (hts (.fieldLink RX1 112 "FamilyProbes" "eventCount" "I") (by decide +kernel)) (fun _ h9 => h9) rfl dX1_note_15 ?_
  refine lv_iconst (v := 1) hx hb dX1_note_18 (by decide) ?_
  refine lv_iadd hx hb dX1_note_19 ?_
  refine va_put (D := D) (ci := 1) (v := .int (ec + 1)) (ty := .int) (C := RX1) (T := TX1) (N := 9) hx hb hts (by decide +kernel) tyX1 tyX1_ok nmX1 hown hK hP hD hS 0 rfl rfl 6 (by decide) (hts (.fieldLink RX1 112 "FamilyProbes" "eventCount" "I") (by decide +kernel)) (fun _ h9 => h9) rfl (by decide +kernel) rfl rfl (Nat.le_of_ble_eq_true rfl) dX1_note_20 (fun H locs hP hD hS => ?_)
  have hP : va_P D vwCl (xW F (sS, sP, sQ, (upd sE (ec &&& 15).toNatClampNeg p0), (ec + 1), sc, vl, LP, sT)) H := hP
  have hD : va_D A (xW F (sS, sP, sQ, (upd sE (ec &&& 15).toNatClampNeg p0), (ec + 1), sc, vl, LP, sT)) := hD
  exact W.vret hx hb hr (fun tE ht hW => ⟨⟨(sS, sP, sQ, (upd sE (ec &&& 15).toNatClampNeg p0), (ec + 1), sc, vl, LP, sT), rfl, by first | (simp only [uN, gS, gP, gQ, gE, gec, gsc, gvl, gL, gT, eq_self, ↓reduceIte, Bool.false_eq_true, Bool.not_false, Bool.not_true, Bool.and_true, Bool.and_false, Bool.true_and, Bool.false_and, decide_true, decide_false] <;> first | done | decide) | (simp [uN, gS, gP, gQ, gE, gec, gsc, gvl, gL, gT]; done) | (exfalso; simp_all; done), by rw [ht]; exact hP, va_K.moved hW.alike hK, hD⟩, hS.F ht⟩) hS.2.2 dX1_note_23
set_option maxHeartbeats 8000000 in
set_option maxRecDepth 100000 in
theorem k_callOf (l : Launch) (D : va_G) (F : XF) (u : XS) (hok : xOk F u) (sz : Nat) (p0 : Nat) (hp0 : p0 ∈ gL u) (p1 : Int32) : Met l yX1_callOf wsX1_callOf ({ frames := 0, cells := 0, slots := 0, locals := 0 }) (xPc D F u sz [.ref F.1, .ref p0, .int p1]) (va_Qi (fun (r : Int32) (v : XS) => (r, v) = sCall u p0 p1) (xB D F (va_A (xW F u) sz)) (va_A (xW F u) sz)) 0 0 (va_A (xW F u) sz) := by
  obtain ⟨sS, sP, sQ, sE, ec, sc, vl, LP, sT⟩ := u
  refine Met.ofW (cc := cX1_callOf) (maxL := 5) (ret := (some .int)) (by decide) rfl ?_
  intro p e s m args below meth c s₁ B hml hv
  obtain ⟨rfl, hsz, hP, hK, hD0, hN, hZ⟩ := hv
  have hx := B.exec
  have hb := B.bytes
  have hr := B.returns
  have hts := atoms_spec (ws := wsX1_callOf) B.pre
  have hown : s.vm.findClass RX1 = some m.cls := findClass_of_methodNamed B.named
  have hlocks := B.notSynchronized
  subst hsz
  have hD := hD0.self (sz := s.heap.size)
  generalize hAe : va_A (xW F (sS, sP, sQ, sE, ec, sc, vl, LP, sT)) s.heap.size = A at hD hZ ⊢
  have hA : ∀ q : Nat, s.heap.size ≤ q → A q := fun q h => by rw [← hAe]; exact Or.inr h
  have hS : va_S A s.heap s.heap [] := va_S.rf
  obtain ⟨tk, tm, tr, hztk, httk, hztm, httm, hztr, httr⟩ := id hZ
  refine xHeap (C := fun H => va_P D vwCl (xW F (sS, sP, sQ, sE, ec, sc, vl, LP, sT)) H ∧ va_S A s.heap H []) ⟨hP, hS⟩ (fun H hC => ?_)
  obtain ⟨hP, hS⟩ := hC
  have hl := lv_entry ([.ref F.1, .ref p0, .int p1]) (n := 5) (Nat.le_of_ble_eq_true rfl)
  rw [lg_entry_eq]
  generalize (lg_sl ([.ref F.1, .ref p0, .int p1]) ++ List.replicate (5 - (lg_sl ([.ref F.1, .ref p0, .int p1])).length) Slot.unset).toArray = ls at hl ⊢
  have hl : lv_has ls 5 [(0, .ref F.1), (1, .ref p0), (2, .int p1)] := hl
  refine lv_aload_n hx hb dX1_callOf_0 rfl (lv_at hl 1 rfl) ?_
  refine lv_astore_n (lv' := [(3, .ref p0), (0, .ref F.1), (1, .ref p0), (2, .int p1)]) hx hb dX1_callOf_1 rfl hl (by decide) rfl (fun ls hl => ?_)
  refine lv_iconst (v := 0) hx hb dX1_callOf_2 (by decide) ?_
  refine lv_istore (lv' := [(4, .int 0), (3, .ref p0), (0, .ref F.1), (1, .ref p0), (2, .int p1)]) hx hb dX1_callOf_3 hl (by decide) rfl (fun ls hl => ?_)
  refine lv_iload hx hb dX1_callOf_5 (lv_at hl 0 rfl) ?_
  refine lv_iconst (v := 3) hx hb dX1_callOf_7 (by decide) ?_
  refine lv_icmp_ge (tgt := 29) hx hb dX1_callOf_8 (by decide) (fun cz => absurd cz (by decide)) (fun _ => ?_)
  refine lv_aload_n hx hb dX1_callOf_11 rfl (lv_at hl 1 rfl) ?_
  obtain ⟨k1, hk1⟩ := va_pl_get (X := xX F (sS, sP, sQ, sE, ec, sc, vl, LP, sT)) (f := thP sT) hp0
  refine va_getN (D := D) (ci := 0) (v := va_rf ((sT p0).2.2.1)) (C := RX0) (T := TX0) (N := 6) hx hb hts (by decide +kernel) hown hK hP k1 hk1 rfl 2 (by decide) (va_Nw.use rfl (hN (.fieldLinkNest RX1 166 "FamilyProbes$Thing" "source" "LFamilyProbes$Thing;" "FamilyProbes") (by decide +kernel))) (fun _ h9 => h9) rfl dX1_callOf_12 ?_
  rcases ho2 : (sT p0).2.2.1 with _ | q3
  · refine lv_ifnullN (tgt := 29) hx hb dX1_callOf_15 (by decide) ?_
    refine lv_aload_n hx hb dX1_callOf_29 rfl (lv_at hl 1 rfl) ?_
    obtain ⟨k4, hk4⟩ := va_pl_get (X := xX F (sS, sP, sQ, sE, ec, sc, vl, LP, sT)) (f := thP sT) hp0
    refine va_getN (D := D) (ci := 0) (v := .int ((sT p0).1)) (C := RX0) (T := TX0) (N := 6) hx hb hts (by decide +kernel) hown hK hP k4 hk4 rfl 0 (by decide) (va_Nw.use rfl (hN (.fieldLinkNest RX1 118 "FamilyProbes$Thing" "kind" "I" "FamilyProbes") (by decide +kernel))) (fun _ h9 => h9) rfl dX1_callOf_30 ?_
    by_cases c5 : (sT p0).1 = 0
    · refine lv_tableIn (off := 55) (tgt := 88) hx hb dX1_callOf_33 (by rw [c5]; decide) (by rw [c5]; decide) (by rw [c5]; rfl) (by decide) ?_
      refine lv_iload_n hx hb dX1_callOf_88 rfl (lv_at hl 4 rfl) ?_
      refine lv_aload_n hx hb dX1_callOf_89 rfl (lv_at hl 1 rfl) ?_
      obtain ⟨k6, hk6⟩ := va_pl_get (X := xX F (sS, sP, sQ, sE, ec, sc, vl, LP, sT)) (f := thP sT) hp0
      refine va_getN (D := D) (ci := 0) (v := .int ((sT p0).2.1)) (C := RX0) (T := TX0) (N := 6) hx hb hts (by decide +kernel) hown hK hP k6 hk6 rfl 1 (by decide) (va_Nw.use rfl (hN (.fieldLinkNest RX1 83 "FamilyProbes$Thing" "n" "I" "FamilyProbes") (by decide +kernel))) (fun _ h9 => h9) rfl dX1_callOf_90 ?_
      refine lv_iadd hx hb dX1_callOf_93 ?_
      exact W.iret (v := (p1 + (sT p0).2.1)) hx hb hr (fun tE ht hW => ⟨⟨(p1 + (sT p0).2.1), (sS, sP, sQ, sE, ec, sc, vl, LP, sT), rfl, by first | (simp only [sCall, uC, chase, fCall, gS, gP, gQ, gE, gec, gsc, gvl, gL, gT, ho2, c5, eq_self, ↓reduceIte, Bool.false_eq_true, Bool.not_false, Bool.not_true, Bool.and_true, Bool.and_false, Bool.true_and, Bool.false_and, decide_true, decide_false] <;> first | done | decide) | (simp [sCall, uC, chase, fCall, gS, gP, gQ, gE, gec, gsc, gvl, gL, gT, ho2, c5]; done) | (exfalso; simp_all; done), by rw [ht]; exact hP, va_K.moved hW.alike hK, hD⟩, hS.F ht⟩) hS.2.2 dX1_callOf_94
    by_cases c7 : (sT p0).1 = 1
    · refine lv_tableIn (off := 62) (tgt := 95) hx hb dX1_callOf_33 (by rw [c7]; decide) (by rw [c7]; decide) (by rw [c7]; rfl) (by decide) ?_
      refine lv_iload_n hx hb dX1_callOf_95 rfl (lv_at hl 4 rfl) ?_
      refine lv_aload_n hx hb dX1_callOf_96 rfl (lv_at hl 1 rfl) ?_
      obtain ⟨k8, hk8⟩ := va_pl_get (X := xX F (sS, sP, sQ, sE, ec, sc, vl, LP, sT)) (f := thP sT) hp0
      refine va_getN (D := D) (ci := 0) (v := .int ((sT p0).2.1)) (C := RX0) (T := TX0) (N := 6) hx hb hts (by decide +kernel) hown hK hP k8 hk8 rfl 1 (by decide) (va_Nw.use rfl (hN (.fieldLinkNest RX1 83 "FamilyProbes$Thing" "n" "I" "FamilyProbes") (by decide +kernel))) (fun _ h9 => h9) rfl dX1_callOf_97 ?_
      refine lv_isub hx hb dX1_callOf_100 ?_
      exact W.iret (v := (p1 - (sT p0).2.1)) hx hb hr (fun tE ht hW => ⟨⟨(p1 - (sT p0).2.1), (sS, sP, sQ, sE, ec, sc, vl, LP, sT), rfl, by first | (simp only [sCall, uC, chase, fCall, gS, gP, gQ, gE, gec, gsc, gvl, gL, gT, ho2, c5, c7, eq_self, ↓reduceIte, Bool.false_eq_true, Bool.not_false, Bool.not_true, Bool.and_true, Bool.and_false, Bool.true_and, Bool.false_and, decide_true, decide_false] <;> first | done | decide) | (simp [sCall, uC, chase, fCall, gS, gP, gQ, gE, gec, gsc, gvl, gL, gT, ho2, c5, c7]; done) | (exfalso; simp_all; done), by rw [ht]; exact hP, va_K.moved hW.alike hK, hD⟩, hS.F ht⟩) hS.2.2 dX1_callOf_101
    by_cases c9 : (sT p0).1 = 2
    · refine lv_tableIn (off := 69) (tgt := 102) hx hb dX1_callOf_33 (by rw [c9]; decide) (by rw [c9]; decide) (by rw [c9]; rfl) (by decide) ?_
      refine lv_iconst (v := 2) hx hb dX1_callOf_102 (by decide) ?_
      refine lv_iload_n hx hb dX1_callOf_103 rfl (lv_at hl 4 rfl) ?_
      refine lv_aload_n hx hb dX1_callOf_104 rfl (lv_at hl 1 rfl) ?_
      obtain ⟨k10, hk10⟩ := va_pl_get (X := xX F (sS, sP, sQ, sE, ec, sc, vl, LP, sT)) (f := thP sT) hp0
      refine va_getN (D := D) (ci := 0) (v := .int ((sT p0).2.1)) (C := RX0) (T := TX0) (N := 6) hx hb hts (by decide +kernel) hown hK hP k10 hk10 rfl 1 (by decide) (va_Nw.use rfl (hN (.fieldLinkNest RX1 83 "FamilyProbes$Thing" "n" "I" "FamilyProbes") (by decide +kernel))) (fun _ h9 => h9) rfl dX1_callOf_105 ?_
      refine lv_isub hx hb dX1_callOf_108 ?_
      refine lv_imul hx hb dX1_callOf_109 ?_
      exact W.iret (v := (2 * (p1 - (sT p0).2.1))) hx hb hr (fun tE ht hW => ⟨⟨(2 * (p1 - (sT p0).2.1)), (sS, sP, sQ, sE, ec, sc, vl, LP, sT), rfl, by first | (simp only [sCall, uC, chase, fCall, gS, gP, gQ, gE, gec, gsc, gvl, gL, gT, ho2, c5, c7, c9, eq_self, ↓reduceIte, Bool.false_eq_true, Bool.not_false, Bool.not_true, Bool.and_true, Bool.and_false, Bool.true_and, Bool.false_and, decide_true, decide_false] <;> first | done | decide) | (simp [sCall, uC, chase, fCall, gS, gP, gQ, gE, gec, gsc, gvl, gL, gT, ho2, c5, c7, c9]; done) | (exfalso; simp_all; done), by rw [ht]; exact hP, va_K.moved hW.alike hK, hD⟩, hS.F ht⟩) hS.2.2 dX1_callOf_110
    by_cases c11 : (sT p0).1 = 3
    · refine lv_tableIn (off := 107) (tgt := 140) hx hb dX1_callOf_33 (by rw [c11]; decide) (by rw [c11]; decide) (by rw [c11]; rfl) (by decide) ?_
      refine lv_iload_n hx hb dX1_callOf_140 rfl (lv_at hl 4 rfl) ?_
      exact W.iret (v := p1) hx hb hr (fun tE ht hW => ⟨⟨p1, (sS, sP, sQ, sE, ec, sc, vl, LP, sT), rfl, by first | (simp only [sCall, uC, chase, fCall, gS, gP, gQ, gE, gec, gsc, gvl, gL, gT, ho2, c5, c7, c9, c11, eq_self, ↓reduceIte, Bool.false_eq_true, Bool.not_false, Bool.not_true, Bool.and_true, Bool.and_false, Bool.true_and, Bool.false_and, decide_true, decide_false] <;> first | done | decide) | (simp [sCall, uC, chase, fCall, gS, gP, gQ, gE, gec, gsc, gvl, gL, gT, ho2, c5, c7, c9, c11]; done) | (exfalso; simp_all; done), by rw [ht]; exact hP, va_K.moved hW.alike hK, hD⟩, hS.F ht⟩) hS.2.2 dX1_callOf_141
    by_cases c12 : (sT p0).1 = 4
    · refine lv_tableIn (off := 55) (tgt := 88) hx hb dX1_callOf_33 (by rw [c12]; decide) (by rw [c12]; decide) (by rw [c12]; rfl) (by decide) ?_
      refine lv_iload_n hx hb dX1_callOf_88 rfl (lv_at hl 4 rfl) ?_
      refine lv_aload_n hx hb dX1_callOf_89 rfl (lv_at hl 1 rfl) ?_
      obtain ⟨k13, hk13⟩ := va_pl_get (X := xX F (sS, sP, sQ, sE, ec, sc, vl, LP, sT)) (f := thP sT) hp0
      refine va_getN (D := D) (ci := 0) (v := .int ((sT p0).2.1)) (C := RX0) (T := TX0) (N := 6) hx hb hts (by decide +kernel) hown hK hP k13 hk13 rfl 1 (by decide) (va_Nw.use rfl (hN (.fieldLinkNest RX1 83 "FamilyProbes$Thing" "n" "I" "FamilyProbes") (by decide +kernel))) (fun _ h9 => h9) rfl dX1_callOf_90 ?_
      refine lv_iadd hx hb dX1_callOf_93 ?_
      exact W.iret (v := (p1 + (sT p0).2.1)) hx hb hr (fun tE ht hW => ⟨⟨(p1 + (sT p0).2.1), (sS, sP, sQ, sE, ec, sc, vl, LP, sT), rfl, by first | (simp only [sCall, uC, chase, fCall, gS, gP, gQ, gE, gec, gsc, gvl, gL, gT, ho2, c5, c7, c9, c11, c12, eq_self, ↓reduceIte, Bool.false_eq_true, Bool.not_false, Bool.not_true, Bool.and_true, Bool.and_false, Bool.true_and, Bool.false_and, decide_true, decide_false] <;> first | done | decide) | (simp [sCall, uC, chase, fCall, gS, gP, gQ, gE, gec, gsc, gvl, gL, gT, ho2, c5, c7, c9, c11, c12]; done) | (exfalso; simp_all; done), by rw [ht]; exact hP, va_K.moved hW.alike hK, hD⟩, hS.F ht⟩) hS.2.2 dX1_callOf_94
    by_cases c14 : (sT p0).1 = 5
    · refine lv_tableIn (off := 78) (tgt := 111) hx hb dX1_callOf_33 (by rw [c14]; decide) (by rw [c14]; decide) (by rw [c14]; rfl) (by decide) ?_
      refine lv_iload_n hx hb dX1_callOf_111 rfl (lv_at hl 4 rfl) ?_
      refine lv_aload_n hx hb dX1_callOf_112 rfl (lv_at hl 1 rfl) ?_
      obtain ⟨k15, hk15⟩ := va_pl_get (X := xX F (sS, sP, sQ, sE, ec, sc, vl, LP, sT)) (f := thP sT) hp0
      refine va_getN (D := D) (ci := 0) (v := .int ((sT p0).2.1)) (C := RX0) (T := TX0) (N := 6) hx hb hts (by decide +kernel) hown hK hP k15 hk15 rfl 1 (by decide) (va_Nw.use rfl (hN (.fieldLinkNest RX1 83 "FamilyProbes$Thing" "n" "I" "FamilyProbes") (by decide +kernel))) (fun _ h9 => h9) rfl dX1_callOf_113 ?_
      refine lv_imul hx hb dX1_callOf_116 ?_
      exact W.iret (v := (p1 * (sT p0).2.1)) hx hb hr (fun tE ht hW => ⟨⟨(p1 * (sT p0).2.1), (sS, sP, sQ, sE, ec, sc, vl, LP, sT), rfl, by first | (simp only [sCall, uC, chase, fCall, gS, gP, gQ, gE, gec, gsc, gvl, gL, gT, ho2, c5, c7, c9, c11, c12, c14, eq_self, ↓reduceIte, Bool.false_eq_true, Bool.not_false, Bool.not_true, Bool.and_true, Bool.and_false, Bool.true_and, Bool.false_and, decide_true, decide_false] <;> first | done | decide) | (simp [sCall, uC, chase, fCall, gS, gP, gQ, gE, gec, gsc, gvl, gL, gT, ho2, c5, c7, c9, c11, c12, c14]; done) | (exfalso; simp_all; done), by rw [ht]; exact hP, va_K.moved hW.alike hK, hD⟩, hS.F ht⟩) hS.2.2 dX1_callOf_117
    by_cases c16 : (sT p0).1 = 6
    · refine lv_tableIn (off := 85) (tgt := 118) hx hb dX1_callOf_33 (by rw [c16]; decide) (by rw [c16]; decide) (by rw [c16]; rfl) (by decide) ?_
      refine lv_aload_n hx hb dX1_callOf_118 rfl (lv_at hl 2 rfl) ?_
      refine lv_dup hx hb dX1_callOf_119 rfl ?_
      refine va_get (D := D) (ci := 1) (v := .int sc) (C := RX1) (T := TX1) (N := 9) hx hb hts (by decide +kernel) hown hK hP 0 rfl rfl 7 (by decide) (hts (.fieldLink RX1 169 "FamilyProbes" "shadowCalls" "I") (by decide +kernel)) (fun _ h9 => h9) rfl dX1_callOf_120 ?_
      refine lv_iconst (v := 1) hx hb dX1_callOf_123 (by decide) ?_
      refine lv_iadd hx hb dX1_callOf_124 ?_
      refine va_put (D := D) (ci := 1) (v := .int (sc + 1)) (ty := .int) (C := RX1) (T := TX1) (N := 9) hx hb hts (by decide +kernel) tyX1 tyX1_ok nmX1 hown hK hP hD hS 0 rfl rfl 7 (by decide) (hts (.fieldLink RX1 169 "FamilyProbes" "shadowCalls" "I") (by decide +kernel)) (fun _ h9 => h9) rfl (by decide +kernel) rfl rfl (Nat.le_of_ble_eq_true rfl) dX1_callOf_125 (fun H locs hP hD hS => ?_)
      have hP : va_P D vwCl (xW F (sS, sP, sQ, sE, ec, (sc + 1), vl, LP, sT)) H := hP
      have hD : va_D A (xW F (sS, sP, sQ, sE, ec, (sc + 1), vl, LP, sT)) := hD
      refine lv_iload_n hx hb dX1_callOf_128 rfl (lv_at hl 4 rfl) ?_
      refine lv_aload_n hx hb dX1_callOf_129 rfl (lv_at hl 1 rfl) ?_
      obtain ⟨k17, hk17⟩ := va_pl_get (X := xX F (sS, sP, sQ, sE, ec, (sc + 1), vl, LP, sT)) (f := thP sT) hp0
      refine va_getN (D := D) (ci := 0) (v := .int ((sT p0).2.1)) (C := RX0) (T := TX0) (N := 6) hx hb hts (by decide +kernel) hown hK hP k17 hk17 rfl 1 (by decide) (va_Nw.use rfl (hN (.fieldLinkNest RX1 83 "FamilyProbes$Thing" "n" "I" "FamilyProbes") (by decide +kernel))) (fun _ h9 => h9) rfl dX1_callOf_130 ?_
      refine lv_iadd hx hb dX1_callOf_133 ?_
      refine lv_aload_n hx hb dX1_callOf_134 rfl (lv_at hl 2 rfl) ?_
      refine va_get (D := D) (ci := 1) (v := .int (sc + 1)) (C := RX1) (T := TX1) (N := 9) hx hb hts (by decide +kernel) hown hK hP 0 rfl rfl 7 (by decide) (hts (.fieldLink RX1 169 "FamilyProbes" "shadowCalls" "I") (by decide +kernel)) (fun _ h9 => h9) rfl dX1_callOf_135 ?_
      refine lv_iadd hx hb dX1_callOf_138 ?_
      exact W.iret (v := ((p1 + (sT p0).2.1) + (sc + 1))) hx hb hr (fun tE ht hW => ⟨⟨((p1 + (sT p0).2.1) + (sc + 1)), (sS, sP, sQ, sE, ec, (sc + 1), vl, LP, sT), rfl, by first | (simp only [sCall, uC, chase, fCall, gS, gP, gQ, gE, gec, gsc, gvl, gL, gT, ho2, c5, c7, c9, c11, c12, c14, c16, eq_self, ↓reduceIte, Bool.false_eq_true, Bool.not_false, Bool.not_true, Bool.and_true, Bool.and_false, Bool.true_and, Bool.false_and, decide_true, decide_false] <;> first | done | decide) | (simp [sCall, uC, chase, fCall, gS, gP, gQ, gE, gec, gsc, gvl, gL, gT, ho2, c5, c7, c9, c11, c12, c14, c16]; done) | (exfalso; simp_all; done), by rw [ht]; exact hP, va_K.moved hW.alike hK, hD⟩, hS.F ht⟩) hS.2.2 dX1_callOf_139
    by_cases c18 : (sT p0).1 = 7
    · refine lv_tableIn (off := 78) (tgt := 111) hx hb dX1_callOf_33 (by rw [c18]; decide) (by rw [c18]; decide) (by rw [c18]; rfl) (by decide) ?_
      refine lv_iload_n hx hb dX1_callOf_111 rfl (lv_at hl 4 rfl) ?_
      refine lv_aload_n hx hb dX1_callOf_112 rfl (lv_at hl 1 rfl) ?_
      obtain ⟨k19, hk19⟩ := va_pl_get (X := xX F (sS, sP, sQ, sE, ec, sc, vl, LP, sT)) (f := thP sT) hp0
      refine va_getN (D := D) (ci := 0) (v := .int ((sT p0).2.1)) (C := RX0) (T := TX0) (N := 6) hx hb hts (by decide +kernel) hown hK hP k19 hk19 rfl 1 (by decide) (va_Nw.use rfl (hN (.fieldLinkNest RX1 83 "FamilyProbes$Thing" "n" "I" "FamilyProbes") (by decide +kernel))) (fun _ h9 => h9) rfl dX1_callOf_113 ?_
      refine lv_imul hx hb dX1_callOf_116 ?_
      exact W.iret (v := (p1 * (sT p0).2.1)) hx hb hr (fun tE ht hW => ⟨⟨(p1 * (sT p0).2.1), (sS, sP, sQ, sE, ec, sc, vl, LP, sT), rfl, by first | (simp only [sCall, uC, chase, fCall, gS, gP, gQ, gE, gec, gsc, gvl, gL, gT, ho2, c5, c7, c9, c11, c12, c14, c16, c18, eq_self, ↓reduceIte, Bool.false_eq_true, Bool.not_false, Bool.not_true, Bool.and_true, Bool.and_false, Bool.true_and, Bool.false_and, decide_true, decide_false] <;> first | done | decide) | (simp [sCall, uC, chase, fCall, gS, gP, gQ, gE, gec, gsc, gvl, gL, gT, ho2, c5, c7, c9, c11, c12, c14, c16, c18]; done) | (exfalso; simp_all; done), by rw [ht]; exact hP, va_K.moved hW.alike hK, hD⟩, hS.F ht⟩) hS.2.2 dX1_callOf_117
    by_cases c20 : (sT p0).1 = 8
    · refine lv_tableIn (off := 107) (tgt := 140) hx hb dX1_callOf_33 (by rw [c20]; decide) (by rw [c20]; decide) (by rw [c20]; rfl) (by decide) ?_
      refine lv_iload_n hx hb dX1_callOf_140 rfl (lv_at hl 4 rfl) ?_
      exact W.iret (v := p1) hx hb hr (fun tE ht hW => ⟨⟨p1, (sS, sP, sQ, sE, ec, sc, vl, LP, sT), rfl, by first | (simp only [sCall, uC, chase, fCall, gS, gP, gQ, gE, gec, gsc, gvl, gL, gT, ho2, c5, c7, c9, c11, c12, c14, c16, c18, c20, eq_self, ↓reduceIte, Bool.false_eq_true, Bool.not_false, Bool.not_true, Bool.and_true, Bool.and_false, Bool.true_and, Bool.false_and, decide_true, decide_false] <;> first | done | decide) | (simp [sCall, uC, chase, fCall, gS, gP, gQ, gE, gec, gsc, gvl, gL, gT, ho2, c5, c7, c9, c11, c12, c14, c16, c18, c20]; done) | (exfalso; simp_all; done), by rw [ht]; exact hP, va_K.moved hW.alike hK, hD⟩, hS.F ht⟩) hS.2.2 dX1_callOf_141
    by_cases c21 : (sT p0).1 = 9
    · refine lv_tableIn (off := 62) (tgt := 95) hx hb dX1_callOf_33 (by rw [c21]; decide) (by rw [c21]; decide) (by rw [c21]; rfl) (by decide) ?_
      refine lv_iload_n hx hb dX1_callOf_95 rfl (lv_at hl 4 rfl) ?_
      refine lv_aload_n hx hb dX1_callOf_96 rfl (lv_at hl 1 rfl) ?_
      obtain ⟨k22, hk22⟩ := va_pl_get (X := xX F (sS, sP, sQ, sE, ec, sc, vl, LP, sT)) (f := thP sT) hp0
      refine va_getN (D := D) (ci := 0) (v := .int ((sT p0).2.1)) (C := RX0) (T := TX0) (N := 6) hx hb hts (by decide +kernel) hown hK hP k22 hk22 rfl 1 (by decide) (va_Nw.use rfl (hN (.fieldLinkNest RX1 83 "FamilyProbes$Thing" "n" "I" "FamilyProbes") (by decide +kernel))) (fun _ h9 => h9) rfl dX1_callOf_97 ?_
      refine lv_isub hx hb dX1_callOf_100 ?_
      exact W.iret (v := (p1 - (sT p0).2.1)) hx hb hr (fun tE ht hW => ⟨⟨(p1 - (sT p0).2.1), (sS, sP, sQ, sE, ec, sc, vl, LP, sT), rfl, by first | (simp only [sCall, uC, chase, fCall, gS, gP, gQ, gE, gec, gsc, gvl, gL, gT, ho2, c5, c7, c9, c11, c12, c14, c16, c18, c20, c21, eq_self, ↓reduceIte, Bool.false_eq_true, Bool.not_false, Bool.not_true, Bool.and_true, Bool.and_false, Bool.true_and, Bool.false_and, decide_true, decide_false] <;> first | done | decide) | (simp [sCall, uC, chase, fCall, gS, gP, gQ, gE, gec, gsc, gvl, gL, gT, ho2, c5, c7, c9, c11, c12, c14, c16, c18, c20, c21]; done) | (exfalso; simp_all; done), by rw [ht]; exact hP, va_K.moved hW.alike hK, hD⟩, hS.F ht⟩) hS.2.2 dX1_callOf_101
    refine lv_tableOut (tgt := 140) hx hb dX1_callOf_33 (by have z0 := lv_neT (k := 0) (a := 0) c5 (by decide); have z1 := lv_neT (k := 1) (a := 1) c7 (by decide); have z2 := lv_neT (k := 2) (a := 2) c9 (by decide); have z3 := lv_neT (k := 3) (a := 3) c11 (by decide); have z4 := lv_neT (k := 4) (a := 4) c12 (by decide); have z5 := lv_neT (k := 5) (a := 5) c14 (by decide); have z6 := lv_neT (k := 6) (a := 6) c16 (by decide); have z7 := lv_neT (k := 7) (a := 7) c18 (by decide); have z8 := lv_neT (k := 8) (a := 8) c20 (by decide); have z9 := lv_neT (k := 9) (a := 9) c21 (by decide); omega) (by decide) ?_
    refine lv_iload_n hx hb dX1_callOf_140 rfl (lv_at hl 4 rfl) ?_
    exact W.iret (v := p1) hx hb hr (fun tE ht hW => ⟨⟨p1, (sS, sP, sQ, sE, ec, sc, vl, LP, sT), rfl, by first | (simp only [sCall, uC, chase, fCall, gS, gP, gQ, gE, gec, gsc, gvl, gL, gT, ho2, c5, c7, c9, c11, c12, c14, c16, c18, c20, c21, eq_self, ↓reduceIte, Bool.false_eq_true, Bool.not_false, Bool.not_true, Bool.and_true, Bool.and_false, Bool.true_and, Bool.false_and, decide_true, decide_false] <;> first | done | decide) | (simp [sCall, uC, chase, fCall, gS, gP, gQ, gE, gec, gsc, gvl, gL, gT, ho2, c5, c7, c9, c11, c12, c14, c16, c18, c20, c21]; done) | (exfalso; simp_all; done), by rw [ht]; exact hP, va_K.moved hW.alike hK, hD⟩, hS.F ht⟩) hS.2.2 dX1_callOf_141
  · refine lv_ifnull hx hb dX1_callOf_15 ?_
    refine lv_aload_n hx hb dX1_callOf_18 rfl (lv_at hl 1 rfl) ?_
    obtain ⟨k23, hk23⟩ := va_pl_get (X := xX F (sS, sP, sQ, sE, ec, sc, vl, LP, sT)) (f := thP sT) hp0
    refine va_getN (D := D) (ci := 0) (v := .ref q3) (C := RX0) (T := TX0) (N := 6) hx hb hts (by decide +kernel) hown hK hP k23 hk23 rfl 2 (by decide) (va_Nw.use rfl (hN (.fieldLinkNest RX1 166 "FamilyProbes$Thing" "source" "LFamilyProbes$Thing;" "FamilyProbes") (by decide +kernel))) (fun _ h9 => h9) (by show some (va_rf ((sT p0).2.2.1)) = some (.ref q3); rw [ho2]; rfl) dX1_callOf_19 ?_
    refine lv_astore_n (lv' := [(3, .ref q3), (4, .int 0), (0, .ref F.1), (1, .ref p0), (2, .int p1)]) hx hb dX1_callOf_22 rfl hl (by decide) rfl (fun ls hl => ?_)
    refine lv_iinc (v := 1) (lv' := [(4, .int 1), (3, .ref q3), (0, .ref F.1), (1, .ref p0), (2, .int p1)]) hx hb dX1_callOf_23 hl (k := 1) rfl (by decide) (by decide) rfl (fun ls hl => ?_)
    refine lv_goto (tgt := 5) hx hb dX1_callOf_26 (by decide) ?_
    refine lv_iload hx hb dX1_callOf_5 (lv_at hl 0 rfl) ?_
    refine lv_iconst (v := 3) hx hb dX1_callOf_7 (by decide) ?_
    refine lv_icmp_ge (tgt := 29) hx hb dX1_callOf_8 (by decide) (fun cz => absurd cz (by decide)) (fun _ => ?_)
    refine lv_aload_n hx hb dX1_callOf_11 rfl (lv_at hl 1 rfl) ?_
    obtain ⟨k24, hk24⟩ := va_pl_get (X := xX F (sS, sP, sQ, sE, ec, sc, vl, LP, sT)) (f := thP sT) (hok.2.2.2.1 p0 hp0 _ ho2)
    refine va_getN (D := D) (ci := 0) (v := va_rf ((sT q3).2.2.1)) (C := RX0) (T := TX0) (N := 6) hx hb hts (by decide +kernel) hown hK hP k24 hk24 rfl 2 (by decide) (va_Nw.use rfl (hN (.fieldLinkNest RX1 166 "FamilyProbes$Thing" "source" "LFamilyProbes$Thing;" "FamilyProbes") (by decide +kernel))) (fun _ h9 => h9) rfl dX1_callOf_12 ?_
    rcases ho25 : (sT q3).2.2.1 with _ | q26
    · refine lv_ifnullN (tgt := 29) hx hb dX1_callOf_15 (by decide) ?_
      refine lv_aload_n hx hb dX1_callOf_29 rfl (lv_at hl 1 rfl) ?_
      obtain ⟨k27, hk27⟩ := va_pl_get (X := xX F (sS, sP, sQ, sE, ec, sc, vl, LP, sT)) (f := thP sT) (hok.2.2.2.1 p0 hp0 _ ho2)
      refine va_getN (D := D) (ci := 0) (v := .int ((sT q3).1)) (C := RX0) (T := TX0) (N := 6) hx hb hts (by decide +kernel) hown hK hP k27 hk27 rfl 0 (by decide) (va_Nw.use rfl (hN (.fieldLinkNest RX1 118 "FamilyProbes$Thing" "kind" "I" "FamilyProbes") (by decide +kernel))) (fun _ h9 => h9) rfl dX1_callOf_30 ?_
      by_cases c28 : (sT q3).1 = 0
      · refine lv_tableIn (off := 55) (tgt := 88) hx hb dX1_callOf_33 (by rw [c28]; decide) (by rw [c28]; decide) (by rw [c28]; rfl) (by decide) ?_
        refine lv_iload_n hx hb dX1_callOf_88 rfl (lv_at hl 4 rfl) ?_
        refine lv_aload_n hx hb dX1_callOf_89 rfl (lv_at hl 1 rfl) ?_
        obtain ⟨k29, hk29⟩ := va_pl_get (X := xX F (sS, sP, sQ, sE, ec, sc, vl, LP, sT)) (f := thP sT) (hok.2.2.2.1 p0 hp0 _ ho2)
        refine va_getN (D := D) (ci := 0) (v := .int ((sT q3).2.1)) (C := RX0) (T := TX0) (N := 6) hx hb hts (by decide +kernel) hown hK hP k29 hk29 rfl 1 (by decide) (va_Nw.use rfl (hN (.fieldLinkNest RX1 83 "FamilyProbes$Thing" "n" "I" "FamilyProbes") (by decide +kernel))) (fun _ h9 => h9) rfl dX1_callOf_90 ?_
        refine lv_iadd hx hb dX1_callOf_93 ?_
        exact W.iret (v := (p1 + (sT q3).2.1)) hx hb hr (fun tE ht hW => ⟨⟨(p1 + (sT q3).2.1), (sS, sP, sQ, sE, ec, sc, vl, LP, sT), rfl, by first | (simp only [sCall, uC, chase, fCall, gS, gP, gQ, gE, gec, gsc, gvl, gL, gT, ho2, ho25, c28, eq_self, ↓reduceIte, Bool.false_eq_true, Bool.not_false, Bool.not_true, Bool.and_true, Bool.and_false, Bool.true_and, Bool.false_and, decide_true, decide_false] <;> first | done | decide) | (simp [sCall, uC, chase, fCall, gS, gP, gQ, gE, gec, gsc, gvl, gL, gT, ho2, ho25, c28]; done) | (exfalso; simp_all; done), by rw [ht]; exact hP, va_K.moved hW.alike hK, hD⟩, hS.F ht⟩) hS.2.2 dX1_callOf_94
      by_cases c30 : (sT q3).1 = 1
      · refine lv_tableIn (off := 62) (tgt := 95) hx hb dX1_callOf_33 (by rw [c30]; decide) (by rw [c30]; decide) (by rw [c30]; rfl) (by decide) ?_
        refine lv_iload_n hx hb dX1_callOf_95 rfl (lv_at hl 4 rfl) ?_
        refine lv_aload_n hx hb dX1_callOf_96 rfl (lv_at hl 1 rfl) ?_
        obtain ⟨k31, hk31⟩ := va_pl_get (X := xX F (sS, sP, sQ, sE, ec, sc, vl, LP, sT)) (f := thP sT) (hok.2.2.2.1 p0 hp0 _ ho2)
        refine va_getN (D := D) (ci := 0) (v := .int ((sT q3).2.1)) (C := RX0) (T := TX0) (N := 6) hx hb hts (by decide +kernel) hown hK hP k31 hk31 rfl 1 (by decide) (va_Nw.use rfl (hN (.fieldLinkNest RX1 83 "FamilyProbes$Thing" "n" "I" "FamilyProbes") (by decide +kernel))) (fun _ h9 => h9) rfl dX1_callOf_97 ?_
        refine lv_isub hx hb dX1_callOf_100 ?_
        exact W.iret (v := (p1 - (sT q3).2.1)) hx hb hr (fun tE ht hW => ⟨⟨(p1 - (sT q3).2.1), (sS, sP, sQ, sE, ec, sc, vl, LP, sT), rfl, by first | (simp only [sCall, uC, chase, fCall, gS, gP, gQ, gE, gec, gsc, gvl, gL, gT, ho2, ho25, c28, c30, eq_self, ↓reduceIte, Bool.false_eq_true, Bool.not_false, Bool.not_true, Bool.and_true, Bool.and_false, Bool.true_and, Bool.false_and, decide_true, decide_false] <;> first | done | decide) | (simp [sCall, uC, chase, fCall, gS, gP, gQ, gE, gec, gsc, gvl, gL, gT, ho2, ho25, c28, c30]; done) | (exfalso; simp_all; done), by rw [ht]; exact hP, va_K.moved hW.alike hK, hD⟩, hS.F ht⟩) hS.2.2 dX1_callOf_101
      by_cases c32 : (sT q3).1 = 2
      · refine lv_tableIn (off := 69) (tgt := 102) hx hb dX1_callOf_33 (by rw [c32]; decide) (by rw [c32]; decide) (by rw [c32]; rfl) (by decide) ?_
        refine lv_iconst (v := 2) hx hb dX1_callOf_102 (by decide) ?_
        refine lv_iload_n hx hb dX1_callOf_103 rfl (lv_at hl 4 rfl) ?_
        refine lv_aload_n hx hb dX1_callOf_104 rfl (lv_at hl 1 rfl) ?_
        obtain ⟨k33, hk33⟩ := va_pl_get (X := xX F (sS, sP, sQ, sE, ec, sc, vl, LP, sT)) (f := thP sT) (hok.2.2.2.1 p0 hp0 _ ho2)
        refine va_getN (D := D) (ci := 0) (v := .int ((sT q3).2.1)) (C := RX0) (T := TX0) (N := 6) hx hb hts (by decide +kernel) hown hK hP k33 hk33 rfl 1 (by decide) (va_Nw.use rfl (hN (.fieldLinkNest RX1 83 "FamilyProbes$Thing" "n" "I" "FamilyProbes") (by decide +kernel))) (fun _ h9 => h9) rfl dX1_callOf_105 ?_
        refine lv_isub hx hb dX1_callOf_108 ?_
        refine lv_imul hx hb dX1_callOf_109 ?_
        exact W.iret (v := (2 * (p1 - (sT q3).2.1))) hx hb hr (fun tE ht hW => ⟨⟨(2 * (p1 - (sT q3).2.1)), (sS, sP, sQ, sE, ec, sc, vl, LP, sT), rfl, by first | (simp only [sCall, uC, chase, fCall, gS, gP, gQ, gE, gec, gsc, gvl, gL, gT, ho2, ho25, c28, c30, c32, eq_self, ↓reduceIte, Bool.false_eq_true, Bool.not_false, Bool.not_true, Bool.and_true, Bool.and_false, Bool.true_and, Bool.false_and, decide_true, decide_false] <;> first | done | decide) | (simp [sCall, uC, chase, fCall, gS, gP, gQ, gE, gec, gsc, gvl, gL, gT, ho2, ho25, c28, c30, c32]; done) | (exfalso; simp_all; done), by rw [ht]; exact hP, va_K.moved hW.alike hK, hD⟩, hS.F ht⟩) hS.2.2 dX1_callOf_110
      by_cases c34 : (sT q3).1 = 3
      · refine lv_tableIn (off := 107) (tgt := 140) hx hb dX1_callOf_33 (by rw [c34]; decide) (by rw [c34]; decide) (by rw [c34]; rfl) (by decide) ?_
        refine lv_iload_n hx hb dX1_callOf_140 rfl (lv_at hl 4 rfl) ?_
        exact W.iret (v := p1) hx hb hr (fun tE ht hW => ⟨⟨p1, (sS, sP, sQ, sE, ec, sc, vl, LP, sT), rfl, by first | (simp only [sCall, uC, chase, fCall, gS, gP, gQ, gE, gec, gsc, gvl, gL, gT, ho2, ho25, c28, c30, c32, c34, eq_self, ↓reduceIte, Bool.false_eq_true, Bool.not_false, Bool.not_true, Bool.and_true, Bool.and_false, Bool.true_and, Bool.false_and, decide_true, decide_false] <;> first | done | decide) | (simp [sCall, uC, chase, fCall, gS, gP, gQ, gE, gec, gsc, gvl, gL, gT, ho2, ho25, c28, c30, c32, c34]; done) | (exfalso; simp_all; done), by rw [ht]; exact hP, va_K.moved hW.alike hK, hD⟩, hS.F ht⟩) hS.2.2 dX1_callOf_141
      by_cases c35 : (sT q3).1 = 4
      · refine lv_tableIn (off := 55) (tgt := 88) hx hb dX1_callOf_33 (by rw [c35]; decide) (by rw [c35]; decide) (by rw [c35]; rfl) (by decide) ?_
        refine lv_iload_n hx hb dX1_callOf_88 rfl (lv_at hl 4 rfl) ?_
        refine lv_aload_n hx hb dX1_callOf_89 rfl (lv_at hl 1 rfl) ?_
        obtain ⟨k36, hk36⟩ := va_pl_get (X := xX F (sS, sP, sQ, sE, ec, sc, vl, LP, sT)) (f := thP sT) (hok.2.2.2.1 p0 hp0 _ ho2)
        refine va_getN (D := D) (ci := 0) (v := .int ((sT q3).2.1)) (C := RX0) (T := TX0) (N := 6) hx hb hts (by decide +kernel) hown hK hP k36 hk36 rfl 1 (by decide) (va_Nw.use rfl (hN (.fieldLinkNest RX1 83 "FamilyProbes$Thing" "n" "I" "FamilyProbes") (by decide +kernel))) (fun _ h9 => h9) rfl dX1_callOf_90 ?_
        refine lv_iadd hx hb dX1_callOf_93 ?_
        exact W.iret (v := (p1 + (sT q3).2.1)) hx hb hr (fun tE ht hW => ⟨⟨(p1 + (sT q3).2.1), (sS, sP, sQ, sE, ec, sc, vl, LP, sT), rfl, by first | (simp only [sCall, uC, chase, fCall, gS, gP, gQ, gE, gec, gsc, gvl, gL, gT, ho2, ho25, c28, c30, c32, c34, c35, eq_self, ↓reduceIte, Bool.false_eq_true, Bool.not_false, Bool.not_true, Bool.and_true, Bool.and_false, Bool.true_and, Bool.false_and, decide_true, decide_false] <;> first | done | decide) | (simp [sCall, uC, chase, fCall, gS, gP, gQ, gE, gec, gsc, gvl, gL, gT, ho2, ho25, c28, c30, c32, c34, c35]; done) | (exfalso; simp_all; done), by rw [ht]; exact hP, va_K.moved hW.alike hK, hD⟩, hS.F ht⟩) hS.2.2 dX1_callOf_94
      by_cases c37 : (sT q3).1 = 5
      · refine lv_tableIn (off := 78) (tgt := 111) hx hb dX1_callOf_33 (by rw [c37]; decide) (by rw [c37]; decide) (by rw [c37]; rfl) (by decide) ?_
        refine lv_iload_n hx hb dX1_callOf_111 rfl (lv_at hl 4 rfl) ?_
        refine lv_aload_n hx hb dX1_callOf_112 rfl (lv_at hl 1 rfl) ?_
        obtain ⟨k38, hk38⟩ := va_pl_get (X := xX F (sS, sP, sQ, sE, ec, sc, vl, LP, sT)) (f := thP sT) (hok.2.2.2.1 p0 hp0 _ ho2)
        refine va_getN (D := D) (ci := 0) (v := .int ((sT q3).2.1)) (C := RX0) (T := TX0) (N := 6) hx hb hts (by decide +kernel) hown hK hP k38 hk38 rfl 1 (by decide) (va_Nw.use rfl (hN (.fieldLinkNest RX1 83 "FamilyProbes$Thing" "n" "I" "FamilyProbes") (by decide +kernel))) (fun _ h9 => h9) rfl dX1_callOf_113 ?_
        refine lv_imul hx hb dX1_callOf_116 ?_
        exact W.iret (v := (p1 * (sT q3).2.1)) hx hb hr (fun tE ht hW => ⟨⟨(p1 * (sT q3).2.1), (sS, sP, sQ, sE, ec, sc, vl, LP, sT), rfl, by first | (simp only [sCall, uC, chase, fCall, gS, gP, gQ, gE, gec, gsc, gvl, gL, gT, ho2, ho25, c28, c30, c32, c34, c35, c37, eq_self, ↓reduceIte, Bool.false_eq_true, Bool.not_false, Bool.not_true, Bool.and_true, Bool.and_false, Bool.true_and, Bool.false_and, decide_true, decide_false] <;> first | done | decide) | (simp [sCall, uC, chase, fCall, gS, gP, gQ, gE, gec, gsc, gvl, gL, gT, ho2, ho25, c28, c30, c32, c34, c35, c37]; done) | (exfalso; simp_all; done), by rw [ht]; exact hP, va_K.moved hW.alike hK, hD⟩, hS.F ht⟩) hS.2.2 dX1_callOf_117
      by_cases c39 : (sT q3).1 = 6
      · refine lv_tableIn (off := 85) (tgt := 118) hx hb dX1_callOf_33 (by rw [c39]; decide) (by rw [c39]; decide) (by rw [c39]; rfl) (by decide) ?_
        refine lv_aload_n hx hb dX1_callOf_118 rfl (lv_at hl 2 rfl) ?_
        refine lv_dup hx hb dX1_callOf_119 rfl ?_
        refine va_get (D := D) (ci := 1) (v := .int sc) (C := RX1) (T := TX1) (N := 9) hx hb hts (by decide +kernel) hown hK hP 0 rfl rfl 7 (by decide) (hts (.fieldLink RX1 169 "FamilyProbes" "shadowCalls" "I") (by decide +kernel)) (fun _ h9 => h9) rfl dX1_callOf_120 ?_
        refine lv_iconst (v := 1) hx hb dX1_callOf_123 (by decide) ?_
        refine lv_iadd hx hb dX1_callOf_124 ?_
        refine va_put (D := D) (ci := 1) (v := .int (sc + 1)) (ty := .int) (C := RX1) (T := TX1) (N := 9) hx hb hts (by decide +kernel) tyX1 tyX1_ok nmX1 hown hK hP hD hS 0 rfl rfl 7 (by decide) (hts (.fieldLink RX1 169 "FamilyProbes" "shadowCalls" "I") (by decide +kernel)) (fun _ h9 => h9) rfl (by decide +kernel) rfl rfl (Nat.le_of_ble_eq_true rfl) dX1_callOf_125 (fun H locs hP hD hS => ?_)
        have hP : va_P D vwCl (xW F (sS, sP, sQ, sE, ec, (sc + 1), vl, LP, sT)) H := hP
        have hD : va_D A (xW F (sS, sP, sQ, sE, ec, (sc + 1), vl, LP, sT)) := hD
        refine lv_iload_n hx hb dX1_callOf_128 rfl (lv_at hl 4 rfl) ?_
        refine lv_aload_n hx hb dX1_callOf_129 rfl (lv_at hl 1 rfl) ?_
        obtain ⟨k40, hk40⟩ := va_pl_get (X := xX F (sS, sP, sQ, sE, ec, (sc + 1), vl, LP, sT)) (f := thP sT) (hok.2.2.2.1 p0 hp0 _ ho2)
        refine va_getN (D := D) (ci := 0) (v := .int ((sT q3).2.1)) (C := RX0) (T := TX0) (N := 6) hx hb hts (by decide +kernel) hown hK hP k40 hk40 rfl 1 (by decide) (va_Nw.use rfl (hN (.fieldLinkNest RX1 83 "FamilyProbes$Thing" "n" "I" "FamilyProbes") (by decide +kernel))) (fun _ h9 => h9) rfl dX1_callOf_130 ?_
        refine lv_iadd hx hb dX1_callOf_133 ?_
        refine lv_aload_n hx hb dX1_callOf_134 rfl (lv_at hl 2 rfl) ?_
        refine va_get (D := D) (ci := 1) (v := .int (sc + 1)) (C := RX1) (T := TX1) (N := 9) hx hb hts (by decide +kernel) hown hK hP 0 rfl rfl 7 (by decide) (hts (.fieldLink RX1 169 "FamilyProbes" "shadowCalls" "I") (by decide +kernel)) (fun _ h9 => h9) rfl dX1_callOf_135 ?_
        refine lv_iadd hx hb dX1_callOf_138 ?_
        exact W.iret (v := ((p1 + (sT q3).2.1) + (sc + 1))) hx hb hr (fun tE ht hW => ⟨⟨((p1 + (sT q3).2.1) + (sc + 1)), (sS, sP, sQ, sE, ec, (sc + 1), vl, LP, sT), rfl, by first | (simp only [sCall, uC, chase, fCall, gS, gP, gQ, gE, gec, gsc, gvl, gL, gT, ho2, ho25, c28, c30, c32, c34, c35, c37, c39, eq_self, ↓reduceIte, Bool.false_eq_true, Bool.not_false, Bool.not_true, Bool.and_true, Bool.and_false, Bool.true_and, Bool.false_and, decide_true, decide_false] <;> first | done | decide) | (simp [sCall, uC, chase, fCall, gS, gP, gQ, gE, gec, gsc, gvl, gL, gT, ho2, ho25, c28, c30, c32, c34, c35, c37, c39]; done) | (exfalso; simp_all; done), by rw [ht]; exact hP, va_K.moved hW.alike hK, hD⟩, hS.F ht⟩) hS.2.2 dX1_callOf_139
      by_cases c41 : (sT q3).1 = 7
      · refine lv_tableIn (off := 78) (tgt := 111) hx hb dX1_callOf_33 (by rw [c41]; decide) (by rw [c41]; decide) (by rw [c41]; rfl) (by decide) ?_
        refine lv_iload_n hx hb dX1_callOf_111 rfl (lv_at hl 4 rfl) ?_
        refine lv_aload_n hx hb dX1_callOf_112 rfl (lv_at hl 1 rfl) ?_
        obtain ⟨k42, hk42⟩ := va_pl_get (X := xX F (sS, sP, sQ, sE, ec, sc, vl, LP, sT)) (f := thP sT) (hok.2.2.2.1 p0 hp0 _ ho2)
        refine va_getN (D := D) (ci := 0) (v := .int ((sT q3).2.1)) (C := RX0) (T := TX0) (N := 6) hx hb hts (by decide +kernel) hown hK hP k42 hk42 rfl 1 (by decide) (va_Nw.use rfl (hN (.fieldLinkNest RX1 83 "FamilyProbes$Thing" "n" "I" "FamilyProbes") (by decide +kernel))) (fun _ h9 => h9) rfl dX1_callOf_113 ?_
        refine lv_imul hx hb dX1_callOf_116 ?_
        exact W.iret (v := (p1 * (sT q3).2.1)) hx hb hr (fun tE ht hW => ⟨⟨(p1 * (sT q3).2.1), (sS, sP, sQ, sE, ec, sc, vl, LP, sT), rfl, by first | (simp only [sCall, uC, chase, fCall, gS, gP, gQ, gE, gec, gsc, gvl, gL, gT, ho2, ho25, c28, c30, c32, c34, c35, c37, c39, c41, eq_self, ↓reduceIte, Bool.false_eq_true, Bool.not_false, Bool.not_true, Bool.and_true, Bool.and_false, Bool.true_and, Bool.false_and, decide_true, decide_false] <;> first | done | decide) | (simp [sCall, uC, chase, fCall, gS, gP, gQ, gE, gec, gsc, gvl, gL, gT, ho2, ho25, c28, c30, c32, c34, c35, c37, c39, c41]; done) | (exfalso; simp_all; done), by rw [ht]; exact hP, va_K.moved hW.alike hK, hD⟩, hS.F ht⟩) hS.2.2 dX1_callOf_117
      by_cases c43 : (sT q3).1 = 8
      · refine lv_tableIn (off := 107) (tgt := 140) hx hb dX1_callOf_33 (by rw [c43]; decide) (by rw [c43]; decide) (by rw [c43]; rfl) (by decide) ?_
        refine lv_iload_n hx hb dX1_callOf_140 rfl (lv_at hl 4 rfl) ?_
        exact W.iret (v := p1) hx hb hr (fun tE ht hW => ⟨⟨p1, (sS, sP, sQ, sE, ec, sc, vl, LP, sT), rfl, by first | (simp only [sCall, uC, chase, fCall, gS, gP, gQ, gE, gec, gsc, gvl, gL, gT, ho2, ho25, c28, c30, c32, c34, c35, c37, c39, c41, c43, eq_self, ↓reduceIte, Bool.false_eq_true, Bool.not_false, Bool.not_true, Bool.and_true, Bool.and_false, Bool.true_and, Bool.false_and, decide_true, decide_false] <;> first | done | decide) | (simp [sCall, uC, chase, fCall, gS, gP, gQ, gE, gec, gsc, gvl, gL, gT, ho2, ho25, c28, c30, c32, c34, c35, c37, c39, c41, c43]; done) | (exfalso; simp_all; done), by rw [ht]; exact hP, va_K.moved hW.alike hK, hD⟩, hS.F ht⟩) hS.2.2 dX1_callOf_141
      by_cases c44 : (sT q3).1 = 9
      · refine lv_tableIn (off := 62) (tgt := 95) hx hb dX1_callOf_33 (by rw [c44]; decide) (by rw [c44]; decide) (by rw [c44]; rfl) (by decide) ?_
        refine lv_iload_n hx hb dX1_callOf_95 rfl (lv_at hl 4 rfl) ?_
        refine lv_aload_n hx hb dX1_callOf_96 rfl (lv_at hl 1 rfl) ?_
        obtain ⟨k45, hk45⟩ := va_pl_get (X := xX F (sS, sP, sQ, sE, ec, sc, vl, LP, sT)) (f := thP sT) (hok.2.2.2.1 p0 hp0 _ ho2)
        refine va_getN (D := D) (ci := 0) (v := .int ((sT q3).2.1)) (C := RX0) (T := TX0) (N := 6) hx hb hts (by decide +kernel) hown hK hP k45 hk45 rfl 1 (by decide) (va_Nw.use rfl (hN (.fieldLinkNest RX1 83 "FamilyProbes$Thing" "n" "I" "FamilyProbes") (by decide +kernel))) (fun _ h9 => h9) rfl dX1_callOf_97 ?_
        refine lv_isub hx hb dX1_callOf_100 ?_
        exact W.iret (v := (p1 - (sT q3).2.1)) hx hb hr (fun tE ht hW => ⟨⟨(p1 - (sT q3).2.1), (sS, sP, sQ, sE, ec, sc, vl, LP, sT), rfl, by first | (simp only [sCall, uC, chase, fCall, gS, gP, gQ, gE, gec, gsc, gvl, gL, gT, ho2, ho25, c28, c30, c32, c34, c35, c37, c39, c41, c43, c44, eq_self, ↓reduceIte, Bool.false_eq_true, Bool.not_false, Bool.not_true, Bool.and_true, Bool.and_false, Bool.true_and, Bool.false_and, decide_true, decide_false] <;> first | done | decide) | (simp [sCall, uC, chase, fCall, gS, gP, gQ, gE, gec, gsc, gvl, gL, gT, ho2, ho25, c28, c30, c32, c34, c35, c37, c39, c41, c43, c44]; done) | (exfalso; simp_all; done), by rw [ht]; exact hP, va_K.moved hW.alike hK, hD⟩, hS.F ht⟩) hS.2.2 dX1_callOf_101
      refine lv_tableOut (tgt := 140) hx hb dX1_callOf_33 (by have z0 := lv_neT (k := 0) (a := 0) c28 (by decide); have z1 := lv_neT (k := 1) (a := 1) c30 (by decide); have z2 := lv_neT (k := 2) (a := 2) c32 (by decide); have z3 := lv_neT (k := 3) (a := 3) c34 (by decide); have z4 := lv_neT (k := 4) (a := 4) c35 (by decide); have z5 := lv_neT (k := 5) (a := 5) c37 (by decide); have z6 := lv_neT (k := 6) (a := 6) c39 (by decide); have z7 := lv_neT (k := 7) (a := 7) c41 (by decide); have z8 := lv_neT (k := 8) (a := 8) c43 (by decide); have z9 := lv_neT (k := 9) (a := 9) c44 (by decide); omega) (by decide) ?_
      refine lv_iload_n hx hb dX1_callOf_140 rfl (lv_at hl 4 rfl) ?_
      exact W.iret (v := p1) hx hb hr (fun tE ht hW => ⟨⟨p1, (sS, sP, sQ, sE, ec, sc, vl, LP, sT), rfl, by first | (simp only [sCall, uC, chase, fCall, gS, gP, gQ, gE, gec, gsc, gvl, gL, gT, ho2, ho25, c28, c30, c32, c34, c35, c37, c39, c41, c43, c44, eq_self, ↓reduceIte, Bool.false_eq_true, Bool.not_false, Bool.not_true, Bool.and_true, Bool.and_false, Bool.true_and, Bool.false_and, decide_true, decide_false] <;> first | done | decide) | (simp [sCall, uC, chase, fCall, gS, gP, gQ, gE, gec, gsc, gvl, gL, gT, ho2, ho25, c28, c30, c32, c34, c35, c37, c39, c41, c43, c44]; done) | (exfalso; simp_all; done), by rw [ht]; exact hP, va_K.moved hW.alike hK, hD⟩, hS.F ht⟩) hS.2.2 dX1_callOf_141
    · refine lv_ifnull hx hb dX1_callOf_15 ?_
      refine lv_aload_n hx hb dX1_callOf_18 rfl (lv_at hl 1 rfl) ?_
      obtain ⟨k46, hk46⟩ := va_pl_get (X := xX F (sS, sP, sQ, sE, ec, sc, vl, LP, sT)) (f := thP sT) (hok.2.2.2.1 p0 hp0 _ ho2)
      refine va_getN (D := D) (ci := 0) (v := .ref q26) (C := RX0) (T := TX0) (N := 6) hx hb hts (by decide +kernel) hown hK hP k46 hk46 rfl 2 (by decide) (va_Nw.use rfl (hN (.fieldLinkNest RX1 166 "FamilyProbes$Thing" "source" "LFamilyProbes$Thing;" "FamilyProbes") (by decide +kernel))) (fun _ h9 => h9) (by show some (va_rf ((sT q3).2.2.1)) = some (.ref q26); rw [ho25]; rfl) dX1_callOf_19 ?_
      refine lv_astore_n (lv' := [(3, .ref q26), (4, .int 1), (0, .ref F.1), (1, .ref p0), (2, .int p1)]) hx hb dX1_callOf_22 rfl hl (by decide) rfl (fun ls hl => ?_)
      refine lv_iinc (v := 2) (lv' := [(4, .int 2), (3, .ref q26), (0, .ref F.1), (1, .ref p0), (2, .int p1)]) hx hb dX1_callOf_23 hl (k := 1) rfl (by decide) (by decide) rfl (fun ls hl => ?_)
      refine lv_goto (tgt := 5) hx hb dX1_callOf_26 (by decide) ?_
      refine lv_iload hx hb dX1_callOf_5 (lv_at hl 0 rfl) ?_
      refine lv_iconst (v := 3) hx hb dX1_callOf_7 (by decide) ?_
      refine lv_icmp_ge (tgt := 29) hx hb dX1_callOf_8 (by decide) (fun cz => absurd cz (by decide)) (fun _ => ?_)
      refine lv_aload_n hx hb dX1_callOf_11 rfl (lv_at hl 1 rfl) ?_
      obtain ⟨k47, hk47⟩ := va_pl_get (X := xX F (sS, sP, sQ, sE, ec, sc, vl, LP, sT)) (f := thP sT) (hok.2.2.2.1 q3 (hok.2.2.2.1 p0 hp0 _ ho2) _ ho25)
      refine va_getN (D := D) (ci := 0) (v := va_rf ((sT q26).2.2.1)) (C := RX0) (T := TX0) (N := 6) hx hb hts (by decide +kernel) hown hK hP k47 hk47 rfl 2 (by decide) (va_Nw.use rfl (hN (.fieldLinkNest RX1 166 "FamilyProbes$Thing" "source" "LFamilyProbes$Thing;" "FamilyProbes") (by decide +kernel))) (fun _ h9 => h9) rfl dX1_callOf_12 ?_
      rcases ho48 : (sT q26).2.2.1 with _ | q49
      · refine lv_ifnullN (tgt := 29) hx hb dX1_callOf_15 (by decide) ?_
        refine lv_aload_n hx hb dX1_callOf_29 rfl (lv_at hl 1 rfl) ?_
        obtain ⟨k50, hk50⟩ := va_pl_get (X := xX F (sS, sP, sQ, sE, ec, sc, vl, LP, sT)) (f := thP sT) (hok.2.2.2.1 q3 (hok.2.2.2.1 p0 hp0 _ ho2) _ ho25)
        refine va_getN (D := D) (ci := 0) (v := .int ((sT q26).1)) (C := RX0) (T := TX0) (N := 6) hx hb hts (by decide +kernel) hown hK hP k50 hk50 rfl 0 (by decide) (va_Nw.use rfl (hN (.fieldLinkNest RX1 118 "FamilyProbes$Thing" "kind" "I" "FamilyProbes") (by decide +kernel))) (fun _ h9 => h9) rfl dX1_callOf_30 ?_
        by_cases c51 : (sT q26).1 = 0
        · refine lv_tableIn (off := 55) (tgt := 88) hx hb dX1_callOf_33 (by rw [c51]; decide) (by rw [c51]; decide) (by rw [c51]; rfl) (by decide) ?_
          refine lv_iload_n hx hb dX1_callOf_88 rfl (lv_at hl 4 rfl) ?_
          refine lv_aload_n hx hb dX1_callOf_89 rfl (lv_at hl 1 rfl) ?_
          obtain ⟨k52, hk52⟩ := va_pl_get (X := xX F (sS, sP, sQ, sE, ec, sc, vl, LP, sT)) (f := thP sT) (hok.2.2.2.1 q3 (hok.2.2.2.1 p0 hp0 _ ho2) _ ho25)
          refine va_getN (D := D) (ci := 0) (v := .int ((sT q26).2.1)) (C := RX0) (T := TX0) (N := 6) hx hb hts (by decide +kernel) hown hK hP k52 hk52 rfl 1 (by decide) (va_Nw.use rfl (hN (.fieldLinkNest RX1 83 "FamilyProbes$Thing" "n" "I" "FamilyProbes") (by decide +kernel))) (fun _ h9 => h9) rfl dX1_callOf_90 ?_
          refine lv_iadd hx hb dX1_callOf_93 ?_
          exact W.iret (v := (p1 + (sT q26).2.1)) hx hb hr (fun tE ht hW => ⟨⟨(p1 + (sT q26).2.1), (sS, sP, sQ, sE, ec, sc, vl, LP, sT), rfl, by first | (simp only [sCall, uC, chase, fCall, gS, gP, gQ, gE, gec, gsc, gvl, gL, gT, ho2, ho25, ho48, c51, eq_self, ↓reduceIte, Bool.false_eq_true, Bool.not_false, Bool.not_true, Bool.and_true, Bool.and_false, Bool.true_and, Bool.false_and, decide_true, decide_false] <;> first | done | decide) | (simp [sCall, uC, chase, fCall, gS, gP, gQ, gE, gec, gsc, gvl, gL, gT, ho2, ho25, ho48, c51]; done) | (exfalso; simp_all; done), by rw [ht]; exact hP, va_K.moved hW.alike hK, hD⟩, hS.F ht⟩) hS.2.2 dX1_callOf_94
        by_cases c53 : (sT q26).1 = 1
        · refine lv_tableIn (off := 62) (tgt := 95) hx hb dX1_callOf_33 (by rw [c53]; decide) (by rw [c53]; decide) (by rw [c53]; rfl) (by decide) ?_
          refine lv_iload_n hx hb dX1_callOf_95 rfl (lv_at hl 4 rfl) ?_
          refine lv_aload_n hx hb dX1_callOf_96 rfl (lv_at hl 1 rfl) ?_
          obtain ⟨k54, hk54⟩ := va_pl_get (X := xX F (sS, sP, sQ, sE, ec, sc, vl, LP, sT)) (f := thP sT) (hok.2.2.2.1 q3 (hok.2.2.2.1 p0 hp0 _ ho2) _ ho25)
          refine va_getN (D := D) (ci := 0) (v := .int ((sT q26).2.1)) (C := RX0) (T := TX0) (N := 6) hx hb hts (by decide +kernel) hown hK hP k54 hk54 rfl 1 (by decide) (va_Nw.use rfl (hN (.fieldLinkNest RX1 83 "FamilyProbes$Thing" "n" "I" "FamilyProbes") (by decide +kernel))) (fun _ h9 => h9) rfl dX1_callOf_97 ?_
          refine lv_isub hx hb dX1_callOf_100 ?_
          exact W.iret (v := (p1 - (sT q26).2.1)) hx hb hr (fun tE ht hW => ⟨⟨(p1 - (sT q26).2.1), (sS, sP, sQ, sE, ec, sc, vl, LP, sT), rfl, by first | (simp only [sCall, uC, chase, fCall, gS, gP, gQ, gE, gec, gsc, gvl, gL, gT, ho2, ho25, ho48, c51, c53, eq_self, ↓reduceIte, Bool.false_eq_true, Bool.not_false, Bool.not_true, Bool.and_true, Bool.and_false, Bool.true_and, Bool.false_and, decide_true, decide_false] <;> first | done | decide) | (simp [sCall, uC, chase, fCall, gS, gP, gQ, gE, gec, gsc, gvl, gL, gT, ho2, ho25, ho48, c51, c53]; done) | (exfalso; simp_all; done), by rw [ht]; exact hP, va_K.moved hW.alike hK, hD⟩, hS.F ht⟩) hS.2.2 dX1_callOf_101
        by_cases c55 : (sT q26).1 = 2
        · refine lv_tableIn (off := 69) (tgt := 102) hx hb dX1_callOf_33 (by rw [c55]; decide) (by rw [c55]; decide) (by rw [c55]; rfl) (by decide) ?_
          refine lv_iconst (v := 2) hx hb dX1_callOf_102 (by decide) ?_
          refine lv_iload_n hx hb dX1_callOf_103 rfl (lv_at hl 4 rfl) ?_
          refine lv_aload_n hx hb dX1_callOf_104 rfl (lv_at hl 1 rfl) ?_
          obtain ⟨k56, hk56⟩ := va_pl_get (X := xX F (sS, sP, sQ, sE, ec, sc, vl, LP, sT)) (f := thP sT) (hok.2.2.2.1 q3 (hok.2.2.2.1 p0 hp0 _ ho2) _ ho25)
          refine va_getN (D := D) (ci := 0) (v := .int ((sT q26).2.1)) (C := RX0) (T := TX0) (N := 6) hx hb hts (by decide +kernel) hown hK hP k56 hk56 rfl 1 (by decide) (va_Nw.use rfl (hN (.fieldLinkNest RX1 83 "FamilyProbes$Thing" "n" "I" "FamilyProbes") (by decide +kernel))) (fun _ h9 => h9) rfl dX1_callOf_105 ?_
          refine lv_isub hx hb dX1_callOf_108 ?_
          refine lv_imul hx hb dX1_callOf_109 ?_
          exact W.iret (v := (2 * (p1 - (sT q26).2.1))) hx hb hr (fun tE ht hW => ⟨⟨(2 * (p1 - (sT q26).2.1)), (sS, sP, sQ, sE, ec, sc, vl, LP, sT), rfl, by first | (simp only [sCall, uC, chase, fCall, gS, gP, gQ, gE, gec, gsc, gvl, gL, gT, ho2, ho25, ho48, c51, c53, c55, eq_self, ↓reduceIte, Bool.false_eq_true, Bool.not_false, Bool.not_true, Bool.and_true, Bool.and_false, Bool.true_and, Bool.false_and, decide_true, decide_false] <;> first | done | decide) | (simp [sCall, uC, chase, fCall, gS, gP, gQ, gE, gec, gsc, gvl, gL, gT, ho2, ho25, ho48, c51, c53, c55]; done) | (exfalso; simp_all; done), by rw [ht]; exact hP, va_K.moved hW.alike hK, hD⟩, hS.F ht⟩) hS.2.2 dX1_callOf_110
        by_cases c57 : (sT q26).1 = 3
        · refine lv_tableIn (off := 107) (tgt := 140) hx hb dX1_callOf_33 (by rw [c57]; decide) (by rw [c57]; decide) (by rw [c57]; rfl) (by decide) ?_
          refine lv_iload_n hx hb dX1_callOf_140 rfl (lv_at hl 4 rfl) ?_
          exact W.iret (v := p1) hx hb hr (fun tE ht hW => ⟨⟨p1, (sS, sP, sQ, sE, ec, sc, vl, LP, sT), rfl, by first | (simp only [sCall, uC, chase, fCall, gS, gP, gQ, gE, gec, gsc, gvl, gL, gT, ho2, ho25, ho48, c51, c53, c55, c57, eq_self, ↓reduceIte, Bool.false_eq_true, Bool.not_false, Bool.not_true, Bool.and_true, Bool.and_false, Bool.true_and, Bool.false_and, decide_true, decide_false] <;> first | done | decide) | (simp [sCall, uC, chase, fCall, gS, gP, gQ, gE, gec, gsc, gvl, gL, gT, ho2, ho25, ho48, c51, c53, c55, c57]; done) | (exfalso; simp_all; done), by rw [ht]; exact hP, va_K.moved hW.alike hK, hD⟩, hS.F ht⟩) hS.2.2 dX1_callOf_141
        by_cases c58 : (sT q26).1 = 4
        · refine lv_tableIn (off := 55) (tgt := 88) hx hb dX1_callOf_33 (by rw [c58]; decide) (by rw [c58]; decide) (by rw [c58]; rfl) (by decide) ?_
          refine lv_iload_n hx hb dX1_callOf_88 rfl (lv_at hl 4 rfl) ?_
          refine lv_aload_n hx hb dX1_callOf_89 rfl (lv_at hl 1 rfl) ?_
          obtain ⟨k59, hk59⟩ := va_pl_get (X := xX F (sS, sP, sQ, sE, ec, sc, vl, LP, sT)) (f := thP sT) (hok.2.2.2.1 q3 (hok.2.2.2.1 p0 hp0 _ ho2) _ ho25)
          refine va_getN (D := D) (ci := 0) (v := .int ((sT q26).2.1)) (C := RX0) (T := TX0) (N := 6) hx hb hts (by decide +kernel) hown hK hP k59 hk59 rfl 1 (by decide) (va_Nw.use rfl (hN (.fieldLinkNest RX1 83 "FamilyProbes$Thing" "n" "I" "FamilyProbes") (by decide +kernel))) (fun _ h9 => h9) rfl dX1_callOf_90 ?_
          refine lv_iadd hx hb dX1_callOf_93 ?_
          exact W.iret (v := (p1 + (sT q26).2.1)) hx hb hr (fun tE ht hW => ⟨⟨(p1 + (sT q26).2.1), (sS, sP, sQ, sE, ec, sc, vl, LP, sT), rfl, by first | (simp only [sCall, uC, chase, fCall, gS, gP, gQ, gE, gec, gsc, gvl, gL, gT, ho2, ho25, ho48, c51, c53, c55, c57, c58, eq_self, ↓reduceIte, Bool.false_eq_true, Bool.not_false, Bool.not_true, Bool.and_true, Bool.and_false, Bool.true_and, Bool.false_and, decide_true, decide_false] <;> first | done | decide) | (simp [sCall, uC, chase, fCall, gS, gP, gQ, gE, gec, gsc, gvl, gL, gT, ho2, ho25, ho48, c51, c53, c55, c57, c58]; done) | (exfalso; simp_all; done), by rw [ht]; exact hP, va_K.moved hW.alike hK, hD⟩, hS.F ht⟩) hS.2.2 dX1_callOf_94
        by_cases c60 : (sT q26).1 = 5
        · refine lv_tableIn (off := 78) (tgt := 111) hx hb dX1_callOf_33 (by rw [c60]; decide) (by rw [c60]; decide) (by rw [c60]; rfl) (by decide) ?_
          refine lv_iload_n hx hb dX1_callOf_111 rfl (lv_at hl 4 rfl) ?_
          refine lv_aload_n hx hb dX1_callOf_112 rfl (lv_at hl 1 rfl) ?_
          obtain ⟨k61, hk61⟩ := va_pl_get (X := xX F (sS, sP, sQ, sE, ec, sc, vl, LP, sT)) (f := thP sT) (hok.2.2.2.1 q3 (hok.2.2.2.1 p0 hp0 _ ho2) _ ho25)
          refine va_getN (D := D) (ci := 0) (v := .int ((sT q26).2.1)) (C := RX0) (T := TX0) (N := 6) hx hb hts (by decide +kernel) hown hK hP k61 hk61 rfl 1 (by decide) (va_Nw.use rfl (hN (.fieldLinkNest RX1 83 "FamilyProbes$Thing" "n" "I" "FamilyProbes") (by decide +kernel))) (fun _ h9 => h9) rfl dX1_callOf_113 ?_
          refine lv_imul hx hb dX1_callOf_116 ?_
          exact W.iret (v := (p1 * (sT q26).2.1)) hx hb hr (fun tE ht hW => ⟨⟨(p1 * (sT q26).2.1), (sS, sP, sQ, sE, ec, sc, vl, LP, sT), rfl, by first | (simp only [sCall, uC, chase, fCall, gS, gP, gQ, gE, gec, gsc, gvl, gL, gT, ho2, ho25, ho48, c51, c53, c55, c57, c58, c60, eq_self, ↓reduceIte, Bool.false_eq_true, Bool.not_false, Bool.not_true, Bool.and_true, Bool.and_false, Bool.true_and, Bool.false_and, decide_true, decide_false] <;> first | done | decide) | (simp [sCall, uC, chase, fCall, gS, gP, gQ, gE, gec, gsc, gvl, gL, gT, ho2, ho25, ho48, c51, c53, c55, c57, c58, c60]; done) | (exfalso; simp_all; done), by rw [ht]; exact hP, va_K.moved hW.alike hK, hD⟩, hS.F ht⟩) hS.2.2 dX1_callOf_117
        by_cases c62 : (sT q26).1 = 6
        · refine lv_tableIn (off := 85) (tgt := 118) hx hb dX1_callOf_33 (by rw [c62]; decide) (by rw [c62]; decide) (by rw [c62]; rfl) (by decide) ?_
          refine lv_aload_n hx hb dX1_callOf_118 rfl (lv_at hl 2 rfl) ?_
          refine lv_dup hx hb dX1_callOf_119 rfl ?_
          refine va_get (D := D) (ci := 1) (v := .int sc) (C := RX1) (T := TX1) (N := 9) hx hb hts (by decide +kernel) hown hK hP 0 rfl rfl 7 (by decide) (hts (.fieldLink RX1 169 "FamilyProbes" "shadowCalls" "I") (by decide +kernel)) (fun _ h9 => h9) rfl dX1_callOf_120 ?_
          refine lv_iconst (v := 1) hx hb dX1_callOf_123 (by decide) ?_
          refine lv_iadd hx hb dX1_callOf_124 ?_
          refine va_put (D := D) (ci := 1) (v := .int (sc + 1)) (ty := .int) (C := RX1) (T := TX1) (N := 9) hx hb hts (by decide +kernel) tyX1 tyX1_ok nmX1 hown hK hP hD hS 0 rfl rfl 7 (by decide) (hts (.fieldLink RX1 169 "FamilyProbes" "shadowCalls" "I") (by decide +kernel)) (fun _ h9 => h9) rfl (by decide +kernel) rfl rfl (Nat.le_of_ble_eq_true rfl) dX1_callOf_125 (fun H locs hP hD hS => ?_)
          have hP : va_P D vwCl (xW F (sS, sP, sQ, sE, ec, (sc + 1), vl, LP, sT)) H := hP
          have hD : va_D A (xW F (sS, sP, sQ, sE, ec, (sc + 1), vl, LP, sT)) := hD
          refine lv_iload_n hx hb dX1_callOf_128 rfl (lv_at hl 4 rfl) ?_
          refine lv_aload_n hx hb dX1_callOf_129 rfl (lv_at hl 1 rfl) ?_
          obtain ⟨k63, hk63⟩ := va_pl_get (X := xX F (sS, sP, sQ, sE, ec, (sc + 1), vl, LP, sT)) (f := thP sT) (hok.2.2.2.1 q3 (hok.2.2.2.1 p0 hp0 _ ho2) _ ho25)
          refine va_getN (D := D) (ci := 0) (v := .int ((sT q26).2.1)) (C := RX0) (T := TX0) (N := 6) hx hb hts (by decide +kernel) hown hK hP k63 hk63 rfl 1 (by decide) (va_Nw.use rfl (hN (.fieldLinkNest RX1 83 "FamilyProbes$Thing" "n" "I" "FamilyProbes") (by decide +kernel))) (fun _ h9 => h9) rfl dX1_callOf_130 ?_
          refine lv_iadd hx hb dX1_callOf_133 ?_
          refine lv_aload_n hx hb dX1_callOf_134 rfl (lv_at hl 2 rfl) ?_
          refine va_get (D := D) (ci := 1) (v := .int (sc + 1)) (C := RX1) (T := TX1) (N := 9) hx hb hts (by decide +kernel) hown hK hP 0 rfl rfl 7 (by decide) (hts (.fieldLink RX1 169 "FamilyProbes" "shadowCalls" "I") (by decide +kernel)) (fun _ h9 => h9) rfl dX1_callOf_135 ?_
          refine lv_iadd hx hb dX1_callOf_138 ?_
          exact W.iret (v := ((p1 + (sT q26).2.1) + (sc + 1))) hx hb hr (fun tE ht hW => ⟨⟨((p1 + (sT q26).2.1) + (sc + 1)), (sS, sP, sQ, sE, ec, (sc + 1), vl, LP, sT), rfl, by first | (simp only [sCall, uC, chase, fCall, gS, gP, gQ, gE, gec, gsc, gvl, gL, gT, ho2, ho25, ho48, c51, c53, c55, c57, c58, c60, c62, eq_self, ↓reduceIte, Bool.false_eq_true, Bool.not_false, Bool.not_true, Bool.and_true, Bool.and_false, Bool.true_and, Bool.false_and, decide_true, decide_false] <;> first | done | decide) | (simp [sCall, uC, chase, fCall, gS, gP, gQ, gE, gec, gsc, gvl, gL, gT, ho2, ho25, ho48, c51, c53, c55, c57, c58, c60, c62]; done) | (exfalso; simp_all; done), by rw [ht]; exact hP, va_K.moved hW.alike hK, hD⟩, hS.F ht⟩) hS.2.2 dX1_callOf_139
        by_cases c64 : (sT q26).1 = 7
        · refine lv_tableIn (off := 78) (tgt := 111) hx hb dX1_callOf_33 (by rw [c64]; decide) (by rw [c64]; decide) (by rw [c64]; rfl) (by decide) ?_
          refine lv_iload_n hx hb dX1_callOf_111 rfl (lv_at hl 4 rfl) ?_
          refine lv_aload_n hx hb dX1_callOf_112 rfl (lv_at hl 1 rfl) ?_
          obtain ⟨k65, hk65⟩ := va_pl_get (X := xX F (sS, sP, sQ, sE, ec, sc, vl, LP, sT)) (f := thP sT) (hok.2.2.2.1 q3 (hok.2.2.2.1 p0 hp0 _ ho2) _ ho25)
          refine va_getN (D := D) (ci := 0) (v := .int ((sT q26).2.1)) (C := RX0) (T := TX0) (N := 6) hx hb hts (by decide +kernel) hown hK hP k65 hk65 rfl 1 (by decide) (va_Nw.use rfl (hN (.fieldLinkNest RX1 83 "FamilyProbes$Thing" "n" "I" "FamilyProbes") (by decide +kernel))) (fun _ h9 => h9) rfl dX1_callOf_113 ?_
          refine lv_imul hx hb dX1_callOf_116 ?_
          exact W.iret (v := (p1 * (sT q26).2.1)) hx hb hr (fun tE ht hW => ⟨⟨(p1 * (sT q26).2.1), (sS, sP, sQ, sE, ec, sc, vl, LP, sT), rfl, by first | (simp only [sCall, uC, chase, fCall, gS, gP, gQ, gE, gec, gsc, gvl, gL, gT, ho2, ho25, ho48, c51, c53, c55, c57, c58, c60, c62, c64, eq_self, ↓reduceIte, Bool.false_eq_true, Bool.not_false, Bool.not_true, Bool.and_true, Bool.and_false, Bool.true_and, Bool.false_and, decide_true, decide_false] <;> first | done | decide) | (simp [sCall, uC, chase, fCall, gS, gP, gQ, gE, gec, gsc, gvl, gL, gT, ho2, ho25, ho48, c51, c53, c55, c57, c58, c60, c62, c64]; done) | (exfalso; simp_all; done), by rw [ht]; exact hP, va_K.moved hW.alike hK, hD⟩, hS.F ht⟩) hS.2.2 dX1_callOf_117
        by_cases c66 : (sT q26).1 = 8
        · refine lv_tableIn (off := 107) (tgt := 140) hx hb dX1_callOf_33 (by rw [c66]; decide) (by rw [c66]; decide) (by rw [c66]; rfl) (by decide) ?_
          refine lv_iload_n hx hb dX1_callOf_140 rfl (lv_at hl 4 rfl) ?_
          exact W.iret (v := p1) hx hb hr (fun tE ht hW => ⟨⟨p1, (sS, sP, sQ, sE, ec, sc, vl, LP, sT), rfl, by first | (simp only [sCall, uC, chase, fCall, gS, gP, gQ, gE, gec, gsc, gvl, gL, gT, ho2, ho25, ho48, c51, c53, c55, c57, c58, c60, c62, c64, c66, eq_self, ↓reduceIte, Bool.false_eq_true, Bool.not_false, Bool.not_true, Bool.and_true, Bool.and_false, Bool.true_and, Bool.false_and, decide_true, decide_false] <;> first | done | decide) | (simp [sCall, uC, chase, fCall, gS, gP, gQ, gE, gec, gsc, gvl, gL, gT, ho2, ho25, ho48, c51, c53, c55, c57, c58, c60, c62, c64, c66]; done) | (exfalso; simp_all; done), by rw [ht]; exact hP, va_K.moved hW.alike hK, hD⟩, hS.F ht⟩) hS.2.2 dX1_callOf_141
        by_cases c67 : (sT q26).1 = 9
        · refine lv_tableIn (off := 62) (tgt := 95) hx hb dX1_callOf_33 (by rw [c67]; decide) (by rw [c67]; decide) (by rw [c67]; rfl) (by decide) ?_
          refine lv_iload_n hx hb dX1_callOf_95 rfl (lv_at hl 4 rfl) ?_
          refine lv_aload_n hx hb dX1_callOf_96 rfl (lv_at hl 1 rfl) ?_
          obtain ⟨k68, hk68⟩ := va_pl_get (X := xX F (sS, sP, sQ, sE, ec, sc, vl, LP, sT)) (f := thP sT) (hok.2.2.2.1 q3 (hok.2.2.2.1 p0 hp0 _ ho2) _ ho25)
          refine va_getN (D := D) (ci := 0) (v := .int ((sT q26).2.1)) (C := RX0) (T := TX0) (N := 6) hx hb hts (by decide +kernel) hown hK hP k68 hk68 rfl 1 (by decide) (va_Nw.use rfl (hN (.fieldLinkNest RX1 83 "FamilyProbes$Thing" "n" "I" "FamilyProbes") (by decide +kernel))) (fun _ h9 => h9) rfl dX1_callOf_97 ?_
          refine lv_isub hx hb dX1_callOf_100 ?_
          exact W.iret (v := (p1 - (sT q26).2.1)) hx hb hr (fun tE ht hW => ⟨⟨(p1 - (sT q26).2.1), (sS, sP, sQ, sE, ec, sc, vl, LP, sT), rfl, by first | (simp only [sCall, uC, chase, fCall, gS, gP, gQ, gE, gec, gsc, gvl, gL, gT, ho2, ho25, ho48, c51, c53, c55, c57, c58, c60, c62, c64, c66, c67, eq_self, ↓reduceIte, Bool.false_eq_true, Bool.not_false, Bool.not_true, Bool.and_true, Bool.and_false, Bool.true_and, Bool.false_and, decide_true, decide_false] <;> first | done | decide) | (simp [sCall, uC, chase, fCall, gS, gP, gQ, gE, gec, gsc, gvl, gL, gT, ho2, ho25, ho48, c51, c53, c55, c57, c58, c60, c62, c64, c66, c67]; done) | (exfalso; simp_all; done), by rw [ht]; exact hP, va_K.moved hW.alike hK, hD⟩, hS.F ht⟩) hS.2.2 dX1_callOf_101
        refine lv_tableOut (tgt := 140) hx hb dX1_callOf_33 (by have z0 := lv_neT (k := 0) (a := 0) c51 (by decide); have z1 := lv_neT (k := 1) (a := 1) c53 (by decide); have z2 := lv_neT (k := 2) (a := 2) c55 (by decide); have z3 := lv_neT (k := 3) (a := 3) c57 (by decide); have z4 := lv_neT (k := 4) (a := 4) c58 (by decide); have z5 := lv_neT (k := 5) (a := 5) c60 (by decide); have z6 := lv_neT (k := 6) (a := 6) c62 (by decide); have z7 := lv_neT (k := 7) (a := 7) c64 (by decide); have z8 := lv_neT (k := 8) (a := 8) c66 (by decide); have z9 := lv_neT (k := 9) (a := 9) c67 (by decide); omega) (by decide) ?_
        refine lv_iload_n hx hb dX1_callOf_140 rfl (lv_at hl 4 rfl) ?_
        exact W.iret (v := p1) hx hb hr (fun tE ht hW => ⟨⟨p1, (sS, sP, sQ, sE, ec, sc, vl, LP, sT), rfl, by first | (simp only [sCall, uC, chase, fCall, gS, gP, gQ, gE, gec, gsc, gvl, gL, gT, ho2, ho25, ho48, c51, c53, c55, c57, c58, c60, c62, c64, c66, c67, eq_self, ↓reduceIte, Bool.false_eq_true, Bool.not_false, Bool.not_true, Bool.and_true, Bool.and_false, Bool.true_and, Bool.false_and, decide_true, decide_false] <;> first | done | decide) | (simp [sCall, uC, chase, fCall, gS, gP, gQ, gE, gec, gsc, gvl, gL, gT, ho2, ho25, ho48, c51, c53, c55, c57, c58, c60, c62, c64, c66, c67]; done) | (exfalso; simp_all; done), by rw [ht]; exact hP, va_K.moved hW.alike hK, hD⟩, hS.F ht⟩) hS.2.2 dX1_callOf_141
      · refine lv_ifnull hx hb dX1_callOf_15 ?_
        refine lv_aload_n hx hb dX1_callOf_18 rfl (lv_at hl 1 rfl) ?_
        obtain ⟨k69, hk69⟩ := va_pl_get (X := xX F (sS, sP, sQ, sE, ec, sc, vl, LP, sT)) (f := thP sT) (hok.2.2.2.1 q3 (hok.2.2.2.1 p0 hp0 _ ho2) _ ho25)
        refine va_getN (D := D) (ci := 0) (v := .ref q49) (C := RX0) (T := TX0) (N := 6) hx hb hts (by decide +kernel) hown hK hP k69 hk69 rfl 2 (by decide) (va_Nw.use rfl (hN (.fieldLinkNest RX1 166 "FamilyProbes$Thing" "source" "LFamilyProbes$Thing;" "FamilyProbes") (by decide +kernel))) (fun _ h9 => h9) (by show some (va_rf ((sT q26).2.2.1)) = some (.ref q49); rw [ho48]; rfl) dX1_callOf_19 ?_
        refine lv_astore_n (lv' := [(3, .ref q49), (4, .int 2), (0, .ref F.1), (1, .ref p0), (2, .int p1)]) hx hb dX1_callOf_22 rfl hl (by decide) rfl (fun ls hl => ?_)
        refine lv_iinc (v := 3) (lv' := [(4, .int 3), (3, .ref q49), (0, .ref F.1), (1, .ref p0), (2, .int p1)]) hx hb dX1_callOf_23 hl (k := 1) rfl (by decide) (by decide) rfl (fun ls hl => ?_)
        refine lv_goto (tgt := 5) hx hb dX1_callOf_26 (by decide) ?_
        refine lv_iload hx hb dX1_callOf_5 (lv_at hl 0 rfl) ?_
        refine lv_iconst (v := 3) hx hb dX1_callOf_7 (by decide) ?_
        refine lv_icmp_ge (tgt := 29) hx hb dX1_callOf_8 (by decide) (fun _ => ?_) (fun cz => absurd cz (by decide))
        refine lv_aload_n hx hb dX1_callOf_29 rfl (lv_at hl 1 rfl) ?_
        obtain ⟨k70, hk70⟩ := va_pl_get (X := xX F (sS, sP, sQ, sE, ec, sc, vl, LP, sT)) (f := thP sT) (hok.2.2.2.1 q26 (hok.2.2.2.1 q3 (hok.2.2.2.1 p0 hp0 _ ho2) _ ho25) _ ho48)
        refine va_getN (D := D) (ci := 0) (v := .int ((sT q49).1)) (C := RX0) (T := TX0) (N := 6) hx hb hts (by decide +kernel) hown hK hP k70 hk70 rfl 0 (by decide) (va_Nw.use rfl (hN (.fieldLinkNest RX1 118 "FamilyProbes$Thing" "kind" "I" "FamilyProbes") (by decide +kernel))) (fun _ h9 => h9) rfl dX1_callOf_30 ?_
        by_cases c71 : (sT q49).1 = 0
        · refine lv_tableIn (off := 55) (tgt := 88) hx hb dX1_callOf_33 (by rw [c71]; decide) (by rw [c71]; decide) (by rw [c71]; rfl) (by decide) ?_
          refine lv_iload_n hx hb dX1_callOf_88 rfl (lv_at hl 4 rfl) ?_
          refine lv_aload_n hx hb dX1_callOf_89 rfl (lv_at hl 1 rfl) ?_
          obtain ⟨k72, hk72⟩ := va_pl_get (X := xX F (sS, sP, sQ, sE, ec, sc, vl, LP, sT)) (f := thP sT) (hok.2.2.2.1 q26 (hok.2.2.2.1 q3 (hok.2.2.2.1 p0 hp0 _ ho2) _ ho25) _ ho48)
          refine va_getN (D := D) (ci := 0) (v := .int ((sT q49).2.1)) (C := RX0) (T := TX0) (N := 6) hx hb hts (by decide +kernel) hown hK hP k72 hk72 rfl 1 (by decide) (va_Nw.use rfl (hN (.fieldLinkNest RX1 83 "FamilyProbes$Thing" "n" "I" "FamilyProbes") (by decide +kernel))) (fun _ h9 => h9) rfl dX1_callOf_90 ?_
          refine lv_iadd hx hb dX1_callOf_93 ?_
          exact W.iret (v := (p1 + (sT q49).2.1)) hx hb hr (fun tE ht hW => ⟨⟨(p1 + (sT q49).2.1), (sS, sP, sQ, sE, ec, sc, vl, LP, sT), rfl, by first | (simp only [sCall, uC, chase, fCall, gS, gP, gQ, gE, gec, gsc, gvl, gL, gT, ho2, ho25, ho48, c71, eq_self, ↓reduceIte, Bool.false_eq_true, Bool.not_false, Bool.not_true, Bool.and_true, Bool.and_false, Bool.true_and, Bool.false_and, decide_true, decide_false] <;> first | done | decide) | (simp [sCall, uC, chase, fCall, gS, gP, gQ, gE, gec, gsc, gvl, gL, gT, ho2, ho25, ho48, c71]; done) | (exfalso; simp_all; done), by rw [ht]; exact hP, va_K.moved hW.alike hK, hD⟩, hS.F ht⟩) hS.2.2 dX1_callOf_94
        by_cases c73 : (sT q49).1 = 1
        · refine lv_tableIn (off := 62) (tgt := 95) hx hb dX1_callOf_33 (by rw [c73]; decide) (by rw [c73]; decide) (by rw [c73]; rfl) (by decide) ?_
          refine lv_iload_n hx hb dX1_callOf_95 rfl (lv_at hl 4 rfl) ?_
          refine lv_aload_n hx hb dX1_callOf_96 rfl (lv_at hl 1 rfl) ?_
          obtain ⟨k74, hk74⟩ := va_pl_get (X := xX F (sS, sP, sQ, sE, ec, sc, vl, LP, sT)) (f := thP sT) (hok.2.2.2.1 q26 (hok.2.2.2.1 q3 (hok.2.2.2.1 p0 hp0 _ ho2) _ ho25) _ ho48)
          refine va_getN (D := D) (ci := 0) (v := .int ((sT q49).2.1)) (C := RX0) (T := TX0) (N := 6) hx hb hts (by decide +kernel) hown hK hP k74 hk74 rfl 1 (by decide) (va_Nw.use rfl (hN (.fieldLinkNest RX1 83 "FamilyProbes$Thing" "n" "I" "FamilyProbes") (by decide +kernel))) (fun _ h9 => h9) rfl dX1_callOf_97 ?_
          refine lv_isub hx hb dX1_callOf_100 ?_
          exact W.iret (v := (p1 - (sT q49).2.1)) hx hb hr (fun tE ht hW => ⟨⟨(p1 - (sT q49).2.1), (sS, sP, sQ, sE, ec, sc, vl, LP, sT), rfl, by first | (simp only [sCall, uC, chase, fCall, gS, gP, gQ, gE, gec, gsc, gvl, gL, gT, ho2, ho25, ho48, c71, c73, eq_self, ↓reduceIte, Bool.false_eq_true, Bool.not_false, Bool.not_true, Bool.and_true, Bool.and_false, Bool.true_and, Bool.false_and, decide_true, decide_false] <;> first | done | decide) | (simp [sCall, uC, chase, fCall, gS, gP, gQ, gE, gec, gsc, gvl, gL, gT, ho2, ho25, ho48, c71, c73]; done) | (exfalso; simp_all; done), by rw [ht]; exact hP, va_K.moved hW.alike hK, hD⟩, hS.F ht⟩) hS.2.2 dX1_callOf_101
        by_cases c75 : (sT q49).1 = 2
        · refine lv_tableIn (off := 69) (tgt := 102) hx hb dX1_callOf_33 (by rw [c75]; decide) (by rw [c75]; decide) (by rw [c75]; rfl) (by decide) ?_
          refine lv_iconst (v := 2) hx hb dX1_callOf_102 (by decide) ?_
          refine lv_iload_n hx hb dX1_callOf_103 rfl (lv_at hl 4 rfl) ?_
          refine lv_aload_n hx hb dX1_callOf_104 rfl (lv_at hl 1 rfl) ?_
          obtain ⟨k76, hk76⟩ := va_pl_get (X := xX F (sS, sP, sQ, sE, ec, sc, vl, LP, sT)) (f := thP sT) (hok.2.2.2.1 q26 (hok.2.2.2.1 q3 (hok.2.2.2.1 p0 hp0 _ ho2) _ ho25) _ ho48)
          refine va_getN (D := D) (ci := 0) (v := .int ((sT q49).2.1)) (C := RX0) (T := TX0) (N := 6) hx hb hts (by decide +kernel) hown hK hP k76 hk76 rfl 1 (by decide) (va_Nw.use rfl (hN (.fieldLinkNest RX1 83 "FamilyProbes$Thing" "n" "I" "FamilyProbes") (by decide +kernel))) (fun _ h9 => h9) rfl dX1_callOf_105 ?_
          refine lv_isub hx hb dX1_callOf_108 ?_
          refine lv_imul hx hb dX1_callOf_109 ?_
          exact W.iret (v := (2 * (p1 - (sT q49).2.1))) hx hb hr (fun tE ht hW => ⟨⟨(2 * (p1 - (sT q49).2.1)), (sS, sP, sQ, sE, ec, sc, vl, LP, sT), rfl, by first | (simp only [sCall, uC, chase, fCall, gS, gP, gQ, gE, gec, gsc, gvl, gL, gT, ho2, ho25, ho48, c71, c73, c75, eq_self, ↓reduceIte, Bool.false_eq_true, Bool.not_false, Bool.not_true, Bool.and_true, Bool.and_false, Bool.true_and, Bool.false_and, decide_true, decide_false] <;> first | done | decide) | (simp [sCall, uC, chase, fCall, gS, gP, gQ, gE, gec, gsc, gvl, gL, gT, ho2, ho25, ho48, c71, c73, c75]; done) | (exfalso; simp_all; done), by rw [ht]; exact hP, va_K.moved hW.alike hK, hD⟩, hS.F ht⟩) hS.2.2 dX1_callOf_110
        by_cases c77 : (sT q49).1 = 3
        · refine lv_tableIn (off := 107) (tgt := 140) hx hb dX1_callOf_33 (by rw [c77]; decide) (by rw [c77]; decide) (by rw [c77]; rfl) (by decide) ?_
          refine lv_iload_n hx hb dX1_callOf_140 rfl (lv_at hl 4 rfl) ?_
          exact W.iret (v := p1) hx hb hr (fun tE ht hW => ⟨⟨p1, (sS, sP, sQ, sE, ec, sc, vl, LP, sT), rfl, by first | (simp only [sCall, uC, chase, fCall, gS, gP, gQ, gE, gec, gsc, gvl, gL, gT, ho2, ho25, ho48, c71, c73, c75, c77, eq_self, ↓reduceIte, Bool.false_eq_true, Bool.not_false, Bool.not_true, Bool.and_true, Bool.and_false, Bool.true_and, Bool.false_and, decide_true, decide_false] <;> first | done | decide) | (simp [sCall, uC, chase, fCall, gS, gP, gQ, gE, gec, gsc, gvl, gL, gT, ho2, ho25, ho48, c71, c73, c75, c77]; done) | (exfalso; simp_all; done), by rw [ht]; exact hP, va_K.moved hW.alike hK, hD⟩, hS.F ht⟩) hS.2.2 dX1_callOf_141
        by_cases c78 : (sT q49).1 = 4
        · refine lv_tableIn (off := 55) (tgt := 88) hx hb dX1_callOf_33 (by rw [c78]; decide) (by rw [c78]; decide) (by rw [c78]; rfl) (by decide) ?_
          refine lv_iload_n hx hb dX1_callOf_88 rfl (lv_at hl 4 rfl) ?_
          refine lv_aload_n hx hb dX1_callOf_89 rfl (lv_at hl 1 rfl) ?_
          obtain ⟨k79, hk79⟩ := va_pl_get (X := xX F (sS, sP, sQ, sE, ec, sc, vl, LP, sT)) (f := thP sT) (hok.2.2.2.1 q26 (hok.2.2.2.1 q3 (hok.2.2.2.1 p0 hp0 _ ho2) _ ho25) _ ho48)
          refine va_getN (D := D) (ci := 0) (v := .int ((sT q49).2.1)) (C := RX0) (T := TX0) (N := 6) hx hb hts (by decide +kernel) hown hK hP k79 hk79 rfl 1 (by decide) (va_Nw.use rfl (hN (.fieldLinkNest RX1 83 "FamilyProbes$Thing" "n" "I" "FamilyProbes") (by decide +kernel))) (fun _ h9 => h9) rfl dX1_callOf_90 ?_
          refine lv_iadd hx hb dX1_callOf_93 ?_
          exact W.iret (v := (p1 + (sT q49).2.1)) hx hb hr (fun tE ht hW => ⟨⟨(p1 + (sT q49).2.1), (sS, sP, sQ, sE, ec, sc, vl, LP, sT), rfl, by first | (simp only [sCall, uC, chase, fCall, gS, gP, gQ, gE, gec, gsc, gvl, gL, gT, ho2, ho25, ho48, c71, c73, c75, c77, c78, eq_self, ↓reduceIte, Bool.false_eq_true, Bool.not_false, Bool.not_true, Bool.and_true, Bool.and_false, Bool.true_and, Bool.false_and, decide_true, decide_false] <;> first | done | decide) | (simp [sCall, uC, chase, fCall, gS, gP, gQ, gE, gec, gsc, gvl, gL, gT, ho2, ho25, ho48, c71, c73, c75, c77, c78]; done) | (exfalso; simp_all; done), by rw [ht]; exact hP, va_K.moved hW.alike hK, hD⟩, hS.F ht⟩) hS.2.2 dX1_callOf_94
        by_cases c80 : (sT q49).1 = 5
        · refine lv_tableIn (off := 78) (tgt := 111) hx hb dX1_callOf_33 (by rw [c80]; decide) (by rw [c80]; decide) (by rw [c80]; rfl) (by decide) ?_
          refine lv_iload_n hx hb dX1_callOf_111 rfl (lv_at hl 4 rfl) ?_
          refine lv_aload_n hx hb dX1_callOf_112 rfl (lv_at hl 1 rfl) ?_
          obtain ⟨k81, hk81⟩ := va_pl_get (X := xX F (sS, sP, sQ, sE, ec, sc, vl, LP, sT)) (f := thP sT) (hok.2.2.2.1 q26 (hok.2.2.2.1 q3 (hok.2.2.2.1 p0 hp0 _ ho2) _ ho25) _ ho48)
          refine va_getN (D := D) (ci := 0) (v := .int ((sT q49).2.1)) (C := RX0) (T := TX0) (N := 6) hx hb hts (by decide +kernel) hown hK hP k81 hk81 rfl 1 (by decide) (va_Nw.use rfl (hN (.fieldLinkNest RX1 83 "FamilyProbes$Thing" "n" "I" "FamilyProbes") (by decide +kernel))) (fun _ h9 => h9) rfl dX1_callOf_113 ?_
          refine lv_imul hx hb dX1_callOf_116 ?_
          exact W.iret (v := (p1 * (sT q49).2.1)) hx hb hr (fun tE ht hW => ⟨⟨(p1 * (sT q49).2.1), (sS, sP, sQ, sE, ec, sc, vl, LP, sT), rfl, by first | (simp only [sCall, uC, chase, fCall, gS, gP, gQ, gE, gec, gsc, gvl, gL, gT, ho2, ho25, ho48, c71, c73, c75, c77, c78, c80, eq_self, ↓reduceIte, Bool.false_eq_true, Bool.not_false, Bool.not_true, Bool.and_true, Bool.and_false, Bool.true_and, Bool.false_and, decide_true, decide_false] <;> first | done | decide) | (simp [sCall, uC, chase, fCall, gS, gP, gQ, gE, gec, gsc, gvl, gL, gT, ho2, ho25, ho48, c71, c73, c75, c77, c78, c80]; done) | (exfalso; simp_all; done), by rw [ht]; exact hP, va_K.moved hW.alike hK, hD⟩, hS.F ht⟩) hS.2.2 dX1_callOf_117
        by_cases c82 : (sT q49).1 = 6
        · refine lv_tableIn (off := 85) (tgt := 118) hx hb dX1_callOf_33 (by rw [c82]; decide) (by rw [c82]; decide) (by rw [c82]; rfl) (by decide) ?_
          refine lv_aload_n hx hb dX1_callOf_118 rfl (lv_at hl 2 rfl) ?_
          refine lv_dup hx hb dX1_callOf_119 rfl ?_
          refine va_get (D := D) (ci := 1) (v := .int sc) (C := RX1) (T := TX1) (N := 9) hx hb hts (by decide +kernel) hown hK hP 0 rfl rfl 7 (by decide) (hts (.fieldLink RX1 169 "FamilyProbes" "shadowCalls" "I") (by decide +kernel)) (fun _ h9 => h9) rfl dX1_callOf_120 ?_
          refine lv_iconst (v := 1) hx hb dX1_callOf_123 (by decide) ?_
          refine lv_iadd hx hb dX1_callOf_124 ?_
          refine va_put (D := D) (ci := 1) (v := .int (sc + 1)) (ty := .int) (C := RX1) (T := TX1) (N := 9) hx hb hts (by decide +kernel) tyX1 tyX1_ok nmX1 hown hK hP hD hS 0 rfl rfl 7 (by decide) (hts (.fieldLink RX1 169 "FamilyProbes" "shadowCalls" "I") (by decide +kernel)) (fun _ h9 => h9) rfl (by decide +kernel) rfl rfl (Nat.le_of_ble_eq_true rfl) dX1_callOf_125 (fun H locs hP hD hS => ?_)
          have hP : va_P D vwCl (xW F (sS, sP, sQ, sE, ec, (sc + 1), vl, LP, sT)) H := hP
          have hD : va_D A (xW F (sS, sP, sQ, sE, ec, (sc + 1), vl, LP, sT)) := hD
          refine lv_iload_n hx hb dX1_callOf_128 rfl (lv_at hl 4 rfl) ?_
          refine lv_aload_n hx hb dX1_callOf_129 rfl (lv_at hl 1 rfl) ?_
          obtain ⟨k83, hk83⟩ := va_pl_get (X := xX F (sS, sP, sQ, sE, ec, (sc + 1), vl, LP, sT)) (f := thP sT) (hok.2.2.2.1 q26 (hok.2.2.2.1 q3 (hok.2.2.2.1 p0 hp0 _ ho2) _ ho25) _ ho48)
          refine va_getN (D := D) (ci := 0) (v := .int ((sT q49).2.1)) (C := RX0) (T := TX0) (N := 6) hx hb hts (by decide +kernel) hown hK hP k83 hk83 rfl 1 (by decide) (va_Nw.use rfl (hN (.fieldLinkNest RX1 83 "FamilyProbes$Thing" "n" "I" "FamilyProbes") (by decide +kernel))) (fun _ h9 => h9) rfl dX1_callOf_130 ?_
          refine lv_iadd hx hb dX1_callOf_133 ?_
          refine lv_aload_n hx hb dX1_callOf_134 rfl (lv_at hl 2 rfl) ?_
          refine va_get (D := D) (ci := 1) (v := .int (sc + 1)) (C := RX1) (T := TX1) (N := 9) hx hb hts (by decide +kernel) hown hK hP 0 rfl rfl 7 (by decide) (hts (.fieldLink RX1 169 "FamilyProbes" "shadowCalls" "I") (by decide +kernel)) (fun _ h9 => h9) rfl dX1_callOf_135 ?_
          refine lv_iadd hx hb dX1_callOf_138 ?_
          exact W.iret (v := ((p1 + (sT q49).2.1) + (sc + 1))) hx hb hr (fun tE ht hW => ⟨⟨((p1 + (sT q49).2.1) + (sc + 1)), (sS, sP, sQ, sE, ec, (sc + 1), vl, LP, sT), rfl, by first | (simp only [sCall, uC, chase, fCall, gS, gP, gQ, gE, gec, gsc, gvl, gL, gT, ho2, ho25, ho48, c71, c73, c75, c77, c78, c80, c82, eq_self, ↓reduceIte, Bool.false_eq_true, Bool.not_false, Bool.not_true, Bool.and_true, Bool.and_false, Bool.true_and, Bool.false_and, decide_true, decide_false] <;> first | done | decide) | (simp [sCall, uC, chase, fCall, gS, gP, gQ, gE, gec, gsc, gvl, gL, gT, ho2, ho25, ho48, c71, c73, c75, c77, c78, c80, c82]; done) | (exfalso; simp_all; done), by rw [ht]; exact hP, va_K.moved hW.alike hK, hD⟩, hS.F ht⟩) hS.2.2 dX1_callOf_139
        by_cases c84 : (sT q49).1 = 7
        · refine lv_tableIn (off := 78) (tgt := 111) hx hb dX1_callOf_33 (by rw [c84]; decide) (by rw [c84]; decide) (by rw [c84]; rfl) (by decide) ?_
          refine lv_iload_n hx hb dX1_callOf_111 rfl (lv_at hl 4 rfl) ?_
          refine lv_aload_n hx hb dX1_callOf_112 rfl (lv_at hl 1 rfl) ?_
          obtain ⟨k85, hk85⟩ := va_pl_get (X := xX F (sS, sP, sQ, sE, ec, sc, vl, LP, sT)) (f := thP sT) (hok.2.2.2.1 q26 (hok.2.2.2.1 q3 (hok.2.2.2.1 p0 hp0 _ ho2) _ ho25) _ ho48)
          refine va_getN (D := D) (ci := 0) (v := .int ((sT q49).2.1)) (C := RX0) (T := TX0) (N := 6) hx hb hts (by decide +kernel) hown hK hP k85 hk85 rfl 1 (by decide) (va_Nw.use rfl (hN (.fieldLinkNest RX1 83 "FamilyProbes$Thing" "n" "I" "FamilyProbes") (by decide +kernel))) (fun _ h9 => h9) rfl dX1_callOf_113 ?_
          refine lv_imul hx hb dX1_callOf_116 ?_
          exact W.iret (v := (p1 * (sT q49).2.1)) hx hb hr (fun tE ht hW => ⟨⟨(p1 * (sT q49).2.1), (sS, sP, sQ, sE, ec, sc, vl, LP, sT), rfl, by first | (simp only [sCall, uC, chase, fCall, gS, gP, gQ, gE, gec, gsc, gvl, gL, gT, ho2, ho25, ho48, c71, c73, c75, c77, c78, c80, c82, c84, eq_self, ↓reduceIte, Bool.false_eq_true, Bool.not_false, Bool.not_true, Bool.and_true, Bool.and_false, Bool.true_and, Bool.false_and, decide_true, decide_false] <;> first | done | decide) | (simp [sCall, uC, chase, fCall, gS, gP, gQ, gE, gec, gsc, gvl, gL, gT, ho2, ho25, ho48, c71, c73, c75, c77, c78, c80, c82, c84]; done) | (exfalso; simp_all; done), by rw [ht]; exact hP, va_K.moved hW.alike hK, hD⟩, hS.F ht⟩) hS.2.2 dX1_callOf_117
        by_cases c86 : (sT q49).1 = 8
        · refine lv_tableIn (off := 107) (tgt := 140) hx hb dX1_callOf_33 (by rw [c86]; decide) (by rw [c86]; decide) (by rw [c86]; rfl) (by decide) ?_
          refine lv_iload_n hx hb dX1_callOf_140 rfl (lv_at hl 4 rfl) ?_
          exact W.iret (v := p1) hx hb hr (fun tE ht hW => ⟨⟨p1, (sS, sP, sQ, sE, ec, sc, vl, LP, sT), rfl, by first | (simp only [sCall, uC, chase, fCall, gS, gP, gQ, gE, gec, gsc, gvl, gL, gT, ho2, ho25, ho48, c71, c73, c75, c77, c78, c80, c82, c84, c86, eq_self, ↓reduceIte, Bool.false_eq_true, Bool.not_false, Bool.not_true, Bool.and_true, Bool.and_false, Bool.true_and, Bool.false_and, decide_true, decide_false] <;> first | done | decide) | (simp [sCall, uC, chase, fCall, gS, gP, gQ, gE, gec, gsc, gvl, gL, gT, ho2, ho25, ho48, c71, c73, c75, c77, c78, c80, c82, c84, c86]; done) | (exfalso; simp_all; done), by rw [ht]; exact hP, va_K.moved hW.alike hK, hD⟩, hS.F ht⟩) hS.2.2 dX1_callOf_141
        by_cases c87 : (sT q49).1 = 9
        · refine lv_tableIn (off := 62) (tgt := 95) hx hb dX1_callOf_33 (by rw [c87]; decide) (by rw [c87]; decide) (by rw [c87]; rfl) (by decide) ?_
          refine lv_iload_n hx hb dX1_callOf_95 rfl (lv_at hl 4 rfl) ?_
          refine lv_aload_n hx hb dX1_callOf_96 rfl (lv_at hl 1 rfl) ?_
          obtain ⟨k88, hk88⟩ := va_pl_get (X := xX F (sS, sP, sQ, sE, ec, sc, vl, LP, sT)) (f := thP sT) (hok.2.2.2.1 q26 (hok.2.2.2.1 q3 (hok.2.2.2.1 p0 hp0 _ ho2) _ ho25) _ ho48)
          refine va_getN (D := D) (ci := 0) (v := .int ((sT q49).2.1)) (C := RX0) (T := TX0) (N := 6) hx hb hts (by decide +kernel) hown hK hP k88 hk88 rfl 1 (by decide) (va_Nw.use rfl (hN (.fieldLinkNest RX1 83 "FamilyProbes$Thing" "n" "I" "FamilyProbes") (by decide +kernel))) (fun _ h9 => h9) rfl dX1_callOf_97 ?_
          refine lv_isub hx hb dX1_callOf_100 ?_
          exact W.iret (v := (p1 - (sT q49).2.1)) hx hb hr (fun tE ht hW => ⟨⟨(p1 - (sT q49).2.1), (sS, sP, sQ, sE, ec, sc, vl, LP, sT), rfl, by first | (simp only [sCall, uC, chase, fCall, gS, gP, gQ, gE, gec, gsc, gvl, gL, gT, ho2, ho25, ho48, c71, c73, c75, c77, c78, c80, c82, c84, c86, c87, eq_self, ↓reduceIte, Bool.false_eq_true, Bool.not_false, Bool.not_true, Bool.and_true, Bool.and_false, Bool.true_and, Bool.false_and, decide_true, decide_false] <;> first | done | decide) | (simp [sCall, uC, chase, fCall, gS, gP, gQ, gE, gec, gsc, gvl, gL, gT, ho2, ho25, ho48, c71, c73, c75, c77, c78, c80, c82, c84, c86, c87]; done) | (exfalso; simp_all; done), by rw [ht]; exact hP, va_K.moved hW.alike hK, hD⟩, hS.F ht⟩) hS.2.2 dX1_callOf_101
        refine lv_tableOut (tgt := 140) hx hb dX1_callOf_33 (by have z0 := lv_neT (k := 0) (a := 0) c71 (by decide); have z1 := lv_neT (k := 1) (a := 1) c73 (by decide); have z2 := lv_neT (k := 2) (a := 2) c75 (by decide); have z3 := lv_neT (k := 3) (a := 3) c77 (by decide); have z4 := lv_neT (k := 4) (a := 4) c78 (by decide); have z5 := lv_neT (k := 5) (a := 5) c80 (by decide); have z6 := lv_neT (k := 6) (a := 6) c82 (by decide); have z7 := lv_neT (k := 7) (a := 7) c84 (by decide); have z8 := lv_neT (k := 8) (a := 8) c86 (by decide); have z9 := lv_neT (k := 9) (a := 9) c87 (by decide); omega) (by decide) ?_
        refine lv_iload_n hx hb dX1_callOf_140 rfl (lv_at hl 4 rfl) ?_
        exact W.iret (v := p1) hx hb hr (fun tE ht hW => ⟨⟨p1, (sS, sP, sQ, sE, ec, sc, vl, LP, sT), rfl, by first | (simp only [sCall, uC, chase, fCall, gS, gP, gQ, gE, gec, gsc, gvl, gL, gT, ho2, ho25, ho48, c71, c73, c75, c77, c78, c80, c82, c84, c86, c87, eq_self, ↓reduceIte, Bool.false_eq_true, Bool.not_false, Bool.not_true, Bool.and_true, Bool.and_false, Bool.true_and, Bool.false_and, decide_true, decide_false] <;> first | done | decide) | (simp [sCall, uC, chase, fCall, gS, gP, gQ, gE, gec, gsc, gvl, gL, gT, ho2, ho25, ho48, c71, c73, c75, c77, c78, c80, c82, c84, c86, c87]; done) | (exfalso; simp_all; done), by rw [ht]; exact hP, va_K.moved hW.alike hK, hD⟩, hS.F ht⟩) hS.2.2 dX1_callOf_141
set_option maxHeartbeats 8000000 in
set_option maxRecDepth 100000 in
theorem k_twiceAsLoud (l : Launch) (D : va_G) (F : XF) (u : XS) (hok : xOk F u) (sz : Nat) (p0 : Nat) (hp0 : p0 ∈ gL u) (p1 : Int32) : Met l yX1_twiceAsLoud wsX1_twiceAsLoud ({ frames := 1, cells := 0, slots := 0, locals := 24 }) (xPc D F u sz [.ref F.1, .ref p0, .int p1]) (va_Qi (fun (r : Int32) (v : XS) => (r, v) = sLoud u p0 p1) (xB D F (va_A (xW F u) sz)) (va_A (xW F u) sz)) 0 0 (va_A (xW F u) sz) := by
  obtain ⟨sS, sP, sQ, sE, ec, sc, vl, LP, sT⟩ := u
  refine Met.ofW (cc := cX1_twiceAsLoud) (maxL := 3) (ret := (some .int)) (by decide) rfl ?_
  intro p e s m args below meth c s₁ B hml hv
  obtain ⟨rfl, hsz, hP, hK, hD0, hN, hZ⟩ := hv
  have hx := B.exec
  have hb := B.bytes
  have hr := B.returns
  have hts := atoms_spec (ws := wsX1_twiceAsLoud) B.pre
  have hown : s.vm.findClass RX1 = some m.cls := findClass_of_methodNamed B.named
  have hlocks := B.notSynchronized
  subst hsz
  have hD := hD0.self (sz := s.heap.size)
  generalize hAe : va_A (xW F (sS, sP, sQ, sE, ec, sc, vl, LP, sT)) s.heap.size = A at hD hZ ⊢
  have hA : ∀ q : Nat, s.heap.size ≤ q → A q := fun q h => by rw [← hAe]; exact Or.inr h
  have hS : va_S A s.heap s.heap [] := va_S.rf
  obtain ⟨tk, tm, tr, hztk, httk, hztm, httm, hztr, httr⟩ := id hZ
  refine xHeap (C := fun H => va_P D vwCl (xW F (sS, sP, sQ, sE, ec, sc, vl, LP, sT)) H ∧ va_S A s.heap H []) ⟨hP, hS⟩ (fun H hC => ?_)
  obtain ⟨hP, hS⟩ := hC
  have hl := lv_entry ([.ref F.1, .ref p0, .int p1]) (n := 3) (Nat.le_of_ble_eq_true rfl)
  rw [lg_entry_eq]
  generalize (lg_sl ([.ref F.1, .ref p0, .int p1]) ++ List.replicate (3 - (lg_sl ([.ref F.1, .ref p0, .int p1])).length) Slot.unset).toArray = ls at hl ⊢
  have hl : lv_has ls 3 [(0, .ref F.1), (1, .ref p0), (2, .int p1)] := hl
  refine lv_iconst (v := 2) hx hb dX1_twiceAsLoud_0 (by decide) ?_
  refine lv_aload_n hx hb dX1_twiceAsLoud_1 rfl (lv_at hl 0 rfl) ?_
  refine lv_aload_n hx hb dX1_twiceAsLoud_2 rfl (lv_at hl 1 rfl) ?_
  refine lv_iload_n hx hb dX1_twiceAsLoud_3 rfl (lv_at hl 2 rfl) ?_
  have hf1 := xFree hD hS hA
  refine va_calli (va_runV (As := [.ref p0, .int p1]) (rest := [.int 2]) ⟨hx, hb, hml, hown, hts⟩ (k_callOf l D F (sS, sP, sQ, sE, ec, sc, vl, LP, sT) hok H.size p0 hp0 p1) (cwV 2 hts gX1_twiceAsLoud_X1_callOf rfl rfl rfl (by decide +kernel) ⟨Nat.le_of_ble_eq_true rfl, Nat.le_of_ble_eq_true rfl⟩) (xPre hN hK hP hD hS hA hZ _) rfl rfl hl.1 rfl (lv_room (Nat.le_of_ble_eq_true rfl)) dX1_twiceAsLoud_4 ⟨Nat.le_of_ble_eq_true rfl, Nat.le_of_ble_eq_true rfl⟩) hS (fun q _ h => hf1 q h) hf1 (fun r2 v3 t5 H1 locs ht hvm hw4 hB hz1 hk1 hS => ?_)
  obtain ⟨hP1, hK1, hD1⟩ := hB
  rw [ht] at hP1
  replace hD1 := hD1.weaken (fun _ _ _ h => hf1 _ h)
  generalize H1 = H at hP1 hS ⊢
  obtain ⟨rfl, rfl⟩ := Prod.mk.inj (show (r2, v3) = ((fCall (sT (chase sT 3 p0)) sc p1).1, (sS, sP, sQ, sE, ec, (fCall (sT (chase sT 3 p0)) sc p1).2, vl, LP, sT)) from hw4)
  have hP : va_P D vwCl (xW F (sS, sP, sQ, sE, ec, (fCall (sT (chase sT 3 p0)) sc p1).2, vl, LP, sT)) H := hP1
  have hD : va_D A (xW F (sS, sP, sQ, sE, ec, (fCall (sT (chase sT 3 p0)) sc p1).2, vl, LP, sT)) := hD1
  refine lv_imul hx hb dX1_twiceAsLoud_7 ?_
  exact W.iret (v := (2 * (fCall (sT (chase sT 3 p0)) sc p1).1)) hx hb hr (fun tE ht hW => ⟨⟨(2 * (fCall (sT (chase sT 3 p0)) sc p1).1), (sS, sP, sQ, sE, ec, (fCall (sT (chase sT 3 p0)) sc p1).2, vl, LP, sT), rfl, by first | (simp only [sLoud, sCall, uC, gS, gP, gQ, gE, gec, gsc, gvl, gL, gT, eq_self, ↓reduceIte, Bool.false_eq_true, Bool.not_false, Bool.not_true, Bool.and_true, Bool.and_false, Bool.true_and, Bool.false_and, decide_true, decide_false] <;> first | done | decide) | (simp [sLoud, sCall, uC, gS, gP, gQ, gE, gec, gsc, gvl, gL, gT]; done) | (exfalso; simp_all; done), by rw [ht]; exact hP, va_K.moved hW.alike hK, hD⟩, hS.F ht⟩) hS.2.2 dX1_twiceAsLoud_8
set_option maxHeartbeats 8000000 in
set_option maxRecDepth 100000 in
theorem k_twiceAsSoft (l : Launch) (D : va_G) (F : XF) (u : XS) (hok : xOk F u) (sz : Nat) (p0 : Nat) (hp0 : p0 ∈ gL u) (p1 : Int32) : Met l yX1_twiceAsSoft wsX1_twiceAsSoft ({ frames := 1, cells := 0, slots := 0, locals := 24 }) (xPc D F u sz [.ref F.1, .ref p0, .int p1]) (va_Qi (fun (r : Int32) (v : XS) => (r, v) = sSoft u p0 p1) (xB D F (va_A (xW F u) sz)) (va_A (xW F u) sz)) 0 0 (va_A (xW F u) sz) := by
  obtain ⟨sS, sP, sQ, sE, ec, sc, vl, LP, sT⟩ := u
  refine Met.ofW (cc := cX1_twiceAsSoft) (maxL := 3) (ret := (some .int)) (by decide) rfl ?_
  intro p e s m args below meth c s₁ B hml hv
  obtain ⟨rfl, hsz, hP, hK, hD0, hN, hZ⟩ := hv
  have hx := B.exec
  have hb := B.bytes
  have hr := B.returns
  have hts := atoms_spec (ws := wsX1_twiceAsSoft) B.pre
  have hown : s.vm.findClass RX1 = some m.cls := findClass_of_methodNamed B.named
  have hlocks := B.notSynchronized
  subst hsz
  have hD := hD0.self (sz := s.heap.size)
  generalize hAe : va_A (xW F (sS, sP, sQ, sE, ec, sc, vl, LP, sT)) s.heap.size = A at hD hZ ⊢
  have hA : ∀ q : Nat, s.heap.size ≤ q → A q := fun q h => by rw [← hAe]; exact Or.inr h
  have hS : va_S A s.heap s.heap [] := va_S.rf
  obtain ⟨tk, tm, tr, hztk, httk, hztm, httm, hztr, httr⟩ := id hZ
  refine xHeap (C := fun H => va_P D vwCl (xW F (sS, sP, sQ, sE, ec, sc, vl, LP, sT)) H ∧ va_S A s.heap H []) ⟨hP, hS⟩ (fun H hC => ?_)
  obtain ⟨hP, hS⟩ := hC
  have hl := lv_entry ([.ref F.1, .ref p0, .int p1]) (n := 3) (Nat.le_of_ble_eq_true rfl)
  rw [lg_entry_eq]
  generalize (lg_sl ([.ref F.1, .ref p0, .int p1]) ++ List.replicate (3 - (lg_sl ([.ref F.1, .ref p0, .int p1])).length) Slot.unset).toArray = ls at hl ⊢
  have hl : lv_has ls 3 [(0, .ref F.1), (1, .ref p0), (2, .int p1)] := hl
  refine lv_aload_n hx hb dX1_twiceAsSoft_0 rfl (lv_at hl 0 rfl) ?_
  refine lv_aload_n hx hb dX1_twiceAsSoft_1 rfl (lv_at hl 1 rfl) ?_
  refine lv_iload_n hx hb dX1_twiceAsSoft_2 rfl (lv_at hl 2 rfl) ?_
  have hf1 := xFree hD hS hA
  refine va_calli (va_runV (As := [.ref p0, .int p1]) (rest := []) ⟨hx, hb, hml, hown, hts⟩ (k_callOf l D F (sS, sP, sQ, sE, ec, sc, vl, LP, sT) hok H.size p0 hp0 p1) (cwV 2 hts gX1_twiceAsSoft_X1_callOf rfl rfl rfl (by decide +kernel) ⟨Nat.le_of_ble_eq_true rfl, Nat.le_of_ble_eq_true rfl⟩) (xPre hN hK hP hD hS hA hZ _) rfl rfl hl.1 rfl (lv_room (Nat.le_of_ble_eq_true rfl)) dX1_twiceAsSoft_3 ⟨Nat.le_of_ble_eq_true rfl, Nat.le_of_ble_eq_true rfl⟩) hS (fun q _ h => hf1 q h) hf1 (fun r2 v3 t5 H1 locs ht hvm hw4 hB hz1 hk1 hS => ?_)
  obtain ⟨hP1, hK1, hD1⟩ := hB
  rw [ht] at hP1
  replace hD1 := hD1.weaken (fun _ _ _ h => hf1 _ h)
  generalize H1 = H at hP1 hS ⊢
  obtain ⟨rfl, rfl⟩ := Prod.mk.inj (show (r2, v3) = ((fCall (sT (chase sT 3 p0)) sc p1).1, (sS, sP, sQ, sE, ec, (fCall (sT (chase sT 3 p0)) sc p1).2, vl, LP, sT)) from hw4)
  have hP : va_P D vwCl (xW F (sS, sP, sQ, sE, ec, (fCall (sT (chase sT 3 p0)) sc p1).2, vl, LP, sT)) H := hP1
  have hD : va_D A (xW F (sS, sP, sQ, sE, ec, (fCall (sT (chase sT 3 p0)) sc p1).2, vl, LP, sT)) := hD1
  refine lv_iconst (v := 1) hx hb dX1_twiceAsSoft_6 (by decide) ?_
  refine lv_isub hx hb dX1_twiceAsSoft_7 ?_
  exact W.iret (v := ((fCall (sT (chase sT 3 p0)) sc p1).1 - 1)) hx hb hr (fun tE ht hW => ⟨⟨((fCall (sT (chase sT 3 p0)) sc p1).1 - 1), (sS, sP, sQ, sE, ec, (fCall (sT (chase sT 3 p0)) sc p1).2, vl, LP, sT), rfl, by first | (simp only [sSoft, sCall, uC, gS, gP, gQ, gE, gec, gsc, gvl, gL, gT, eq_self, ↓reduceIte, Bool.false_eq_true, Bool.not_false, Bool.not_true, Bool.and_true, Bool.and_false, Bool.true_and, Bool.false_and, decide_true, decide_false] <;> first | done | decide) | (simp [sSoft, sCall, uC, gS, gP, gQ, gE, gec, gsc, gvl, gL, gT]; done) | (exfalso; simp_all; done), by rw [ht]; exact hP, va_K.moved hW.alike hK, hD⟩, hS.F ht⟩) hS.2.2 dX1_twiceAsSoft_8
end
section
set_option maxHeartbeats 8000000 in
set_option maxRecDepth 100000 in
theorem k_twiceOf (l : Launch) (D : va_G) (F : XF) (u : XS) (hok : xOk F u) (sz : Nat) (p0 : Nat) (hp0 : p0 ∈ gL u) (p1 : Int32) : Met l yX1_twiceOf wsX1_twiceOf ({ frames := 2, cells := 0, slots := 0, locals := 46 }) (xPc D F u sz [.ref F.1, .ref p0, .int p1]) (va_Qi (fun (r : Int32) (v : XS) => (r, v) = sTw u p0 p1) (xB D F (va_A (xW F u) sz)) (va_A (xW F u) sz)) 0 0 (va_A (xW F u) sz) := by
  obtain ⟨sS, sP, sQ, sE, ec, sc, vl, LP, sT⟩ := u
  refine Met.ofW (cc := cX1_twiceOf) (maxL := 3) (ret := (some .int)) (by decide) rfl ?_
  intro p e s m args below meth c s₁ B hml hv
  obtain ⟨rfl, hsz, hP, hK, hD0, hN, hZ⟩ := hv
  have hx := B.exec
  have hb := B.bytes
  have hr := B.returns
  have hts := atoms_spec (ws := wsX1_twiceOf) B.pre
  have hown : s.vm.findClass RX1 = some m.cls := findClass_of_methodNamed B.named
  have hlocks := B.notSynchronized
  subst hsz
  have hD := hD0.self (sz := s.heap.size)
  generalize hAe : va_A (xW F (sS, sP, sQ, sE, ec, sc, vl, LP, sT)) s.heap.size = A at hD hZ ⊢
  have hA : ∀ q : Nat, s.heap.size ≤ q → A q := fun q h => by rw [← hAe]; exact Or.inr h
  have hS : va_S A s.heap s.heap [] := va_S.rf
  obtain ⟨tk, tm, tr, hztk, httk, hztm, httm, hztr, httr⟩ := id hZ
  refine xHeap (C := fun H => va_P D vwCl (xW F (sS, sP, sQ, sE, ec, sc, vl, LP, sT)) H ∧ va_S A s.heap H []) ⟨hP, hS⟩ (fun H hC => ?_)
  obtain ⟨hP, hS⟩ := hC
  have hl := lv_entry ([.ref F.1, .ref p0, .int p1]) (n := 3) (Nat.le_of_ble_eq_true rfl)
  rw [lg_entry_eq]
  generalize (lg_sl ([.ref F.1, .ref p0, .int p1]) ++ List.replicate (3 - (lg_sl ([.ref F.1, .ref p0, .int p1])).length) Slot.unset).toArray = ls at hl ⊢
  have hl : lv_has ls 3 [(0, .ref F.1), (1, .ref p0), (2, .int p1)] := hl
  refine lv_aload_n hx hb dX1_twiceOf_0 rfl (lv_at hl 1 rfl) ?_
  obtain ⟨k1, hk1⟩ := va_pl_get (X := xX F (sS, sP, sQ, sE, ec, sc, vl, LP, sT)) (f := thP sT) hp0
  refine va_getN (D := D) (ci := 0) (v := .int ((sT p0).1)) (C := RX0) (T := TX0) (N := 6) hx hb hts (by decide +kernel) hown hK hP k1 hk1 rfl 0 (by decide) (va_Nw.use rfl (hN (.fieldLinkNest RX1 118 "FamilyProbes$Thing" "kind" "I" "FamilyProbes") (by decide +kernel))) (fun _ h9 => h9) rfl dX1_twiceOf_1 ?_
  by_cases c2 : (sT p0).1 = 0
  · refine lv_tableIn (off := 56) (tgt := 60) hx hb dX1_twiceOf_4 (by rw [c2]; decide) (by rw [c2]; decide) (by rw [c2]; rfl) (by decide) ?_
    refine lv_aload_n hx hb dX1_twiceOf_60 rfl (lv_at hl 0 rfl) ?_
    refine lv_aload_n hx hb dX1_twiceOf_61 rfl (lv_at hl 1 rfl) ?_
    refine lv_iload_n hx hb dX1_twiceOf_62 rfl (lv_at hl 2 rfl) ?_
    have hf3 := xFree hD hS hA
    refine va_calli (va_runV (As := [.ref p0, .int p1]) (rest := []) ⟨hx, hb, hml, hown, hts⟩ (k_twiceAsLoud l D F (sS, sP, sQ, sE, ec, sc, vl, LP, sT) hok H.size p0 hp0 p1) (cwV 2 hts gX1_twiceOf_X1_twiceAsLoud rfl rfl rfl (by decide +kernel) ⟨Nat.le_of_ble_eq_true rfl, Nat.le_of_ble_eq_true rfl⟩) (xPre hN hK hP hD hS hA hZ _) rfl rfl hl.1 rfl (lv_room (Nat.le_of_ble_eq_true rfl)) dX1_twiceOf_63 ⟨Nat.le_of_ble_eq_true rfl, Nat.le_of_ble_eq_true rfl⟩) hS (fun q _ h => hf3 q h) hf3 (fun r4 v5 t7 H1 locs ht hvm hw6 hB hz1 hk1 hS => ?_)
    obtain ⟨hP1, hK1, hD1⟩ := hB
    rw [ht] at hP1
    replace hD1 := hD1.weaken (fun _ _ _ h => hf3 _ h)
    generalize H1 = H at hP1 hS ⊢
    obtain ⟨rfl, rfl⟩ := Prod.mk.inj (show (r4, v5) = ((2 * (fCall (sT (chase sT 3 p0)) sc p1).1), (sS, sP, sQ, sE, ec, (fCall (sT (chase sT 3 p0)) sc p1).2, vl, LP, sT)) from hw6)
    have hP : va_P D vwCl (xW F (sS, sP, sQ, sE, ec, (fCall (sT (chase sT 3 p0)) sc p1).2, vl, LP, sT)) H := hP1
    have hD : va_D A (xW F (sS, sP, sQ, sE, ec, (fCall (sT (chase sT 3 p0)) sc p1).2, vl, LP, sT)) := hD1
    exact W.iret (v := (2 * (fCall (sT (chase sT 3 p0)) sc p1).1)) hx hb hr (fun tE ht hW => ⟨⟨(2 * (fCall (sT (chase sT 3 p0)) sc p1).1), (sS, sP, sQ, sE, ec, (fCall (sT (chase sT 3 p0)) sc p1).2, vl, LP, sT), rfl, by first | (simp only [sTw, sLoud, sSoft, sCall, uC, gS, gP, gQ, gE, gec, gsc, gvl, gL, gT, c2, eq_self, ↓reduceIte, Bool.false_eq_true, Bool.not_false, Bool.not_true, Bool.and_true, Bool.and_false, Bool.true_and, Bool.false_and, decide_true, decide_false] <;> first | done | decide) | (simp [sTw, sLoud, sSoft, sCall, uC, gS, gP, gQ, gE, gec, gsc, gvl, gL, gT, c2]; done) | (exfalso; simp_all; done), by rw [ht]; exact hP, va_K.moved hW.alike hK, hD⟩, hS.F ht⟩) hS.2.2 dX1_twiceOf_66
  by_cases c8 : (sT p0).1 = 1
  · refine lv_tableIn (off := 63) (tgt := 67) hx hb dX1_twiceOf_4 (by rw [c8]; decide) (by rw [c8]; decide) (by rw [c8]; rfl) (by decide) ?_
    refine lv_aload_n hx hb dX1_twiceOf_67 rfl (lv_at hl 0 rfl) ?_
    refine lv_aload_n hx hb dX1_twiceOf_68 rfl (lv_at hl 1 rfl) ?_
    refine lv_iload_n hx hb dX1_twiceOf_69 rfl (lv_at hl 2 rfl) ?_
    have hf9 := xFree hD hS hA
    refine va_calli (va_runV (As := [.ref p0, .int p1]) (rest := []) ⟨hx, hb, hml, hown, hts⟩ (k_twiceAsSoft l D F (sS, sP, sQ, sE, ec, sc, vl, LP, sT) hok H.size p0 hp0 p1) (cwV 2 hts gX1_twiceOf_X1_twiceAsSoft rfl rfl rfl (by decide +kernel) ⟨Nat.le_of_ble_eq_true rfl, Nat.le_of_ble_eq_true rfl⟩) (xPre hN hK hP hD hS hA hZ _) rfl rfl hl.1 rfl (lv_room (Nat.le_of_ble_eq_true rfl)) dX1_twiceOf_70 ⟨Nat.le_of_ble_eq_true rfl, Nat.le_of_ble_eq_true rfl⟩) hS (fun q _ h => hf9 q h) hf9 (fun r10 v11 t13 H1 locs ht hvm hw12 hB hz1 hk1 hS => ?_)
    obtain ⟨hP1, hK1, hD1⟩ := hB
    rw [ht] at hP1
    replace hD1 := hD1.weaken (fun _ _ _ h => hf9 _ h)
    generalize H1 = H at hP1 hS ⊢
    obtain ⟨rfl, rfl⟩ := Prod.mk.inj (show (r10, v11) = (((fCall (sT (chase sT 3 p0)) sc p1).1 - 1), (sS, sP, sQ, sE, ec, (fCall (sT (chase sT 3 p0)) sc p1).2, vl, LP, sT)) from hw12)
    have hP : va_P D vwCl (xW F (sS, sP, sQ, sE, ec, (fCall (sT (chase sT 3 p0)) sc p1).2, vl, LP, sT)) H := hP1
    have hD : va_D A (xW F (sS, sP, sQ, sE, ec, (fCall (sT (chase sT 3 p0)) sc p1).2, vl, LP, sT)) := hD1
    exact W.iret (v := ((fCall (sT (chase sT 3 p0)) sc p1).1 - 1)) hx hb hr (fun tE ht hW => ⟨⟨((fCall (sT (chase sT 3 p0)) sc p1).1 - 1), (sS, sP, sQ, sE, ec, (fCall (sT (chase sT 3 p0)) sc p1).2, vl, LP, sT), rfl, by first | (simp only [sTw, sLoud, sSoft, sCall, uC, gS, gP, gQ, gE, gec, gsc, gvl, gL, gT, c2, c8, eq_self, ↓reduceIte, Bool.false_eq_true, Bool.not_false, Bool.not_true, Bool.and_true, Bool.and_false, Bool.true_and, Bool.false_and, decide_true, decide_false] <;> first | done | decide) | (simp [sTw, sLoud, sSoft, sCall, uC, gS, gP, gQ, gE, gec, gsc, gvl, gL, gT, c2, c8]; done) | (exfalso; simp_all; done), by rw [ht]; exact hP, va_K.moved hW.alike hK, hD⟩, hS.F ht⟩) hS.2.2 dX1_twiceOf_73
  by_cases c14 : (sT p0).1 = 2
  · refine lv_tableIn (off := 70) (tgt := 74) hx hb dX1_twiceOf_4 (by rw [c14]; decide) (by rw [c14]; decide) (by rw [c14]; rfl) (by decide) ?_
    refine lv_aload_n hx hb dX1_twiceOf_74 rfl (lv_at hl 0 rfl) ?_
    refine lv_aload_n hx hb dX1_twiceOf_75 rfl (lv_at hl 1 rfl) ?_
    refine lv_iload_n hx hb dX1_twiceOf_76 rfl (lv_at hl 2 rfl) ?_
    have hf15 := xFree hD hS hA
    refine va_calli (va_runV (As := [.ref p0, .int p1]) (rest := []) ⟨hx, hb, hml, hown, hts⟩ (k_twiceAsLoud l D F (sS, sP, sQ, sE, ec, sc, vl, LP, sT) hok H.size p0 hp0 p1) (cwV 2 hts gX1_twiceOf_X1_twiceAsLoud rfl rfl rfl (by decide +kernel) ⟨Nat.le_of_ble_eq_true rfl, Nat.le_of_ble_eq_true rfl⟩) (xPre hN hK hP hD hS hA hZ _) rfl rfl hl.1 rfl (lv_room (Nat.le_of_ble_eq_true rfl)) dX1_twiceOf_77 ⟨Nat.le_of_ble_eq_true rfl, Nat.le_of_ble_eq_true rfl⟩) hS (fun q _ h => hf15 q h) hf15 (fun r16 v17 t19 H1 locs ht hvm hw18 hB hz1 hk1 hS => ?_)
    obtain ⟨hP1, hK1, hD1⟩ := hB
    rw [ht] at hP1
    replace hD1 := hD1.weaken (fun _ _ _ h => hf15 _ h)
    generalize H1 = H at hP1 hS ⊢
    obtain ⟨rfl, rfl⟩ := Prod.mk.inj (show (r16, v17) = ((2 * (fCall (sT (chase sT 3 p0)) sc p1).1), (sS, sP, sQ, sE, ec, (fCall (sT (chase sT 3 p0)) sc p1).2, vl, LP, sT)) from hw18)
    have hP : va_P D vwCl (xW F (sS, sP, sQ, sE, ec, (fCall (sT (chase sT 3 p0)) sc p1).2, vl, LP, sT)) H := hP1
    have hD : va_D A (xW F (sS, sP, sQ, sE, ec, (fCall (sT (chase sT 3 p0)) sc p1).2, vl, LP, sT)) := hD1
    refine lv_aload_n hx hb dX1_twiceOf_80 rfl (lv_at hl 0 rfl) ?_
    refine lv_aload_n hx hb dX1_twiceOf_81 rfl (lv_at hl 1 rfl) ?_
    refine lv_iload_n hx hb dX1_twiceOf_82 rfl (lv_at hl 2 rfl) ?_
    have hf20 := xFree hD hS hA
    refine va_calli (va_runV (As := [.ref p0, .int p1]) (rest := [.int (2 * (fCall (sT (chase sT 3 p0)) sc p1).1)]) ⟨hx, hb, hml, hown, hts⟩ (k_twiceAsSoft l D F (sS, sP, sQ, sE, ec, (fCall (sT (chase sT 3 p0)) sc p1).2, vl, LP, sT) hok H.size p0 hp0 p1) (cwV 2 hts gX1_twiceOf_X1_twiceAsSoft rfl rfl rfl (by decide +kernel) ⟨Nat.le_of_ble_eq_true rfl, Nat.le_of_ble_eq_true rfl⟩) (xPre hN hK hP hD hS hA hZ _) rfl rfl hl.1 rfl (lv_room (Nat.le_of_ble_eq_true rfl)) dX1_twiceOf_83 ⟨Nat.le_of_ble_eq_true rfl, Nat.le_of_ble_eq_true rfl⟩) hS (fun q _ h => hf20 q h) hf20 (fun r21 v22 t24 H1 locs ht hvm hw23 hB hz1 hk1 hS => ?_)
    obtain ⟨hP1, hK1, hD1⟩ := hB
    rw [ht] at hP1
    replace hD1 := hD1.weaken (fun _ _ _ h => hf20 _ h)
    generalize H1 = H at hP1 hS ⊢
    obtain ⟨rfl, rfl⟩ := Prod.mk.inj (show (r21, v22) = (((fCall (sT (chase sT 3 p0)) ((fCall (sT (chase sT 3 p0)) sc p1).2) p1).1 - 1), (sS, sP, sQ, sE, ec, (fCall (sT (chase sT 3 p0)) ((fCall (sT (chase sT 3 p0)) sc p1).2) p1).2, vl, LP, sT)) from hw23)
    have hP : va_P D vwCl (xW F (sS, sP, sQ, sE, ec, (fCall (sT (chase sT 3 p0)) ((fCall (sT (chase sT 3 p0)) sc p1).2) p1).2, vl, LP, sT)) H := hP1
    have hD : va_D A (xW F (sS, sP, sQ, sE, ec, (fCall (sT (chase sT 3 p0)) ((fCall (sT (chase sT 3 p0)) sc p1).2) p1).2, vl, LP, sT)) := hD1
    refine lv_iadd hx hb dX1_twiceOf_86 ?_
    exact W.iret (v := ((2 * (fCall (sT (chase sT 3 p0)) sc p1).1) + ((fCall (sT (chase sT 3 p0)) ((fCall (sT (chase sT 3 p0)) sc p1).2) p1).1 - 1))) hx hb hr (fun tE ht hW => ⟨⟨((2 * (fCall (sT (chase sT 3 p0)) sc p1).1) + ((fCall (sT (chase sT 3 p0)) ((fCall (sT (chase sT 3 p0)) sc p1).2) p1).1 - 1)), (sS, sP, sQ, sE, ec, (fCall (sT (chase sT 3 p0)) ((fCall (sT (chase sT 3 p0)) sc p1).2) p1).2, vl, LP, sT), rfl, by first | (simp only [sTw, sLoud, sSoft, sCall, uC, gS, gP, gQ, gE, gec, gsc, gvl, gL, gT, c2, c8, c14, eq_self, ↓reduceIte, Bool.false_eq_true, Bool.not_false, Bool.not_true, Bool.and_true, Bool.and_false, Bool.true_and, Bool.false_and, decide_true, decide_false] <;> first | done | decide) | (simp [sTw, sLoud, sSoft, sCall, uC, gS, gP, gQ, gE, gec, gsc, gvl, gL, gT, c2, c8, c14]; done) | (exfalso; simp_all; done), by rw [ht]; exact hP, va_K.moved hW.alike hK, hD⟩, hS.F ht⟩) hS.2.2 dX1_twiceOf_87
  by_cases c25 : (sT p0).1 = 3
  · refine lv_tableIn (off := 84) (tgt := 88) hx hb dX1_twiceOf_4 (by rw [c25]; decide) (by rw [c25]; decide) (by rw [c25]; rfl) (by decide) ?_
    refine lv_aload_n hx hb dX1_twiceOf_88 rfl (lv_at hl 0 rfl) ?_
    refine lv_aload_n hx hb dX1_twiceOf_89 rfl (lv_at hl 1 rfl) ?_
    refine lv_aload_n hx hb dX1_twiceOf_90 rfl (lv_at hl 0 rfl) ?_
    refine lv_aload_n hx hb dX1_twiceOf_91 rfl (lv_at hl 1 rfl) ?_
    refine lv_iload_n hx hb dX1_twiceOf_92 rfl (lv_at hl 2 rfl) ?_
    have hf26 := xFree hD hS hA
    refine va_calli (va_runV (As := [.ref p0, .int p1]) (rest := [.ref p0, .ref F.1]) ⟨hx, hb, hml, hown, hts⟩ (k_callOf l D F (sS, sP, sQ, sE, ec, sc, vl, LP, sT) hok H.size p0 hp0 p1) (cwV 2 hts gX1_twiceOf_X1_callOf rfl rfl rfl (by decide +kernel) ⟨Nat.le_of_ble_eq_true rfl, Nat.le_of_ble_eq_true rfl⟩) (xPre hN hK hP hD hS hA hZ _) rfl rfl hl.1 rfl (lv_room (Nat.le_of_ble_eq_true rfl)) dX1_twiceOf_93 ⟨Nat.le_of_ble_eq_true rfl, Nat.le_of_ble_eq_true rfl⟩) hS (fun q _ h => hf26 q h) hf26 (fun r27 v28 t30 H1 locs ht hvm hw29 hB hz1 hk1 hS => ?_)
    obtain ⟨hP1, hK1, hD1⟩ := hB
    rw [ht] at hP1
    replace hD1 := hD1.weaken (fun _ _ _ h => hf26 _ h)
    generalize H1 = H at hP1 hS ⊢
    obtain ⟨rfl, rfl⟩ := Prod.mk.inj (show (r27, v28) = ((fCall (sT (chase sT 3 p0)) sc p1).1, (sS, sP, sQ, sE, ec, (fCall (sT (chase sT 3 p0)) sc p1).2, vl, LP, sT)) from hw29)
    have hP : va_P D vwCl (xW F (sS, sP, sQ, sE, ec, (fCall (sT (chase sT 3 p0)) sc p1).2, vl, LP, sT)) H := hP1
    have hD : va_D A (xW F (sS, sP, sQ, sE, ec, (fCall (sT (chase sT 3 p0)) sc p1).2, vl, LP, sT)) := hD1
    have hf31 := xFree hD hS hA
    refine va_calli (va_runV (As := [.ref p0, .int ((fCall (sT (chase sT 3 p0)) sc p1).1)]) (rest := []) ⟨hx, hb, hml, hown, hts⟩ (k_callOf l D F (sS, sP, sQ, sE, ec, (fCall (sT (chase sT 3 p0)) sc p1).2, vl, LP, sT) hok H.size p0 hp0 ((fCall (sT (chase sT 3 p0)) sc p1).1)) (cwV 2 hts gX1_twiceOf_X1_callOf rfl rfl rfl (by decide +kernel) ⟨Nat.le_of_ble_eq_true rfl, Nat.le_of_ble_eq_true rfl⟩) (xPre hN hK hP hD hS hA hZ _) rfl rfl hl.1 rfl (lv_room (Nat.le_of_ble_eq_true rfl)) dX1_twiceOf_96 ⟨Nat.le_of_ble_eq_true rfl, Nat.le_of_ble_eq_true rfl⟩) hS (fun q _ h => hf31 q h) hf31 (fun r32 v33 t35 H1 locs ht hvm hw34 hB hz1 hk1 hS => ?_)
    obtain ⟨hP1, hK1, hD1⟩ := hB
    rw [ht] at hP1
    replace hD1 := hD1.weaken (fun _ _ _ h => hf31 _ h)
    generalize H1 = H at hP1 hS ⊢
    obtain ⟨rfl, rfl⟩ := Prod.mk.inj (show (r32, v33) = ((fCall (sT (chase sT 3 p0)) ((fCall (sT (chase sT 3 p0)) sc p1).2) ((fCall (sT (chase sT 3 p0)) sc p1).1)).1, (sS, sP, sQ, sE, ec, (fCall (sT (chase sT 3 p0)) ((fCall (sT (chase sT 3 p0)) sc p1).2) ((fCall (sT (chase sT 3 p0)) sc p1).1)).2, vl, LP, sT)) from hw34)
    have hP : va_P D vwCl (xW F (sS, sP, sQ, sE, ec, (fCall (sT (chase sT 3 p0)) ((fCall (sT (chase sT 3 p0)) sc p1).2) ((fCall (sT (chase sT 3 p0)) sc p1).1)).2, vl, LP, sT)) H := hP1
    have hD : va_D A (xW F (sS, sP, sQ, sE, ec, (fCall (sT (chase sT 3 p0)) ((fCall (sT (chase sT 3 p0)) sc p1).2) ((fCall (sT (chase sT 3 p0)) sc p1).1)).2, vl, LP, sT)) := hD1
    exact W.iret (v := (fCall (sT (chase sT 3 p0)) ((fCall (sT (chase sT 3 p0)) sc p1).2) ((fCall (sT (chase sT 3 p0)) sc p1).1)).1) hx hb hr (fun tE ht hW => ⟨⟨(fCall (sT (chase sT 3 p0)) ((fCall (sT (chase sT 3 p0)) sc p1).2) ((fCall (sT (chase sT 3 p0)) sc p1).1)).1, (sS, sP, sQ, sE, ec, (fCall (sT (chase sT 3 p0)) ((fCall (sT (chase sT 3 p0)) sc p1).2) ((fCall (sT (chase sT 3 p0)) sc p1).1)).2, vl, LP, sT), rfl, by first | (simp only [sTw, sLoud, sSoft, sCall, uC, gS, gP, gQ, gE, gec, gsc, gvl, gL, gT, c2, c8, c14, c25, eq_self, ↓reduceIte, Bool.false_eq_true, Bool.not_false, Bool.not_true, Bool.and_true, Bool.and_false, Bool.true_and, Bool.false_and, decide_true, decide_false] <;> first | done | decide) | (simp [sTw, sLoud, sSoft, sCall, uC, gS, gP, gQ, gE, gec, gsc, gvl, gL, gT, c2, c8, c14, c25]; done) | (exfalso; simp_all; done), by rw [ht]; exact hP, va_K.moved hW.alike hK, hD⟩, hS.F ht⟩) hS.2.2 dX1_twiceOf_99
  by_cases c36 : (sT p0).1 = 4
  · refine lv_tableIn (off := 56) (tgt := 60) hx hb dX1_twiceOf_4 (by rw [c36]; decide) (by rw [c36]; decide) (by rw [c36]; rfl) (by decide) ?_
    refine lv_aload_n hx hb dX1_twiceOf_60 rfl (lv_at hl 0 rfl) ?_
    refine lv_aload_n hx hb dX1_twiceOf_61 rfl (lv_at hl 1 rfl) ?_
    refine lv_iload_n hx hb dX1_twiceOf_62 rfl (lv_at hl 2 rfl) ?_
    have hf37 := xFree hD hS hA
    refine va_calli (va_runV (As := [.ref p0, .int p1]) (rest := []) ⟨hx, hb, hml, hown, hts⟩ (k_twiceAsLoud l D F (sS, sP, sQ, sE, ec, sc, vl, LP, sT) hok H.size p0 hp0 p1) (cwV 2 hts gX1_twiceOf_X1_twiceAsLoud rfl rfl rfl (by decide +kernel) ⟨Nat.le_of_ble_eq_true rfl, Nat.le_of_ble_eq_true rfl⟩) (xPre hN hK hP hD hS hA hZ _) rfl rfl hl.1 rfl (lv_room (Nat.le_of_ble_eq_true rfl)) dX1_twiceOf_63 ⟨Nat.le_of_ble_eq_true rfl, Nat.le_of_ble_eq_true rfl⟩) hS (fun q _ h => hf37 q h) hf37 (fun r38 v39 t41 H1 locs ht hvm hw40 hB hz1 hk1 hS => ?_)
    obtain ⟨hP1, hK1, hD1⟩ := hB
    rw [ht] at hP1
    replace hD1 := hD1.weaken (fun _ _ _ h => hf37 _ h)
    generalize H1 = H at hP1 hS ⊢
    obtain ⟨rfl, rfl⟩ := Prod.mk.inj (show (r38, v39) = ((2 * (fCall (sT (chase sT 3 p0)) sc p1).1), (sS, sP, sQ, sE, ec, (fCall (sT (chase sT 3 p0)) sc p1).2, vl, LP, sT)) from hw40)
    have hP : va_P D vwCl (xW F (sS, sP, sQ, sE, ec, (fCall (sT (chase sT 3 p0)) sc p1).2, vl, LP, sT)) H := hP1
    have hD : va_D A (xW F (sS, sP, sQ, sE, ec, (fCall (sT (chase sT 3 p0)) sc p1).2, vl, LP, sT)) := hD1
    exact W.iret (v := (2 * (fCall (sT (chase sT 3 p0)) sc p1).1)) hx hb hr (fun tE ht hW => ⟨⟨(2 * (fCall (sT (chase sT 3 p0)) sc p1).1), (sS, sP, sQ, sE, ec, (fCall (sT (chase sT 3 p0)) sc p1).2, vl, LP, sT), rfl, by first | (simp only [sTw, sLoud, sSoft, sCall, uC, gS, gP, gQ, gE, gec, gsc, gvl, gL, gT, c2, c8, c14, c25, c36, eq_self, ↓reduceIte, Bool.false_eq_true, Bool.not_false, Bool.not_true, Bool.and_true, Bool.and_false, Bool.true_and, Bool.false_and, decide_true, decide_false] <;> first | done | decide) | (simp [sTw, sLoud, sSoft, sCall, uC, gS, gP, gQ, gE, gec, gsc, gvl, gL, gT, c2, c8, c14, c25, c36]; done) | (exfalso; simp_all; done), by rw [ht]; exact hP, va_K.moved hW.alike hK, hD⟩, hS.F ht⟩) hS.2.2 dX1_twiceOf_66
  by_cases c42 : (sT p0).1 = 5
  · refine lv_tableIn (off := 56) (tgt := 60) hx hb dX1_twiceOf_4 (by rw [c42]; decide) (by rw [c42]; decide) (by rw [c42]; rfl) (by decide) ?_
    refine lv_aload_n hx hb dX1_twiceOf_60 rfl (lv_at hl 0 rfl) ?_
    refine lv_aload_n hx hb dX1_twiceOf_61 rfl (lv_at hl 1 rfl) ?_
    refine lv_iload_n hx hb dX1_twiceOf_62 rfl (lv_at hl 2 rfl) ?_
    have hf43 := xFree hD hS hA
    refine va_calli (va_runV (As := [.ref p0, .int p1]) (rest := []) ⟨hx, hb, hml, hown, hts⟩ (k_twiceAsLoud l D F (sS, sP, sQ, sE, ec, sc, vl, LP, sT) hok H.size p0 hp0 p1) (cwV 2 hts gX1_twiceOf_X1_twiceAsLoud rfl rfl rfl (by decide +kernel) ⟨Nat.le_of_ble_eq_true rfl, Nat.le_of_ble_eq_true rfl⟩) (xPre hN hK hP hD hS hA hZ _) rfl rfl hl.1 rfl (lv_room (Nat.le_of_ble_eq_true rfl)) dX1_twiceOf_63 ⟨Nat.le_of_ble_eq_true rfl, Nat.le_of_ble_eq_true rfl⟩) hS (fun q _ h => hf43 q h) hf43 (fun r44 v45 t47 H1 locs ht hvm hw46 hB hz1 hk1 hS => ?_)
    obtain ⟨hP1, hK1, hD1⟩ := hB
    rw [ht] at hP1
    replace hD1 := hD1.weaken (fun _ _ _ h => hf43 _ h)
    generalize H1 = H at hP1 hS ⊢
    obtain ⟨rfl, rfl⟩ := Prod.mk.inj (show (r44, v45) = ((2 * (fCall (sT (chase sT 3 p0)) sc p1).1), (sS, sP, sQ, sE, ec, (fCall (sT (chase sT 3 p0)) sc p1).2, vl, LP, sT)) from hw46)
    have hP : va_P D vwCl (xW F (sS, sP, sQ, sE, ec, (fCall (sT (chase sT 3 p0)) sc p1).2, vl, LP, sT)) H := hP1
    have hD : va_D A (xW F (sS, sP, sQ, sE, ec, (fCall (sT (chase sT 3 p0)) sc p1).2, vl, LP, sT)) := hD1
    exact W.iret (v := (2 * (fCall (sT (chase sT 3 p0)) sc p1).1)) hx hb hr (fun tE ht hW => ⟨⟨(2 * (fCall (sT (chase sT 3 p0)) sc p1).1), (sS, sP, sQ, sE, ec, (fCall (sT (chase sT 3 p0)) sc p1).2, vl, LP, sT), rfl, by first | (simp only [sTw, sLoud, sSoft, sCall, uC, gS, gP, gQ, gE, gec, gsc, gvl, gL, gT, c2, c8, c14, c25, c36, c42, eq_self, ↓reduceIte, Bool.false_eq_true, Bool.not_false, Bool.not_true, Bool.and_true, Bool.and_false, Bool.true_and, Bool.false_and, decide_true, decide_false] <;> first | done | decide) | (simp [sTw, sLoud, sSoft, sCall, uC, gS, gP, gQ, gE, gec, gsc, gvl, gL, gT, c2, c8, c14, c25, c36, c42]; done) | (exfalso; simp_all; done), by rw [ht]; exact hP, va_K.moved hW.alike hK, hD⟩, hS.F ht⟩) hS.2.2 dX1_twiceOf_66
  by_cases c48 : (sT p0).1 = 6
  · refine lv_tableIn (off := 84) (tgt := 88) hx hb dX1_twiceOf_4 (by rw [c48]; decide) (by rw [c48]; decide) (by rw [c48]; rfl) (by decide) ?_
    refine lv_aload_n hx hb dX1_twiceOf_88 rfl (lv_at hl 0 rfl) ?_
    refine lv_aload_n hx hb dX1_twiceOf_89 rfl (lv_at hl 1 rfl) ?_
    refine lv_aload_n hx hb dX1_twiceOf_90 rfl (lv_at hl 0 rfl) ?_
    refine lv_aload_n hx hb dX1_twiceOf_91 rfl (lv_at hl 1 rfl) ?_
    refine lv_iload_n hx hb dX1_twiceOf_92 rfl (lv_at hl 2 rfl) ?_
    have hf49 := xFree hD hS hA
    refine va_calli (va_runV (As := [.ref p0, .int p1]) (rest := [.ref p0, .ref F.1]) ⟨hx, hb, hml, hown, hts⟩ (k_callOf l D F (sS, sP, sQ, sE, ec, sc, vl, LP, sT) hok H.size p0 hp0 p1) (cwV 2 hts gX1_twiceOf_X1_callOf rfl rfl rfl (by decide +kernel) ⟨Nat.le_of_ble_eq_true rfl, Nat.le_of_ble_eq_true rfl⟩) (xPre hN hK hP hD hS hA hZ _) rfl rfl hl.1 rfl (lv_room (Nat.le_of_ble_eq_true rfl)) dX1_twiceOf_93 ⟨Nat.le_of_ble_eq_true rfl, Nat.le_of_ble_eq_true rfl⟩) hS (fun q _ h => hf49 q h) hf49 (fun r50 v51 t53 H1 locs ht hvm hw52 hB hz1 hk1 hS => ?_)
    obtain ⟨hP1, hK1, hD1⟩ := hB
    rw [ht] at hP1
    replace hD1 := hD1.weaken (fun _ _ _ h => hf49 _ h)
    generalize H1 = H at hP1 hS ⊢
    obtain ⟨rfl, rfl⟩ := Prod.mk.inj (show (r50, v51) = ((fCall (sT (chase sT 3 p0)) sc p1).1, (sS, sP, sQ, sE, ec, (fCall (sT (chase sT 3 p0)) sc p1).2, vl, LP, sT)) from hw52)
    have hP : va_P D vwCl (xW F (sS, sP, sQ, sE, ec, (fCall (sT (chase sT 3 p0)) sc p1).2, vl, LP, sT)) H := hP1
    have hD : va_D A (xW F (sS, sP, sQ, sE, ec, (fCall (sT (chase sT 3 p0)) sc p1).2, vl, LP, sT)) := hD1
    have hf54 := xFree hD hS hA
    refine va_calli (va_runV (As := [.ref p0, .int ((fCall (sT (chase sT 3 p0)) sc p1).1)]) (rest := []) ⟨hx, hb, hml, hown, hts⟩ (k_callOf l D F (sS, sP, sQ, sE, ec, (fCall (sT (chase sT 3 p0)) sc p1).2, vl, LP, sT) hok H.size p0 hp0 ((fCall (sT (chase sT 3 p0)) sc p1).1)) (cwV 2 hts gX1_twiceOf_X1_callOf rfl rfl rfl (by decide +kernel) ⟨Nat.le_of_ble_eq_true rfl, Nat.le_of_ble_eq_true rfl⟩) (xPre hN hK hP hD hS hA hZ _) rfl rfl hl.1 rfl (lv_room (Nat.le_of_ble_eq_true rfl)) dX1_twiceOf_96 ⟨Nat.le_of_ble_eq_true rfl, Nat.le_of_ble_eq_true rfl⟩) hS (fun q _ h => hf54 q h) hf54 (fun r55 v56 t58 H1 locs ht hvm hw57 hB hz1 hk1 hS => ?_)
    obtain ⟨hP1, hK1, hD1⟩ := hB
    rw [ht] at hP1
    replace hD1 := hD1.weaken (fun _ _ _ h => hf54 _ h)
    generalize H1 = H at hP1 hS ⊢
    obtain ⟨rfl, rfl⟩ := Prod.mk.inj (show (r55, v56) = ((fCall (sT (chase sT 3 p0)) ((fCall (sT (chase sT 3 p0)) sc p1).2) ((fCall (sT (chase sT 3 p0)) sc p1).1)).1, (sS, sP, sQ, sE, ec, (fCall (sT (chase sT 3 p0)) ((fCall (sT (chase sT 3 p0)) sc p1).2) ((fCall (sT (chase sT 3 p0)) sc p1).1)).2, vl, LP, sT)) from hw57)
    have hP : va_P D vwCl (xW F (sS, sP, sQ, sE, ec, (fCall (sT (chase sT 3 p0)) ((fCall (sT (chase sT 3 p0)) sc p1).2) ((fCall (sT (chase sT 3 p0)) sc p1).1)).2, vl, LP, sT)) H := hP1
    have hD : va_D A (xW F (sS, sP, sQ, sE, ec, (fCall (sT (chase sT 3 p0)) ((fCall (sT (chase sT 3 p0)) sc p1).2) ((fCall (sT (chase sT 3 p0)) sc p1).1)).2, vl, LP, sT)) := hD1
    exact W.iret (v := (fCall (sT (chase sT 3 p0)) ((fCall (sT (chase sT 3 p0)) sc p1).2) ((fCall (sT (chase sT 3 p0)) sc p1).1)).1) hx hb hr (fun tE ht hW => ⟨⟨(fCall (sT (chase sT 3 p0)) ((fCall (sT (chase sT 3 p0)) sc p1).2) ((fCall (sT (chase sT 3 p0)) sc p1).1)).1, (sS, sP, sQ, sE, ec, (fCall (sT (chase sT 3 p0)) ((fCall (sT (chase sT 3 p0)) sc p1).2) ((fCall (sT (chase sT 3 p0)) sc p1).1)).2, vl, LP, sT), rfl, by first | (simp only [sTw, sLoud, sSoft, sCall, uC, gS, gP, gQ, gE, gec, gsc, gvl, gL, gT, c2, c8, c14, c25, c36, c42, c48, eq_self, ↓reduceIte, Bool.false_eq_true, Bool.not_false, Bool.not_true, Bool.and_true, Bool.and_false, Bool.true_and, Bool.false_and, decide_true, decide_false] <;> first | done | decide) | (simp [sTw, sLoud, sSoft, sCall, uC, gS, gP, gQ, gE, gec, gsc, gvl, gL, gT, c2, c8, c14, c25, c36, c42, c48]; done) | (exfalso; simp_all; done), by rw [ht]; exact hP, va_K.moved hW.alike hK, hD⟩, hS.F ht⟩) hS.2.2 dX1_twiceOf_99
  by_cases c59 : (sT p0).1 = 7
  · refine lv_tableIn (off := 84) (tgt := 88) hx hb dX1_twiceOf_4 (by rw [c59]; decide) (by rw [c59]; decide) (by rw [c59]; rfl) (by decide) ?_
    refine lv_aload_n hx hb dX1_twiceOf_88 rfl (lv_at hl 0 rfl) ?_
    refine lv_aload_n hx hb dX1_twiceOf_89 rfl (lv_at hl 1 rfl) ?_
    refine lv_aload_n hx hb dX1_twiceOf_90 rfl (lv_at hl 0 rfl) ?_
    refine lv_aload_n hx hb dX1_twiceOf_91 rfl (lv_at hl 1 rfl) ?_
    refine lv_iload_n hx hb dX1_twiceOf_92 rfl (lv_at hl 2 rfl) ?_
    have hf60 := xFree hD hS hA
    refine va_calli (va_runV (As := [.ref p0, .int p1]) (rest := [.ref p0, .ref F.1]) ⟨hx, hb, hml, hown, hts⟩ (k_callOf l D F (sS, sP, sQ, sE, ec, sc, vl, LP, sT) hok H.size p0 hp0 p1) (cwV 2 hts gX1_twiceOf_X1_callOf rfl rfl rfl (by decide +kernel) ⟨Nat.le_of_ble_eq_true rfl, Nat.le_of_ble_eq_true rfl⟩) (xPre hN hK hP hD hS hA hZ _) rfl rfl hl.1 rfl (lv_room (Nat.le_of_ble_eq_true rfl)) dX1_twiceOf_93 ⟨Nat.le_of_ble_eq_true rfl, Nat.le_of_ble_eq_true rfl⟩) hS (fun q _ h => hf60 q h) hf60 (fun r61 v62 t64 H1 locs ht hvm hw63 hB hz1 hk1 hS => ?_)
    obtain ⟨hP1, hK1, hD1⟩ := hB
    rw [ht] at hP1
    replace hD1 := hD1.weaken (fun _ _ _ h => hf60 _ h)
    generalize H1 = H at hP1 hS ⊢
    obtain ⟨rfl, rfl⟩ := Prod.mk.inj (show (r61, v62) = ((fCall (sT (chase sT 3 p0)) sc p1).1, (sS, sP, sQ, sE, ec, (fCall (sT (chase sT 3 p0)) sc p1).2, vl, LP, sT)) from hw63)
    have hP : va_P D vwCl (xW F (sS, sP, sQ, sE, ec, (fCall (sT (chase sT 3 p0)) sc p1).2, vl, LP, sT)) H := hP1
    have hD : va_D A (xW F (sS, sP, sQ, sE, ec, (fCall (sT (chase sT 3 p0)) sc p1).2, vl, LP, sT)) := hD1
    have hf65 := xFree hD hS hA
    refine va_calli (va_runV (As := [.ref p0, .int ((fCall (sT (chase sT 3 p0)) sc p1).1)]) (rest := []) ⟨hx, hb, hml, hown, hts⟩ (k_callOf l D F (sS, sP, sQ, sE, ec, (fCall (sT (chase sT 3 p0)) sc p1).2, vl, LP, sT) hok H.size p0 hp0 ((fCall (sT (chase sT 3 p0)) sc p1).1)) (cwV 2 hts gX1_twiceOf_X1_callOf rfl rfl rfl (by decide +kernel) ⟨Nat.le_of_ble_eq_true rfl, Nat.le_of_ble_eq_true rfl⟩) (xPre hN hK hP hD hS hA hZ _) rfl rfl hl.1 rfl (lv_room (Nat.le_of_ble_eq_true rfl)) dX1_twiceOf_96 ⟨Nat.le_of_ble_eq_true rfl, Nat.le_of_ble_eq_true rfl⟩) hS (fun q _ h => hf65 q h) hf65 (fun r66 v67 t69 H1 locs ht hvm hw68 hB hz1 hk1 hS => ?_)
    obtain ⟨hP1, hK1, hD1⟩ := hB
    rw [ht] at hP1
    replace hD1 := hD1.weaken (fun _ _ _ h => hf65 _ h)
    generalize H1 = H at hP1 hS ⊢
    obtain ⟨rfl, rfl⟩ := Prod.mk.inj (show (r66, v67) = ((fCall (sT (chase sT 3 p0)) ((fCall (sT (chase sT 3 p0)) sc p1).2) ((fCall (sT (chase sT 3 p0)) sc p1).1)).1, (sS, sP, sQ, sE, ec, (fCall (sT (chase sT 3 p0)) ((fCall (sT (chase sT 3 p0)) sc p1).2) ((fCall (sT (chase sT 3 p0)) sc p1).1)).2, vl, LP, sT)) from hw68)
    have hP : va_P D vwCl (xW F (sS, sP, sQ, sE, ec, (fCall (sT (chase sT 3 p0)) ((fCall (sT (chase sT 3 p0)) sc p1).2) ((fCall (sT (chase sT 3 p0)) sc p1).1)).2, vl, LP, sT)) H := hP1
    have hD : va_D A (xW F (sS, sP, sQ, sE, ec, (fCall (sT (chase sT 3 p0)) ((fCall (sT (chase sT 3 p0)) sc p1).2) ((fCall (sT (chase sT 3 p0)) sc p1).1)).2, vl, LP, sT)) := hD1
    exact W.iret (v := (fCall (sT (chase sT 3 p0)) ((fCall (sT (chase sT 3 p0)) sc p1).2) ((fCall (sT (chase sT 3 p0)) sc p1).1)).1) hx hb hr (fun tE ht hW => ⟨⟨(fCall (sT (chase sT 3 p0)) ((fCall (sT (chase sT 3 p0)) sc p1).2) ((fCall (sT (chase sT 3 p0)) sc p1).1)).1, (sS, sP, sQ, sE, ec, (fCall (sT (chase sT 3 p0)) ((fCall (sT (chase sT 3 p0)) sc p1).2) ((fCall (sT (chase sT 3 p0)) sc p1).1)).2, vl, LP, sT), rfl, by first | (simp only [sTw, sLoud, sSoft, sCall, uC, gS, gP, gQ, gE, gec, gsc, gvl, gL, gT, c2, c8, c14, c25, c36, c42, c48, c59, eq_self, ↓reduceIte, Bool.false_eq_true, Bool.not_false, Bool.not_true, Bool.and_true, Bool.and_false, Bool.true_and, Bool.false_and, decide_true, decide_false] <;> first | done | decide) | (simp [sTw, sLoud, sSoft, sCall, uC, gS, gP, gQ, gE, gec, gsc, gvl, gL, gT, c2, c8, c14, c25, c36, c42, c48, c59]; done) | (exfalso; simp_all; done), by rw [ht]; exact hP, va_K.moved hW.alike hK, hD⟩, hS.F ht⟩) hS.2.2 dX1_twiceOf_99
  by_cases c70 : (sT p0).1 = 8
  · refine lv_tableIn (off := 84) (tgt := 88) hx hb dX1_twiceOf_4 (by rw [c70]; decide) (by rw [c70]; decide) (by rw [c70]; rfl) (by decide) ?_
    refine lv_aload_n hx hb dX1_twiceOf_88 rfl (lv_at hl 0 rfl) ?_
    refine lv_aload_n hx hb dX1_twiceOf_89 rfl (lv_at hl 1 rfl) ?_
    refine lv_aload_n hx hb dX1_twiceOf_90 rfl (lv_at hl 0 rfl) ?_
    refine lv_aload_n hx hb dX1_twiceOf_91 rfl (lv_at hl 1 rfl) ?_
    refine lv_iload_n hx hb dX1_twiceOf_92 rfl (lv_at hl 2 rfl) ?_
    have hf71 := xFree hD hS hA
    refine va_calli (va_runV (As := [.ref p0, .int p1]) (rest := [.ref p0, .ref F.1]) ⟨hx, hb, hml, hown, hts⟩ (k_callOf l D F (sS, sP, sQ, sE, ec, sc, vl, LP, sT) hok H.size p0 hp0 p1) (cwV 2 hts gX1_twiceOf_X1_callOf rfl rfl rfl (by decide +kernel) ⟨Nat.le_of_ble_eq_true rfl, Nat.le_of_ble_eq_true rfl⟩) (xPre hN hK hP hD hS hA hZ _) rfl rfl hl.1 rfl (lv_room (Nat.le_of_ble_eq_true rfl)) dX1_twiceOf_93 ⟨Nat.le_of_ble_eq_true rfl, Nat.le_of_ble_eq_true rfl⟩) hS (fun q _ h => hf71 q h) hf71 (fun r72 v73 t75 H1 locs ht hvm hw74 hB hz1 hk1 hS => ?_)
    obtain ⟨hP1, hK1, hD1⟩ := hB
    rw [ht] at hP1
    replace hD1 := hD1.weaken (fun _ _ _ h => hf71 _ h)
    generalize H1 = H at hP1 hS ⊢
    obtain ⟨rfl, rfl⟩ := Prod.mk.inj (show (r72, v73) = ((fCall (sT (chase sT 3 p0)) sc p1).1, (sS, sP, sQ, sE, ec, (fCall (sT (chase sT 3 p0)) sc p1).2, vl, LP, sT)) from hw74)
    have hP : va_P D vwCl (xW F (sS, sP, sQ, sE, ec, (fCall (sT (chase sT 3 p0)) sc p1).2, vl, LP, sT)) H := hP1
    have hD : va_D A (xW F (sS, sP, sQ, sE, ec, (fCall (sT (chase sT 3 p0)) sc p1).2, vl, LP, sT)) := hD1
    have hf76 := xFree hD hS hA
    refine va_calli (va_runV (As := [.ref p0, .int ((fCall (sT (chase sT 3 p0)) sc p1).1)]) (rest := []) ⟨hx, hb, hml, hown, hts⟩ (k_callOf l D F (sS, sP, sQ, sE, ec, (fCall (sT (chase sT 3 p0)) sc p1).2, vl, LP, sT) hok H.size p0 hp0 ((fCall (sT (chase sT 3 p0)) sc p1).1)) (cwV 2 hts gX1_twiceOf_X1_callOf rfl rfl rfl (by decide +kernel) ⟨Nat.le_of_ble_eq_true rfl, Nat.le_of_ble_eq_true rfl⟩) (xPre hN hK hP hD hS hA hZ _) rfl rfl hl.1 rfl (lv_room (Nat.le_of_ble_eq_true rfl)) dX1_twiceOf_96 ⟨Nat.le_of_ble_eq_true rfl, Nat.le_of_ble_eq_true rfl⟩) hS (fun q _ h => hf76 q h) hf76 (fun r77 v78 t80 H1 locs ht hvm hw79 hB hz1 hk1 hS => ?_)
    obtain ⟨hP1, hK1, hD1⟩ := hB
    rw [ht] at hP1
    replace hD1 := hD1.weaken (fun _ _ _ h => hf76 _ h)
    generalize H1 = H at hP1 hS ⊢
    obtain ⟨rfl, rfl⟩ := Prod.mk.inj (show (r77, v78) = ((fCall (sT (chase sT 3 p0)) ((fCall (sT (chase sT 3 p0)) sc p1).2) ((fCall (sT (chase sT 3 p0)) sc p1).1)).1, (sS, sP, sQ, sE, ec, (fCall (sT (chase sT 3 p0)) ((fCall (sT (chase sT 3 p0)) sc p1).2) ((fCall (sT (chase sT 3 p0)) sc p1).1)).2, vl, LP, sT)) from hw79)
    have hP : va_P D vwCl (xW F (sS, sP, sQ, sE, ec, (fCall (sT (chase sT 3 p0)) ((fCall (sT (chase sT 3 p0)) sc p1).2) ((fCall (sT (chase sT 3 p0)) sc p1).1)).2, vl, LP, sT)) H := hP1
    have hD : va_D A (xW F (sS, sP, sQ, sE, ec, (fCall (sT (chase sT 3 p0)) ((fCall (sT (chase sT 3 p0)) sc p1).2) ((fCall (sT (chase sT 3 p0)) sc p1).1)).2, vl, LP, sT)) := hD1
    exact W.iret (v := (fCall (sT (chase sT 3 p0)) ((fCall (sT (chase sT 3 p0)) sc p1).2) ((fCall (sT (chase sT 3 p0)) sc p1).1)).1) hx hb hr (fun tE ht hW => ⟨⟨(fCall (sT (chase sT 3 p0)) ((fCall (sT (chase sT 3 p0)) sc p1).2) ((fCall (sT (chase sT 3 p0)) sc p1).1)).1, (sS, sP, sQ, sE, ec, (fCall (sT (chase sT 3 p0)) ((fCall (sT (chase sT 3 p0)) sc p1).2) ((fCall (sT (chase sT 3 p0)) sc p1).1)).2, vl, LP, sT), rfl, by first | (simp only [sTw, sLoud, sSoft, sCall, uC, gS, gP, gQ, gE, gec, gsc, gvl, gL, gT, c2, c8, c14, c25, c36, c42, c48, c59, c70, eq_self, ↓reduceIte, Bool.false_eq_true, Bool.not_false, Bool.not_true, Bool.and_true, Bool.and_false, Bool.true_and, Bool.false_and, decide_true, decide_false] <;> first | done | decide) | (simp [sTw, sLoud, sSoft, sCall, uC, gS, gP, gQ, gE, gec, gsc, gvl, gL, gT, c2, c8, c14, c25, c36, c42, c48, c59, c70]; done) | (exfalso; simp_all; done), by rw [ht]; exact hP, va_K.moved hW.alike hK, hD⟩, hS.F ht⟩) hS.2.2 dX1_twiceOf_99
  by_cases c81 : (sT p0).1 = 9
  · refine lv_tableIn (off := 63) (tgt := 67) hx hb dX1_twiceOf_4 (by rw [c81]; decide) (by rw [c81]; decide) (by rw [c81]; rfl) (by decide) ?_
    refine lv_aload_n hx hb dX1_twiceOf_67 rfl (lv_at hl 0 rfl) ?_
    refine lv_aload_n hx hb dX1_twiceOf_68 rfl (lv_at hl 1 rfl) ?_
    refine lv_iload_n hx hb dX1_twiceOf_69 rfl (lv_at hl 2 rfl) ?_
    have hf82 := xFree hD hS hA
    refine va_calli (va_runV (As := [.ref p0, .int p1]) (rest := []) ⟨hx, hb, hml, hown, hts⟩ (k_twiceAsSoft l D F (sS, sP, sQ, sE, ec, sc, vl, LP, sT) hok H.size p0 hp0 p1) (cwV 2 hts gX1_twiceOf_X1_twiceAsSoft rfl rfl rfl (by decide +kernel) ⟨Nat.le_of_ble_eq_true rfl, Nat.le_of_ble_eq_true rfl⟩) (xPre hN hK hP hD hS hA hZ _) rfl rfl hl.1 rfl (lv_room (Nat.le_of_ble_eq_true rfl)) dX1_twiceOf_70 ⟨Nat.le_of_ble_eq_true rfl, Nat.le_of_ble_eq_true rfl⟩) hS (fun q _ h => hf82 q h) hf82 (fun r83 v84 t86 H1 locs ht hvm hw85 hB hz1 hk1 hS => ?_)
    obtain ⟨hP1, hK1, hD1⟩ := hB
    rw [ht] at hP1
    replace hD1 := hD1.weaken (fun _ _ _ h => hf82 _ h)
    generalize H1 = H at hP1 hS ⊢
    obtain ⟨rfl, rfl⟩ := Prod.mk.inj (show (r83, v84) = (((fCall (sT (chase sT 3 p0)) sc p1).1 - 1), (sS, sP, sQ, sE, ec, (fCall (sT (chase sT 3 p0)) sc p1).2, vl, LP, sT)) from hw85)
    have hP : va_P D vwCl (xW F (sS, sP, sQ, sE, ec, (fCall (sT (chase sT 3 p0)) sc p1).2, vl, LP, sT)) H := hP1
    have hD : va_D A (xW F (sS, sP, sQ, sE, ec, (fCall (sT (chase sT 3 p0)) sc p1).2, vl, LP, sT)) := hD1
    exact W.iret (v := ((fCall (sT (chase sT 3 p0)) sc p1).1 - 1)) hx hb hr (fun tE ht hW => ⟨⟨((fCall (sT (chase sT 3 p0)) sc p1).1 - 1), (sS, sP, sQ, sE, ec, (fCall (sT (chase sT 3 p0)) sc p1).2, vl, LP, sT), rfl, by first | (simp only [sTw, sLoud, sSoft, sCall, uC, gS, gP, gQ, gE, gec, gsc, gvl, gL, gT, c2, c8, c14, c25, c36, c42, c48, c59, c70, c81, eq_self, ↓reduceIte, Bool.false_eq_true, Bool.not_false, Bool.not_true, Bool.and_true, Bool.and_false, Bool.true_and, Bool.false_and, decide_true, decide_false] <;> first | done | decide) | (simp [sTw, sLoud, sSoft, sCall, uC, gS, gP, gQ, gE, gec, gsc, gvl, gL, gT, c2, c8, c14, c25, c36, c42, c48, c59, c70, c81]; done) | (exfalso; simp_all; done), by rw [ht]; exact hP, va_K.moved hW.alike hK, hD⟩, hS.F ht⟩) hS.2.2 dX1_twiceOf_73
  refine lv_tableOut (tgt := 88) hx hb dX1_twiceOf_4 (by have z0 := lv_neT (k := 0) (a := 0) c2 (by decide); have z1 := lv_neT (k := 1) (a := 1) c8 (by decide); have z2 := lv_neT (k := 2) (a := 2) c14 (by decide); have z3 := lv_neT (k := 3) (a := 3) c25 (by decide); have z4 := lv_neT (k := 4) (a := 4) c36 (by decide); have z5 := lv_neT (k := 5) (a := 5) c42 (by decide); have z6 := lv_neT (k := 6) (a := 6) c48 (by decide); have z7 := lv_neT (k := 7) (a := 7) c59 (by decide); have z8 := lv_neT (k := 8) (a := 8) c70 (by decide); have z9 := lv_neT (k := 9) (a := 9) c81 (by decide); omega) (by decide) ?_
  refine lv_aload_n hx hb dX1_twiceOf_88 rfl (lv_at hl 0 rfl) ?_
  refine lv_aload_n hx hb dX1_twiceOf_89 rfl (lv_at hl 1 rfl) ?_
  refine lv_aload_n hx hb dX1_twiceOf_90 rfl (lv_at hl 0 rfl) ?_
  refine lv_aload_n hx hb dX1_twiceOf_91 rfl (lv_at hl 1 rfl) ?_
  refine lv_iload_n hx hb dX1_twiceOf_92 rfl (lv_at hl 2 rfl) ?_
  have hf87 := xFree hD hS hA
  refine va_calli (va_runV (As := [.ref p0, .int p1]) (rest := [.ref p0, .ref F.1]) ⟨hx, hb, hml, hown, hts⟩ (k_callOf l D F (sS, sP, sQ, sE, ec, sc, vl, LP, sT) hok H.size p0 hp0 p1) (cwV 2 hts gX1_twiceOf_X1_callOf rfl rfl rfl (by decide +kernel) ⟨Nat.le_of_ble_eq_true rfl, Nat.le_of_ble_eq_true rfl⟩) (xPre hN hK hP hD hS hA hZ _) rfl rfl hl.1 rfl (lv_room (Nat.le_of_ble_eq_true rfl)) dX1_twiceOf_93 ⟨Nat.le_of_ble_eq_true rfl, Nat.le_of_ble_eq_true rfl⟩) hS (fun q _ h => hf87 q h) hf87 (fun r88 v89 t91 H1 locs ht hvm hw90 hB hz1 hk1 hS => ?_)
  obtain ⟨hP1, hK1, hD1⟩ := hB
  rw [ht] at hP1
  replace hD1 := hD1.weaken (fun _ _ _ h => hf87 _ h)
  generalize H1 = H at hP1 hS ⊢
  obtain ⟨rfl, rfl⟩ := Prod.mk.inj (show (r88, v89) = ((fCall (sT (chase sT 3 p0)) sc p1).1, (sS, sP, sQ, sE, ec, (fCall (sT (chase sT 3 p0)) sc p1).2, vl, LP, sT)) from hw90)
  have hP : va_P D vwCl (xW F (sS, sP, sQ, sE, ec, (fCall (sT (chase sT 3 p0)) sc p1).2, vl, LP, sT)) H := hP1
  have hD : va_D A (xW F (sS, sP, sQ, sE, ec, (fCall (sT (chase sT 3 p0)) sc p1).2, vl, LP, sT)) := hD1
  have hf92 := xFree hD hS hA
  refine va_calli (va_runV (As := [.ref p0, .int ((fCall (sT (chase sT 3 p0)) sc p1).1)]) (rest := []) ⟨hx, hb, hml, hown, hts⟩ (k_callOf l D F (sS, sP, sQ, sE, ec, (fCall (sT (chase sT 3 p0)) sc p1).2, vl, LP, sT) hok H.size p0 hp0 ((fCall (sT (chase sT 3 p0)) sc p1).1)) (cwV 2 hts gX1_twiceOf_X1_callOf rfl rfl rfl (by decide +kernel) ⟨Nat.le_of_ble_eq_true rfl, Nat.le_of_ble_eq_true rfl⟩) (xPre hN hK hP hD hS hA hZ _) rfl rfl hl.1 rfl (lv_room (Nat.le_of_ble_eq_true rfl)) dX1_twiceOf_96 ⟨Nat.le_of_ble_eq_true rfl, Nat.le_of_ble_eq_true rfl⟩) hS (fun q _ h => hf92 q h) hf92 (fun r93 v94 t96 H1 locs ht hvm hw95 hB hz1 hk1 hS => ?_)
  obtain ⟨hP1, hK1, hD1⟩ := hB
  rw [ht] at hP1
  replace hD1 := hD1.weaken (fun _ _ _ h => hf92 _ h)
  generalize H1 = H at hP1 hS ⊢
  obtain ⟨rfl, rfl⟩ := Prod.mk.inj (show (r93, v94) = ((fCall (sT (chase sT 3 p0)) ((fCall (sT (chase sT 3 p0)) sc p1).2) ((fCall (sT (chase sT 3 p0)) sc p1).1)).1, (sS, sP, sQ, sE, ec, (fCall (sT (chase sT 3 p0)) ((fCall (sT (chase sT 3 p0)) sc p1).2) ((fCall (sT (chase sT 3 p0)) sc p1).1)).2, vl, LP, sT)) from hw95)
  have hP : va_P D vwCl (xW F (sS, sP, sQ, sE, ec, (fCall (sT (chase sT 3 p0)) ((fCall (sT (chase sT 3 p0)) sc p1).2) ((fCall (sT (chase sT 3 p0)) sc p1).1)).2, vl, LP, sT)) H := hP1
  have hD : va_D A (xW F (sS, sP, sQ, sE, ec, (fCall (sT (chase sT 3 p0)) ((fCall (sT (chase sT 3 p0)) sc p1).2) ((fCall (sT (chase sT 3 p0)) sc p1).1)).2, vl, LP, sT)) := hD1
  exact W.iret (v := (fCall (sT (chase sT 3 p0)) ((fCall (sT (chase sT 3 p0)) sc p1).2) ((fCall (sT (chase sT 3 p0)) sc p1).1)).1) hx hb hr (fun tE ht hW => ⟨⟨(fCall (sT (chase sT 3 p0)) ((fCall (sT (chase sT 3 p0)) sc p1).2) ((fCall (sT (chase sT 3 p0)) sc p1).1)).1, (sS, sP, sQ, sE, ec, (fCall (sT (chase sT 3 p0)) ((fCall (sT (chase sT 3 p0)) sc p1).2) ((fCall (sT (chase sT 3 p0)) sc p1).1)).2, vl, LP, sT), rfl, by first | (simp only [sTw, sLoud, sSoft, sCall, uC, gS, gP, gQ, gE, gec, gsc, gvl, gL, gT, c2, c8, c14, c25, c36, c42, c48, c59, c70, c81, eq_self, ↓reduceIte, Bool.false_eq_true, Bool.not_false, Bool.not_true, Bool.and_true, Bool.and_false, Bool.true_and, Bool.false_and, decide_true, decide_false] <;> first | done | decide) | (simp [sTw, sLoud, sSoft, sCall, uC, gS, gP, gQ, gE, gec, gsc, gvl, gL, gT, c2, c8, c14, c25, c36, c42, c48, c59, c70, c81]; done) | (exfalso; simp_all; done), by rw [ht]; exact hP, va_K.moved hW.alike hK, hD⟩, hS.F ht⟩) hS.2.2 dX1_twiceOf_99
set_option maxHeartbeats 8000000 in
set_option maxRecDepth 100000 in
theorem k_answerOf (l : Launch) (D : va_G) (F : XF) (u : XS) (hok : xOk F u) (sz : Nat) (p0 : Nat) (hp0 : p0 ∈ gL u) (p1 : Int32) (p2 : Int32) (p3 : Int32) : Met l yX1_answerOf wsX1_answerOf ({ frames := 3, cells := 0, slots := 0, locals := 68 }) (xPc D F u sz [.ref F.1, .ref p0, .int p1, .int p2, .int p3]) (va_Qi (fun (r : Int32) (v : XS) => (r, v) = sAns u p0 p1 p2 p3) (xB D F (va_A (xW F u) sz)) (va_A (xW F u) sz)) 0 0 (va_A (xW F u) sz) := by
  obtain ⟨sS, sP, sQ, sE, ec, sc, vl, LP, sT⟩ := u
  refine Met.ofW (cc := cX1_answerOf) (maxL := 5) (ret := (some .int)) (by decide) rfl ?_
  intro p e s m args below meth c s₁ B hml hv
  obtain ⟨rfl, hsz, hP, hK, hD0, hN, hZ⟩ := hv
  have hx := B.exec
  have hb := B.bytes
  have hr := B.returns
  have hts := atoms_spec (ws := wsX1_answerOf) B.pre
  have hown : s.vm.findClass RX1 = some m.cls := findClass_of_methodNamed B.named
  have hlocks := B.notSynchronized
  subst hsz
  have hD := hD0.self (sz := s.heap.size)
  generalize hAe : va_A (xW F (sS, sP, sQ, sE, ec, sc, vl, LP, sT)) s.heap.size = A at hD hZ ⊢
  have hA : ∀ q : Nat, s.heap.size ≤ q → A q := fun q h => by rw [← hAe]; exact Or.inr h
  have hS : va_S A s.heap s.heap [] := va_S.rf
  obtain ⟨tk, tm, tr, hztk, httk, hztm, httm, hztr, httr⟩ := id hZ
  refine xHeap (C := fun H => va_P D vwCl (xW F (sS, sP, sQ, sE, ec, sc, vl, LP, sT)) H ∧ va_S A s.heap H []) ⟨hP, hS⟩ (fun H hC => ?_)
  obtain ⟨hP, hS⟩ := hC
  have hl := lv_entry ([.ref F.1, .ref p0, .int p1, .int p2, .int p3]) (n := 5) (Nat.le_of_ble_eq_true rfl)
  rw [lg_entry_eq]
  generalize (lg_sl ([.ref F.1, .ref p0, .int p1, .int p2, .int p3]) ++ List.replicate (5 - (lg_sl ([.ref F.1, .ref p0, .int p1, .int p2, .int p3])).length) Slot.unset).toArray = ls at hl ⊢
  have hl : lv_has ls 5 [(0, .ref F.1), (1, .ref p0), (2, .int p1), (3, .int p2), (4, .int p3)] := hl
  refine lv_iload_n hx hb dX1_answerOf_0 rfl (lv_at hl 3 rfl) ?_
  by_cases c1 : p2 = 0
  · refine lv_tableIn (off := 59) (tgt := 60) hx hb dX1_answerOf_1 (by rw [c1]; decide) (by rw [c1]; decide) (by rw [c1]; rfl) (by decide) ?_
    refine lv_aload_n hx hb dX1_answerOf_60 rfl (lv_at hl 0 rfl) ?_
    refine lv_aload_n hx hb dX1_answerOf_61 rfl (lv_at hl 1 rfl) ?_
    refine lv_iload hx hb dX1_answerOf_62 (lv_at hl 4 rfl) ?_
    have hf2 := xFree hD hS hA
    refine va_calli (va_runV (As := [.ref p0, .int p3]) (rest := []) ⟨hx, hb, hml, hown, hts⟩ (k_callOf l D F (sS, sP, sQ, sE, ec, sc, vl, LP, sT) hok H.size p0 hp0 p3) (cwV 2 hts gX1_answerOf_X1_callOf rfl rfl rfl (by decide +kernel) ⟨Nat.le_of_ble_eq_true rfl, Nat.le_of_ble_eq_true rfl⟩) (xPre hN hK hP hD hS hA hZ _) rfl rfl hl.1 rfl (lv_room (Nat.le_of_ble_eq_true rfl)) dX1_answerOf_64 ⟨Nat.le_of_ble_eq_true rfl, Nat.le_of_ble_eq_true rfl⟩) hS (fun q _ h => hf2 q h) hf2 (fun r3 v4 t6 H1 locs ht hvm hw5 hB hz1 hk1 hS => ?_)
    obtain ⟨hP1, hK1, hD1⟩ := hB
    rw [ht] at hP1
    replace hD1 := hD1.weaken (fun _ _ _ h => hf2 _ h)
    generalize H1 = H at hP1 hS ⊢
    obtain ⟨rfl, rfl⟩ := Prod.mk.inj (show (r3, v4) = ((fCall (sT (chase sT 3 p0)) sc p3).1, (sS, sP, sQ, sE, ec, (fCall (sT (chase sT 3 p0)) sc p3).2, vl, LP, sT)) from hw5)
    have hP : va_P D vwCl (xW F (sS, sP, sQ, sE, ec, (fCall (sT (chase sT 3 p0)) sc p3).2, vl, LP, sT)) H := hP1
    have hD : va_D A (xW F (sS, sP, sQ, sE, ec, (fCall (sT (chase sT 3 p0)) sc p3).2, vl, LP, sT)) := hD1
    exact W.iret (v := (fCall (sT (chase sT 3 p0)) sc p3).1) hx hb hr (fun tE ht hW => ⟨⟨(fCall (sT (chase sT 3 p0)) sc p3).1, (sS, sP, sQ, sE, ec, (fCall (sT (chase sT 3 p0)) sc p3).2, vl, LP, sT), rfl, by first | (simp only [sAns, sCall, uC, gS, gP, gQ, gE, gec, gsc, gvl, gL, gT, c1, eq_self, ↓reduceIte, Bool.false_eq_true, Bool.not_false, Bool.not_true, Bool.and_true, Bool.and_false, Bool.true_and, Bool.false_and, decide_true, decide_false] <;> first | done | decide) | (simp [sAns, sCall, uC, gS, gP, gQ, gE, gec, gsc, gvl, gL, gT, c1]; done) | (exfalso; simp_all; done), by rw [ht]; exact hP, va_K.moved hW.alike hK, hD⟩, hS.F ht⟩) hS.2.2 dX1_answerOf_67
  by_cases c7 : p2 = 1
  · refine lv_tableIn (off := 67) (tgt := 68) hx hb dX1_answerOf_1 (by rw [c7]; decide) (by rw [c7]; decide) (by rw [c7]; rfl) (by decide) ?_
    refine lv_aload_n hx hb dX1_answerOf_68 rfl (lv_at hl 0 rfl) ?_
    refine lv_aload_n hx hb dX1_answerOf_69 rfl (lv_at hl 1 rfl) ?_
    refine lv_iload hx hb dX1_answerOf_70 (lv_at hl 4 rfl) ?_
    have hf8 := xFree hD hS hA
    refine va_calli (va_runV (As := [.ref p0, .int p3]) (rest := []) ⟨hx, hb, hml, hown, hts⟩ (k_twiceOf l D F (sS, sP, sQ, sE, ec, sc, vl, LP, sT) hok H.size p0 hp0 p3) (cwV 2 hts gX1_answerOf_X1_twiceOf rfl rfl rfl (by decide +kernel) ⟨Nat.le_of_ble_eq_true rfl, Nat.le_of_ble_eq_true rfl⟩) (xPre hN hK hP hD hS hA hZ _) rfl rfl hl.1 rfl (lv_room (Nat.le_of_ble_eq_true rfl)) dX1_answerOf_72 ⟨Nat.le_of_ble_eq_true rfl, Nat.le_of_ble_eq_true rfl⟩) hS (fun q _ h => hf8 q h) hf8 (fun r9 v10 t12 H1 locs ht hvm hw11 hB hz1 hk1 hS => ?_)
    obtain ⟨hP1, hK1, hD1⟩ := hB
    rw [ht] at hP1
    replace hD1 := hD1.weaken (fun _ _ _ h => hf8 _ h)
    generalize H1 = H at hP1 hS ⊢
    obtain ⟨rfl, rfl⟩ := Prod.mk.inj (show (r9, v10) = ((sTw (sS, sP, sQ, sE, ec, sc, vl, LP, sT) p0 p3).1, ((sTw (sS, sP, sQ, sE, ec, sc, vl, LP, sT) p0 p3).2.1, (sTw (sS, sP, sQ, sE, ec, sc, vl, LP, sT) p0 p3).2.2.1, (sTw (sS, sP, sQ, sE, ec, sc, vl, LP, sT) p0 p3).2.2.2.1, (sTw (sS, sP, sQ, sE, ec, sc, vl, LP, sT) p0 p3).2.2.2.2.1, (sTw (sS, sP, sQ, sE, ec, sc, vl, LP, sT) p0 p3).2.2.2.2.2.1, (sTw (sS, sP, sQ, sE, ec, sc, vl, LP, sT) p0 p3).2.2.2.2.2.2.1, (sTw (sS, sP, sQ, sE, ec, sc, vl, LP, sT) p0 p3).2.2.2.2.2.2.2.1, (sTw (sS, sP, sQ, sE, ec, sc, vl, LP, sT) p0 p3).2.2.2.2.2.2.2.2.1, (sTw (sS, sP, sQ, sE, ec, sc, vl, LP, sT) p0 p3).2.2.2.2.2.2.2.2.2)) from hw11)
    have hP : va_P D vwCl (xW F ((sTw (sS, sP, sQ, sE, ec, sc, vl, LP, sT) p0 p3).2.1, (sTw (sS, sP, sQ, sE, ec, sc, vl, LP, sT) p0 p3).2.2.1, (sTw (sS, sP, sQ, sE, ec, sc, vl, LP, sT) p0 p3).2.2.2.1, (sTw (sS, sP, sQ, sE, ec, sc, vl, LP, sT) p0 p3).2.2.2.2.1, (sTw (sS, sP, sQ, sE, ec, sc, vl, LP, sT) p0 p3).2.2.2.2.2.1, (sTw (sS, sP, sQ, sE, ec, sc, vl, LP, sT) p0 p3).2.2.2.2.2.2.1, (sTw (sS, sP, sQ, sE, ec, sc, vl, LP, sT) p0 p3).2.2.2.2.2.2.2.1, (sTw (sS, sP, sQ, sE, ec, sc, vl, LP, sT) p0 p3).2.2.2.2.2.2.2.2.1, (sTw (sS, sP, sQ, sE, ec, sc, vl, LP, sT) p0 p3).2.2.2.2.2.2.2.2.2)) H := hP1
    have hD : va_D A (xW F ((sTw (sS, sP, sQ, sE, ec, sc, vl, LP, sT) p0 p3).2.1, (sTw (sS, sP, sQ, sE, ec, sc, vl, LP, sT) p0 p3).2.2.1, (sTw (sS, sP, sQ, sE, ec, sc, vl, LP, sT) p0 p3).2.2.2.1, (sTw (sS, sP, sQ, sE, ec, sc, vl, LP, sT) p0 p3).2.2.2.2.1, (sTw (sS, sP, sQ, sE, ec, sc, vl, LP, sT) p0 p3).2.2.2.2.2.1, (sTw (sS, sP, sQ, sE, ec, sc, vl, LP, sT) p0 p3).2.2.2.2.2.2.1, (sTw (sS, sP, sQ, sE, ec, sc, vl, LP, sT) p0 p3).2.2.2.2.2.2.2.1, (sTw (sS, sP, sQ, sE, ec, sc, vl, LP, sT) p0 p3).2.2.2.2.2.2.2.2.1, (sTw (sS, sP, sQ, sE, ec, sc, vl, LP, sT) p0 p3).2.2.2.2.2.2.2.2.2)) := hD1
    exact W.iret (v := (sTw (sS, sP, sQ, sE, ec, sc, vl, LP, sT) p0 p3).1) hx hb hr (fun tE ht hW => ⟨⟨(sTw (sS, sP, sQ, sE, ec, sc, vl, LP, sT) p0 p3).1, ((sTw (sS, sP, sQ, sE, ec, sc, vl, LP, sT) p0 p3).2.1, (sTw (sS, sP, sQ, sE, ec, sc, vl, LP, sT) p0 p3).2.2.1, (sTw (sS, sP, sQ, sE, ec, sc, vl, LP, sT) p0 p3).2.2.2.1, (sTw (sS, sP, sQ, sE, ec, sc, vl, LP, sT) p0 p3).2.2.2.2.1, (sTw (sS, sP, sQ, sE, ec, sc, vl, LP, sT) p0 p3).2.2.2.2.2.1, (sTw (sS, sP, sQ, sE, ec, sc, vl, LP, sT) p0 p3).2.2.2.2.2.2.1, (sTw (sS, sP, sQ, sE, ec, sc, vl, LP, sT) p0 p3).2.2.2.2.2.2.2.1, (sTw (sS, sP, sQ, sE, ec, sc, vl, LP, sT) p0 p3).2.2.2.2.2.2.2.2.1, (sTw (sS, sP, sQ, sE, ec, sc, vl, LP, sT) p0 p3).2.2.2.2.2.2.2.2.2), rfl, by first | (simp only [sAns, sCall, uC, gS, gP, gQ, gE, gec, gsc, gvl, gL, gT, c1, c7, eq_self, ↓reduceIte, Bool.false_eq_true, Bool.not_false, Bool.not_true, Bool.and_true, Bool.and_false, Bool.true_and, Bool.false_and, decide_true, decide_false] <;> first | done | decide) | (simp [sAns, sCall, uC, gS, gP, gQ, gE, gec, gsc, gvl, gL, gT, c1, c7]; done) | (exfalso; simp_all; done), by rw [ht]; exact hP, va_K.moved hW.alike hK, hD⟩, hS.F ht⟩) hS.2.2 dX1_answerOf_75
  by_cases c13 : p2 = 2
  · refine lv_tableIn (off := 75) (tgt := 76) hx hb dX1_answerOf_1 (by rw [c13]; decide) (by rw [c13]; decide) (by rw [c13]; rfl) (by decide) ?_
    refine lv_aload_n hx hb dX1_answerOf_76 rfl (lv_at hl 1 rfl) ?_
    refine lv_iload hx hb dX1_answerOf_77 (lv_at hl 4 rfl) ?_
    refine vp_callSi (va_Run.run (va_runS (As := [.ref p0, .int p3]) (rest := []) ⟨hx, hb, hml, hown, hts⟩ (k_volumeOf l D p0 (sT p0) p3) (va_cwS 2 hts gX1_answerOf_X1_volumeOf rfl rfl rfl (by decide +kernel) ⟨Nat.le_of_ble_eq_true rfl, Nat.le_of_ble_eq_true rfl⟩) (rPre hN hK (x_one hP hp0) hS hZ xFalse _) rfl rfl hl.1 rfl (lv_room (Nat.le_of_ble_eq_true rfl)) dX1_answerOf_79 ⟨Nat.le_of_ble_eq_true rfl, Nat.le_of_ble_eq_true rfl⟩)) (fun r14 hw15 => ?_)
    subst hw15
    exact W.iret (v := (fVol (sT p0) p3)) hx hb hr (fun tE ht hW => ⟨⟨(fVol (sT p0) p3), (sS, sP, sQ, sE, ec, sc, vl, LP, sT), rfl, by first | (simp only [sAns, sCall, uC, gS, gP, gQ, gE, gec, gsc, gvl, gL, gT, c1, c7, c13, eq_self, ↓reduceIte, Bool.false_eq_true, Bool.not_false, Bool.not_true, Bool.and_true, Bool.and_false, Bool.true_and, Bool.false_and, decide_true, decide_false] <;> first | done | decide) | (simp [sAns, sCall, uC, gS, gP, gQ, gE, gec, gsc, gvl, gL, gT, c1, c7, c13]; done) | (exfalso; simp_all; done), by rw [ht]; exact hP, va_K.moved hW.alike hK, hD⟩, hS.F ht⟩) hS.2.2 dX1_answerOf_82
  by_cases c16 : p2 = 3
  · refine lv_tableIn (off := 82) (tgt := 83) hx hb dX1_answerOf_1 (by rw [c16]; decide) (by rw [c16]; decide) (by rw [c16]; rfl) (by decide) ?_
    refine lv_aload_n hx hb dX1_answerOf_83 rfl (lv_at hl 1 rfl) ?_
    refine vp_callSi (va_Run.run (va_runS (As := [.ref p0]) (rest := []) ⟨hx, hb, hml, hown, hts⟩ (k_weightOf l D p0 (sT p0) ) (va_cwS 1 hts gX1_answerOf_X1_weightOf rfl rfl rfl (by decide +kernel) ⟨Nat.le_of_ble_eq_true rfl, Nat.le_of_ble_eq_true rfl⟩) (rPre hN hK (x_one hP hp0) hS hZ xFalse _) rfl rfl hl.1 rfl (lv_room (Nat.le_of_ble_eq_true rfl)) dX1_answerOf_84 ⟨Nat.le_of_ble_eq_true rfl, Nat.le_of_ble_eq_true rfl⟩)) (fun r17 hw18 => ?_)
    subst hw18
    exact W.iret (v := (fWgt (sT p0))) hx hb hr (fun tE ht hW => ⟨⟨(fWgt (sT p0)), (sS, sP, sQ, sE, ec, sc, vl, LP, sT), rfl, by first | (simp only [sAns, sCall, uC, gS, gP, gQ, gE, gec, gsc, gvl, gL, gT, c1, c7, c13, c16, eq_self, ↓reduceIte, Bool.false_eq_true, Bool.not_false, Bool.not_true, Bool.and_true, Bool.and_false, Bool.true_and, Bool.false_and, decide_true, decide_false] <;> first | done | decide) | (simp [sAns, sCall, uC, gS, gP, gQ, gE, gec, gsc, gvl, gL, gT, c1, c7, c13, c16]; done) | (exfalso; simp_all; done), by rw [ht]; exact hP, va_K.moved hW.alike hK, hD⟩, hS.F ht⟩) hS.2.2 dX1_answerOf_87
  by_cases c19 : p2 = 4
  · refine lv_tableIn (off := 87) (tgt := 88) hx hb dX1_answerOf_1 (by rw [c19]; decide) (by rw [c19]; decide) (by rw [c19]; rfl) (by decide) ?_
    refine lv_aload_n hx hb dX1_answerOf_88 rfl (lv_at hl 1 rfl) ?_
    refine vp_callSi (va_Run.run (va_runS (As := [.ref p0]) (rest := []) ⟨hx, hb, hml, hown, hts⟩ (k_weightOf l D p0 (sT p0) ) (va_cwS 1 hts gX1_answerOf_X1_weightOf rfl rfl rfl (by decide +kernel) ⟨Nat.le_of_ble_eq_true rfl, Nat.le_of_ble_eq_true rfl⟩) (rPre hN hK (x_one hP hp0) hS hZ xFalse _) rfl rfl hl.1 rfl (lv_room (Nat.le_of_ble_eq_true rfl)) dX1_answerOf_89 ⟨Nat.le_of_ble_eq_true rfl, Nat.le_of_ble_eq_true rfl⟩)) (fun r20 hw21 => ?_)
    subst hw21
    refine lv_bipush (v := 100) hx hb dX1_answerOf_92 (by decide) ?_
    refine lv_iconst (v := 3) hx hb dX1_answerOf_94 (by decide) ?_
    refine vp_callSi (va_Run.run (va_runS (As := [.int 3]) (rest := [.int 100, .int (fWgt (sT p0))]) ⟨hx, hb, hml, hown, hts⟩ (k_markOf l 3) (va_cwS 1 hts gX1_answerOf_X1_markOf rfl rfl rfl (by decide +kernel) ⟨Nat.le_of_ble_eq_true rfl, Nat.le_of_ble_eq_true rfl⟩) preEq rfl rfl hl.1 rfl (lv_room (Nat.le_of_ble_eq_true rfl)) dX1_answerOf_95 ⟨Nat.le_of_ble_eq_true rfl, Nat.le_of_ble_eq_true rfl⟩)) (fun r22 hw23 => ?_)
    subst hw23
    refine lv_imul hx hb dX1_answerOf_98 ?_
    refine lv_iadd hx hb dX1_answerOf_99 ?_
    exact W.iret (v := ((fWgt (sT p0)) + (100 * (fMark 3)))) hx hb hr (fun tE ht hW => ⟨⟨((fWgt (sT p0)) + (100 * (fMark 3))), (sS, sP, sQ, sE, ec, sc, vl, LP, sT), rfl, by first | (simp only [sAns, sCall, uC, gS, gP, gQ, gE, gec, gsc, gvl, gL, gT, c1, c7, c13, c16, c19, eq_self, ↓reduceIte, Bool.false_eq_true, Bool.not_false, Bool.not_true, Bool.and_true, Bool.and_false, Bool.true_and, Bool.false_and, decide_true, decide_false] <;> first | done | decide) | (simp [sAns, sCall, uC, gS, gP, gQ, gE, gec, gsc, gvl, gL, gT, c1, c7, c13, c16, c19]; done) | (exfalso; simp_all; done), by rw [ht]; exact hP, va_K.moved hW.alike hK, hD⟩, hS.F ht⟩) hS.2.2 dX1_answerOf_100
  by_cases c24 : p2 = 5
  · refine lv_tableIn (off := 100) (tgt := 101) hx hb dX1_answerOf_1 (by rw [c24]; decide) (by rw [c24]; decide) (by rw [c24]; rfl) (by decide) ?_
    refine lv_iload hx hb dX1_answerOf_101 (lv_at hl 4 rfl) ?_
    refine lv_bipush (v := 100) hx hb dX1_answerOf_103 (by decide) ?_
    refine lv_iadd hx hb dX1_answerOf_105 ?_
    exact W.iret (v := (p3 + 100)) hx hb hr (fun tE ht hW => ⟨⟨(p3 + 100), (sS, sP, sQ, sE, ec, sc, vl, LP, sT), rfl, by first | (simp only [sAns, sCall, uC, gS, gP, gQ, gE, gec, gsc, gvl, gL, gT, c1, c7, c13, c16, c19, c24, eq_self, ↓reduceIte, Bool.false_eq_true, Bool.not_false, Bool.not_true, Bool.and_true, Bool.and_false, Bool.true_and, Bool.false_and, decide_true, decide_false] <;> first | done | decide) | (simp [sAns, sCall, uC, gS, gP, gQ, gE, gec, gsc, gvl, gL, gT, c1, c7, c13, c16, c19, c24]; done) | (exfalso; simp_all; done), by rw [ht]; exact hP, va_K.moved hW.alike hK, hD⟩, hS.F ht⟩) hS.2.2 dX1_answerOf_106
  by_cases c25 : p2 = 6
  · refine lv_tableIn (off := 106) (tgt := 107) hx hb dX1_answerOf_1 (by rw [c25]; decide) (by rw [c25]; decide) (by rw [c25]; rfl) (by decide) ?_
    refine lv_iload_n hx hb dX1_answerOf_107 rfl (lv_at hl 2 rfl) ?_
    refine vp_callSi (va_Run.run (va_runS (As := [.int p1]) (rest := []) ⟨hx, hb, hml, hown, hts⟩ (k_markOf l p1) (va_cwS 1 hts gX1_answerOf_X1_markOf rfl rfl rfl (by decide +kernel) ⟨Nat.le_of_ble_eq_true rfl, Nat.le_of_ble_eq_true rfl⟩) preEq rfl rfl hl.1 rfl (lv_room (Nat.le_of_ble_eq_true rfl)) dX1_answerOf_108 ⟨Nat.le_of_ble_eq_true rfl, Nat.le_of_ble_eq_true rfl⟩)) (fun r26 hw27 => ?_)
    subst hw27
    exact W.iret (v := (fMark p1)) hx hb hr (fun tE ht hW => ⟨⟨(fMark p1), (sS, sP, sQ, sE, ec, sc, vl, LP, sT), rfl, by first | (simp only [sAns, sCall, uC, gS, gP, gQ, gE, gec, gsc, gvl, gL, gT, c1, c7, c13, c16, c19, c24, c25, eq_self, ↓reduceIte, Bool.false_eq_true, Bool.not_false, Bool.not_true, Bool.and_true, Bool.and_false, Bool.true_and, Bool.false_and, decide_true, decide_false] <;> first | done | decide) | (simp [sAns, sCall, uC, gS, gP, gQ, gE, gec, gsc, gvl, gL, gT, c1, c7, c13, c16, c19, c24, c25]; done) | (exfalso; simp_all; done), by rw [ht]; exact hP, va_K.moved hW.alike hK, hD⟩, hS.F ht⟩) hS.2.2 dX1_answerOf_111
  by_cases c28 : p2 = 7
  · refine lv_tableIn (off := 121) (tgt := 122) hx hb dX1_answerOf_1 (by rw [c28]; decide) (by rw [c28]; decide) (by rw [c28]; rfl) (by decide) ?_
    refine lv_iload_n hx hb dX1_answerOf_122 rfl (lv_at hl 2 rfl) ?_
    refine lv_iconst (v := 4) hx hb dX1_answerOf_123 (by decide) ?_
    refine lv_icmp_ne (tgt := 134) hx hb dX1_answerOf_124 (by decide) (fun c29 => ?_) (fun c29 => ?_)
    · refine lv_aload_n hx hb dX1_answerOf_134 rfl (lv_at hl 1 rfl) ?_
      refine vp_callSi (va_Run.run (va_runS (As := [.ref p0]) (rest := []) ⟨hx, hb, hml, hown, hts⟩ (k_weightAsCat l D p0 (sT p0) ) (va_cwS 1 hts gX1_answerOf_X1_weightAsCat rfl rfl rfl (by decide +kernel) ⟨Nat.le_of_ble_eq_true rfl, Nat.le_of_ble_eq_true rfl⟩) (rPre hN hK (x_one hP hp0) hS hZ xFalse _) rfl rfl hl.1 rfl (lv_room (Nat.le_of_ble_eq_true rfl)) dX1_answerOf_135 ⟨Nat.le_of_ble_eq_true rfl, Nat.le_of_ble_eq_true rfl⟩)) (fun r30 hw31 => ?_)
      subst hw31
      exact W.iret (v := (fWC (sT p0))) hx hb hr (fun tE ht hW => ⟨⟨(fWC (sT p0)), (sS, sP, sQ, sE, ec, sc, vl, LP, sT), rfl, by first | (simp only [sAns, sCall, uC, gS, gP, gQ, gE, gec, gsc, gvl, gL, gT, c1, c7, c13, c16, c19, c24, c25, c28, c29, eq_self, ↓reduceIte, Bool.false_eq_true, Bool.not_false, Bool.not_true, Bool.and_true, Bool.and_false, Bool.true_and, Bool.false_and, decide_true, decide_false] <;> first | done | decide) | (simp [sAns, sCall, uC, gS, gP, gQ, gE, gec, gsc, gvl, gL, gT, c1, c7, c13, c16, c19, c24, c25, c28, c29]; done) | (exfalso; simp_all; done), by rw [ht]; exact hP, va_K.moved hW.alike hK, hD⟩, hS.F ht⟩) hS.2.2 dX1_answerOf_138
    · refine lv_aload_n hx hb dX1_answerOf_127 rfl (lv_at hl 1 rfl) ?_
      refine vp_callSi (va_Run.run (va_runS (As := [.ref p0]) (rest := []) ⟨hx, hb, hml, hown, hts⟩ (k_weightAsBase l D p0 (sT p0) ) (va_cwS 1 hts gX1_answerOf_X1_weightAsBase rfl rfl rfl (by decide +kernel) ⟨Nat.le_of_ble_eq_true rfl, Nat.le_of_ble_eq_true rfl⟩) (rPre hN hK (x_one hP hp0) hS hZ xFalse _) rfl rfl hl.1 rfl (lv_room (Nat.le_of_ble_eq_true rfl)) dX1_answerOf_128 ⟨Nat.le_of_ble_eq_true rfl, Nat.le_of_ble_eq_true rfl⟩)) (fun r32 hw33 => ?_)
      subst hw33
      refine lv_goto (tgt := 138) hx hb dX1_answerOf_131 (by decide) ?_
      exact W.iret (v := (fWB (sT p0))) hx hb hr (fun tE ht hW => ⟨⟨(fWB (sT p0)), (sS, sP, sQ, sE, ec, sc, vl, LP, sT), rfl, by first | (simp only [sAns, sCall, uC, gS, gP, gQ, gE, gec, gsc, gvl, gL, gT, c1, c7, c13, c16, c19, c24, c25, c28, c29, eq_self, ↓reduceIte, Bool.false_eq_true, Bool.not_false, Bool.not_true, Bool.and_true, Bool.and_false, Bool.true_and, Bool.false_and, decide_true, decide_false] <;> first | done | decide) | (simp [sAns, sCall, uC, gS, gP, gQ, gE, gec, gsc, gvl, gL, gT, c1, c7, c13, c16, c19, c24, c25, c28, c29]; done) | (exfalso; simp_all; done), by rw [ht]; exact hP, va_K.moved hW.alike hK, hD⟩, hS.F ht⟩) hS.2.2 dX1_answerOf_138
  by_cases c34 : p2 = 8
  · refine lv_tableIn (off := 121) (tgt := 122) hx hb dX1_answerOf_1 (by rw [c34]; decide) (by rw [c34]; decide) (by rw [c34]; rfl) (by decide) ?_
    refine lv_iload_n hx hb dX1_answerOf_122 rfl (lv_at hl 2 rfl) ?_
    refine lv_iconst (v := 4) hx hb dX1_answerOf_123 (by decide) ?_
    refine lv_icmp_ne (tgt := 134) hx hb dX1_answerOf_124 (by decide) (fun c35 => ?_) (fun c35 => ?_)
    · refine lv_aload_n hx hb dX1_answerOf_134 rfl (lv_at hl 1 rfl) ?_
      refine vp_callSi (va_Run.run (va_runS (As := [.ref p0]) (rest := []) ⟨hx, hb, hml, hown, hts⟩ (k_weightAsCat l D p0 (sT p0) ) (va_cwS 1 hts gX1_answerOf_X1_weightAsCat rfl rfl rfl (by decide +kernel) ⟨Nat.le_of_ble_eq_true rfl, Nat.le_of_ble_eq_true rfl⟩) (rPre hN hK (x_one hP hp0) hS hZ xFalse _) rfl rfl hl.1 rfl (lv_room (Nat.le_of_ble_eq_true rfl)) dX1_answerOf_135 ⟨Nat.le_of_ble_eq_true rfl, Nat.le_of_ble_eq_true rfl⟩)) (fun r36 hw37 => ?_)
      subst hw37
      exact W.iret (v := (fWC (sT p0))) hx hb hr (fun tE ht hW => ⟨⟨(fWC (sT p0)), (sS, sP, sQ, sE, ec, sc, vl, LP, sT), rfl, by first | (simp only [sAns, sCall, uC, gS, gP, gQ, gE, gec, gsc, gvl, gL, gT, c1, c7, c13, c16, c19, c24, c25, c28, c34, c35, eq_self, ↓reduceIte, Bool.false_eq_true, Bool.not_false, Bool.not_true, Bool.and_true, Bool.and_false, Bool.true_and, Bool.false_and, decide_true, decide_false] <;> first | done | decide) | (simp [sAns, sCall, uC, gS, gP, gQ, gE, gec, gsc, gvl, gL, gT, c1, c7, c13, c16, c19, c24, c25, c28, c34, c35]; done) | (exfalso; simp_all; done), by rw [ht]; exact hP, va_K.moved hW.alike hK, hD⟩, hS.F ht⟩) hS.2.2 dX1_answerOf_138
    · refine lv_aload_n hx hb dX1_answerOf_127 rfl (lv_at hl 1 rfl) ?_
      refine vp_callSi (va_Run.run (va_runS (As := [.ref p0]) (rest := []) ⟨hx, hb, hml, hown, hts⟩ (k_weightAsBase l D p0 (sT p0) ) (va_cwS 1 hts gX1_answerOf_X1_weightAsBase rfl rfl rfl (by decide +kernel) ⟨Nat.le_of_ble_eq_true rfl, Nat.le_of_ble_eq_true rfl⟩) (rPre hN hK (x_one hP hp0) hS hZ xFalse _) rfl rfl hl.1 rfl (lv_room (Nat.le_of_ble_eq_true rfl)) dX1_answerOf_128 ⟨Nat.le_of_ble_eq_true rfl, Nat.le_of_ble_eq_true rfl⟩)) (fun r38 hw39 => ?_)
      subst hw39
      refine lv_goto (tgt := 138) hx hb dX1_answerOf_131 (by decide) ?_
      exact W.iret (v := (fWB (sT p0))) hx hb hr (fun tE ht hW => ⟨⟨(fWB (sT p0)), (sS, sP, sQ, sE, ec, sc, vl, LP, sT), rfl, by first | (simp only [sAns, sCall, uC, gS, gP, gQ, gE, gec, gsc, gvl, gL, gT, c1, c7, c13, c16, c19, c24, c25, c28, c34, c35, eq_self, ↓reduceIte, Bool.false_eq_true, Bool.not_false, Bool.not_true, Bool.and_true, Bool.and_false, Bool.true_and, Bool.false_and, decide_true, decide_false] <;> first | done | decide) | (simp [sAns, sCall, uC, gS, gP, gQ, gE, gec, gsc, gvl, gL, gT, c1, c7, c13, c16, c19, c24, c25, c28, c34, c35]; done) | (exfalso; simp_all; done), by rw [ht]; exact hP, va_K.moved hW.alike hK, hD⟩, hS.F ht⟩) hS.2.2 dX1_answerOf_138
  by_cases c40 : p2 = 9
  · refine lv_tableIn (off := 111) (tgt := 112) hx hb dX1_answerOf_1 (by rw [c40]; decide) (by rw [c40]; decide) (by rw [c40]; rfl) (by decide) ?_
    refine lv_aload_n hx hb dX1_answerOf_112 rfl (lv_at hl 1 rfl) ?_
    refine vp_callSi (va_Run.run (va_runS (As := [.ref p0]) (rest := []) ⟨hx, hb, hml, hown, hts⟩ (k_seedOf l D p0 (sT p0) ) (va_cwS 1 hts gX1_answerOf_X1_seedOf rfl rfl rfl (by decide +kernel) ⟨Nat.le_of_ble_eq_true rfl, Nat.le_of_ble_eq_true rfl⟩) (rPre hN hK (x_one hP hp0) hS hZ xFalse _) rfl rfl hl.1 rfl (lv_room (Nat.le_of_ble_eq_true rfl)) dX1_answerOf_113 ⟨Nat.le_of_ble_eq_true rfl, Nat.le_of_ble_eq_true rfl⟩)) (fun r41 hw42 => ?_)
    subst hw42
    exact W.iret (v := (fSeed (sT p0))) hx hb hr (fun tE ht hW => ⟨⟨(fSeed (sT p0)), (sS, sP, sQ, sE, ec, sc, vl, LP, sT), rfl, by first | (simp only [sAns, sCall, uC, gS, gP, gQ, gE, gec, gsc, gvl, gL, gT, c1, c7, c13, c16, c19, c24, c25, c28, c34, c40, eq_self, ↓reduceIte, Bool.false_eq_true, Bool.not_false, Bool.not_true, Bool.and_true, Bool.and_false, Bool.true_and, Bool.false_and, decide_true, decide_false] <;> first | done | decide) | (simp [sAns, sCall, uC, gS, gP, gQ, gE, gec, gsc, gvl, gL, gT, c1, c7, c13, c16, c19, c24, c25, c28, c34, c40]; done) | (exfalso; simp_all; done), by rw [ht]; exact hP, va_K.moved hW.alike hK, hD⟩, hS.F ht⟩) hS.2.2 dX1_answerOf_116
  by_cases c43 : p2 = 10
  · refine lv_tableIn (off := 116) (tgt := 117) hx hb dX1_answerOf_1 (by rw [c43]; decide) (by rw [c43]; decide) (by rw [c43]; rfl) (by decide) ?_
    refine lv_aload_n hx hb dX1_answerOf_117 rfl (lv_at hl 1 rfl) ?_
    obtain ⟨k44, hk44⟩ := va_pl_get (X := xX F (sS, sP, sQ, sE, ec, sc, vl, LP, sT)) (f := thP sT) hp0
    refine va_getN (D := D) (ci := 0) (v := .int ((sT p0).2.1)) (C := RX0) (T := TX0) (N := 6) hx hb hts (by decide +kernel) hown hK hP k44 hk44 rfl 1 (by decide) (va_Nw.use rfl (hN (.fieldLinkNest RX1 83 "FamilyProbes$Thing" "n" "I" "FamilyProbes") (by decide +kernel))) (fun _ h9 => h9) rfl dX1_answerOf_118 ?_
    exact W.iret (v := (sT p0).2.1) hx hb hr (fun tE ht hW => ⟨⟨(sT p0).2.1, (sS, sP, sQ, sE, ec, sc, vl, LP, sT), rfl, by first | (simp only [sAns, sCall, uC, gS, gP, gQ, gE, gec, gsc, gvl, gL, gT, c1, c7, c13, c16, c19, c24, c25, c28, c34, c40, c43, eq_self, ↓reduceIte, Bool.false_eq_true, Bool.not_false, Bool.not_true, Bool.and_true, Bool.and_false, Bool.true_and, Bool.false_and, decide_true, decide_false] <;> first | done | decide) | (simp [sAns, sCall, uC, gS, gP, gQ, gE, gec, gsc, gvl, gL, gT, c1, c7, c13, c16, c19, c24, c25, c28, c34, c40, c43]; done) | (exfalso; simp_all; done), by rw [ht]; exact hP, va_K.moved hW.alike hK, hD⟩, hS.F ht⟩) hS.2.2 dX1_answerOf_121
  refine lv_tableOut (tgt := 122) hx hb dX1_answerOf_1 (by have z0 := lv_neT (k := 0) (a := 0) c1 (by decide); have z1 := lv_neT (k := 1) (a := 1) c7 (by decide); have z2 := lv_neT (k := 2) (a := 2) c13 (by decide); have z3 := lv_neT (k := 3) (a := 3) c16 (by decide); have z4 := lv_neT (k := 4) (a := 4) c19 (by decide); have z5 := lv_neT (k := 5) (a := 5) c24 (by decide); have z6 := lv_neT (k := 6) (a := 6) c25 (by decide); have z7 := lv_neT (k := 7) (a := 7) c28 (by decide); have z8 := lv_neT (k := 8) (a := 8) c34 (by decide); have z9 := lv_neT (k := 9) (a := 9) c40 (by decide); have z10 := lv_neT (k := 10) (a := 10) c43 (by decide); omega) (by decide) ?_
  refine lv_iload_n hx hb dX1_answerOf_122 rfl (lv_at hl 2 rfl) ?_
  refine lv_iconst (v := 4) hx hb dX1_answerOf_123 (by decide) ?_
  refine lv_icmp_ne (tgt := 134) hx hb dX1_answerOf_124 (by decide) (fun c45 => ?_) (fun c45 => ?_)
  · refine lv_aload_n hx hb dX1_answerOf_134 rfl (lv_at hl 1 rfl) ?_
    refine vp_callSi (va_Run.run (va_runS (As := [.ref p0]) (rest := []) ⟨hx, hb, hml, hown, hts⟩ (k_weightAsCat l D p0 (sT p0) ) (va_cwS 1 hts gX1_answerOf_X1_weightAsCat rfl rfl rfl (by decide +kernel) ⟨Nat.le_of_ble_eq_true rfl, Nat.le_of_ble_eq_true rfl⟩) (rPre hN hK (x_one hP hp0) hS hZ xFalse _) rfl rfl hl.1 rfl (lv_room (Nat.le_of_ble_eq_true rfl)) dX1_answerOf_135 ⟨Nat.le_of_ble_eq_true rfl, Nat.le_of_ble_eq_true rfl⟩)) (fun r46 hw47 => ?_)
    subst hw47
    exact W.iret (v := (fWC (sT p0))) hx hb hr (fun tE ht hW => ⟨⟨(fWC (sT p0)), (sS, sP, sQ, sE, ec, sc, vl, LP, sT), rfl, by first | (simp only [sAns, sCall, uC, gS, gP, gQ, gE, gec, gsc, gvl, gL, gT, c1, c7, c13, c16, c19, c24, c25, c28, c34, c40, c43, c45, eq_self, ↓reduceIte, Bool.false_eq_true, Bool.not_false, Bool.not_true, Bool.and_true, Bool.and_false, Bool.true_and, Bool.false_and, decide_true, decide_false] <;> first | done | decide) | (simp [sAns, sCall, uC, gS, gP, gQ, gE, gec, gsc, gvl, gL, gT, c1, c7, c13, c16, c19, c24, c25, c28, c34, c40, c43, c45]; done) | (exfalso; simp_all; done), by rw [ht]; exact hP, va_K.moved hW.alike hK, hD⟩, hS.F ht⟩) hS.2.2 dX1_answerOf_138
  · refine lv_aload_n hx hb dX1_answerOf_127 rfl (lv_at hl 1 rfl) ?_
    refine vp_callSi (va_Run.run (va_runS (As := [.ref p0]) (rest := []) ⟨hx, hb, hml, hown, hts⟩ (k_weightAsBase l D p0 (sT p0) ) (va_cwS 1 hts gX1_answerOf_X1_weightAsBase rfl rfl rfl (by decide +kernel) ⟨Nat.le_of_ble_eq_true rfl, Nat.le_of_ble_eq_true rfl⟩) (rPre hN hK (x_one hP hp0) hS hZ xFalse _) rfl rfl hl.1 rfl (lv_room (Nat.le_of_ble_eq_true rfl)) dX1_answerOf_128 ⟨Nat.le_of_ble_eq_true rfl, Nat.le_of_ble_eq_true rfl⟩)) (fun r48 hw49 => ?_)
    subst hw49
    refine lv_goto (tgt := 138) hx hb dX1_answerOf_131 (by decide) ?_
    exact W.iret (v := (fWB (sT p0))) hx hb hr (fun tE ht hW => ⟨⟨(fWB (sT p0)), (sS, sP, sQ, sE, ec, sc, vl, LP, sT), rfl, by first | (simp only [sAns, sCall, uC, gS, gP, gQ, gE, gec, gsc, gvl, gL, gT, c1, c7, c13, c16, c19, c24, c25, c28, c34, c40, c43, c45, eq_self, ↓reduceIte, Bool.false_eq_true, Bool.not_false, Bool.not_true, Bool.and_true, Bool.and_false, Bool.true_and, Bool.false_and, decide_true, decide_false] <;> first | done | decide) | (simp [sAns, sCall, uC, gS, gP, gQ, gE, gec, gsc, gvl, gL, gT, c1, c7, c13, c16, c19, c24, c25, c28, c34, c40, c43, c45]; done) | (exfalso; simp_all; done), by rw [ht]; exact hP, va_K.moved hW.alike hK, hD⟩, hS.F ht⟩) hS.2.2 dX1_answerOf_138
end
