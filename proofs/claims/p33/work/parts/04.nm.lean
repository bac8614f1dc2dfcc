/-! ===== BEGIN words of one list among another's, by their places ===== -/
theorem goodIn_r {big : List Cond} (ws : List Cond) (ps : List Nat) (hp : ws = ps.filterMap (fun i => big[i]?)) (h : ws.all goodWord = true) : GoodIn big ws := by
  intro w hw
  have h1 := List.all_eq_true.mp h w hw
  rw [hp] at hw
  obtain ⟨i, -, hi⟩ := List.mem_filterMap.mp hw
  have hm : w ∈ big := by first | exact List.mem_of_getElem? hi | exact List.getElem?_mem hi
  exact ⟨hm, good_of_word h1⟩
theorem goodIn_app {big a b : List Cond} (ha : GoodIn big a) (hb : GoodIn big b) : GoodIn big (a ++ b) := fun w h => (List.mem_append.mp h).elim (ha w) (hb w)
theorem goodIn_ca {big a b : List Cond} {c : Cond} (ha : GoodIn big (c :: a)) (hb : GoodIn big b) : GoodIn big (c :: (a ++ b)) := fun w h => (List.mem_cons.mp h).elim (fun e => ha w (List.mem_cons.mpr (Or.inl e))) (fun h => (List.mem_append.mp h).elim (fun h => ha w (List.mem_cons.mpr (Or.inr h))) (hb w))
theorem goodIn_sub {big ws : List Cond} (hm : ∀ w ∈ ws, w ∈ big) (h : ws.all goodWord = true) : GoodIn big ws := fun w hw => ⟨hm w hw, good_of_word (List.all_eq_true.mp h w hw)⟩
/-! ===== END ===== -/

/-! ===== BEGIN printed: names, fields, word lists, decode rows ===== -/
def RX0 : String := "AddedCries$Between"
def TX0 : u_T := fun k => match k with
  | 0 => ("AddedCries$Between", "now", "LAddedCries$Grid;", false)
  | _ => ("AddedCries$Between", "then", "LAddedCries$Grid;", false)
def tyX0 : Nat → FieldType := fun k => match k with
  | 0 => .object "AddedCries$Grid"
  | _ => .object "AddedCries$Grid"
abbrev wsX00 : List Cond := u_ws RX0 TX0 2
theorem nmX0 : ∀ a, a < 2 → ∀ b, b < 2 → a ≠ b → (TX0 a).2.1 ≠ (TX0 b).2.1 := by decide +kernel
theorem tyX0_ok : ∀ k, k < 2 → parseFieldDescriptor (TX0 k).2.2.1 = some (tyX0 k) := by decide +kernel
abbrev cX0_init : ByteArray := prog_2_method_1_code
def yX0_init : MethodName := ⟨RX0, "<init>", "()V"⟩
def RX1 : String := "AddedCries$Braid"
def TX1 : u_T := fun k => match k with
  | 0 => ("AddedCries$Braid", "here", "LAddedCries$Grid;", false)
  | _ => ("AddedCries$Braid", "next", "LAddedCries$Grid;", false)
def tyX1 : Nat → FieldType := fun k => match k with
  | 0 => .object "AddedCries$Grid"
  | _ => .object "AddedCries$Grid"
abbrev wsX10 : List Cond := u_ws RX1 TX1 2
theorem nmX1 : ∀ a, a < 2 → ∀ b, b < 2 → a ≠ b → (TX1 a).2.1 ≠ (TX1 b).2.1 := by decide +kernel
theorem tyX1_ok : ∀ k, k < 2 → parseFieldDescriptor (TX1 k).2.2.1 = some (tyX1 k) := by decide +kernel
abbrev cX1_init : ByteArray := prog_3_method_1_code
def yX1_init : MethodName := ⟨RX1, "<init>", "()V"⟩
def RX2 : String := "AddedCries$Cry"
def TX2 : u_T := fun k => match k with
  | 0 => ("AddedCries$Cry", "words", "[I", true)
  | _ => ("AddedCries$Cry", "size", "I", false)
def tyX2 : Nat → FieldType := fun k => match k with
  | 0 => .array .int
  | _ => .int
abbrev wsX20 : List Cond := u_ws RX2 TX2 2
theorem nmX2 : ∀ a, a < 2 → ∀ b, b < 2 → a ≠ b → (TX2 a).2.1 ≠ (TX2 b).2.1 := by decide +kernel
theorem tyX2_ok : ∀ k, k < 2 → parseFieldDescriptor (TX2 k).2.2.1 = some (tyX2 k) := by decide +kernel
abbrev cX2_init : ByteArray := prog_4_method_1_code
def yX2_init : MethodName := ⟨RX2, "<init>", "()V"⟩
abbrev cX2_size : ByteArray := prog_4_method_2_code
def yX2_size : MethodName := ⟨RX2, "size", "()I"⟩
abbrev cX2_isFull : ByteArray := prog_4_method_3_code
def yX2_isFull : MethodName := ⟨RX2, "isFull", "()Z"⟩
abbrev cX2_has : ByteArray := prog_4_method_4_code
def yX2_has : MethodName := ⟨RX2, "has", "(I)Z"⟩
abbrev cX2_at : ByteArray := prog_4_method_5_code
def yX2_at : MethodName := ⟨RX2, "at", "(I)I"⟩
abbrev cX2_clear : ByteArray := prog_4_method_7_code
def yX2_clear : MethodName := ⟨RX2, "clear", "()V"⟩
abbrev cX2_insert : ByteArray := prog_4_method_8_code
def yX2_insert : MethodName := ⟨RX2, "insert", "(II)V"⟩
def RX3 : String := "AddedCries$Fit"
def TX3 : u_T := fun k => match k with
  | 0 => ("AddedCries$Fit", "firsts", "[I", true)
  | 1 => ("AddedCries$Fit", "lasts", "[I", true)
  | _ => ("AddedCries$Fit", "choices", "[J", true)
def tyX3 : Nat → FieldType := fun k => match k with
  | 0 => .array .int
  | 1 => .array .int
  | _ => .array .long
abbrev wsX30 : List Cond := u_ws RX3 TX3 3
theorem nmX3 : ∀ a, a < 3 → ∀ b, b < 3 → a ≠ b → (TX3 a).2.1 ≠ (TX3 b).2.1 := by decide +kernel
theorem tyX3_ok : ∀ k, k < 3 → parseFieldDescriptor (TX3 k).2.2.1 = some (tyX3 k) := by decide +kernel
abbrev cX3_init : ByteArray := prog_5_method_1_code
def yX3_init : MethodName := ⟨RX3, "<init>", "()V"⟩
abbrev cX3_make : ByteArray := prog_5_method_2_code
def yX3_make : MethodName := ⟨RX3, "make", "(LAddedCries$Cry;LAddedCries$Cry;)Z"⟩
abbrev cX3_first : ByteArray := prog_5_method_3_code
def yX3_first : MethodName := ⟨RX3, "first", "(I)I"⟩
abbrev cX3_last : ByteArray := prog_5_method_4_code
def yX3_last : MethodName := ⟨RX3, "last", "(I)I"⟩
abbrev cX3_canStand : ByteArray := prog_5_method_5_code
def yX3_canStand : MethodName := ⟨RX3, "canStand", "(LAddedCries$Cry;LAddedCries$Cry;I)Z"⟩
abbrev cX3_choices : ByteArray := prog_5_method_6_code
def yX3_choices : MethodName := ⟨RX3, "choices", "(LAddedCries$Cry;LAddedCries$Cry;)J"⟩
def RX4 : String := "AddedCries$Grid"
def TX4 : u_T := fun k => match k with
  | _ => ("AddedCries$Grid", "cells", "[J", true)
def tyX4 : Nat → FieldType := fun k => match k with
  | _ => .array .long
abbrev wsX40 : List Cond := u_ws RX4 TX4 1
theorem nmX4 : ∀ a, a < 1 → ∀ b, b < 1 → a ≠ b → (TX4 a).2.1 ≠ (TX4 b).2.1 := by decide +kernel
theorem tyX4_ok : ∀ k, k < 1 → parseFieldDescriptor (TX4 k).2.2.1 = some (tyX4 k) := by decide +kernel
abbrev cX4_init : ByteArray := prog_6_method_1_code
def yX4_init : MethodName := ⟨RX4, "<init>", "()V"⟩
def RX5 : String := "AddedCries$Sayings"
def TX5 : u_T := fun k => match k with
  | 0 => ("AddedCries$Sayings", "ends", "[Z", true)
  | _ => ("AddedCries$Sayings", "found", "[I", true)
def tyX5 : Nat → FieldType := fun k => match k with
  | 0 => .array .boolean
  | _ => .array .int
abbrev wsX50 : List Cond := u_ws RX5 TX5 2
theorem nmX5 : ∀ a, a < 2 → ∀ b, b < 2 → a ≠ b → (TX5 a).2.1 ≠ (TX5 b).2.1 := by decide +kernel
theorem tyX5_ok : ∀ k, k < 2 → parseFieldDescriptor (TX5 k).2.2.1 = some (tyX5 k) := by decide +kernel
abbrev cX5_init : ByteArray := prog_7_method_1_code
def yX5_init : MethodName := ⟨RX5, "<init>", "()V"⟩
abbrev cX5_isSaid : ByteArray := prog_7_method_2_code
def yX5_isSaid : MethodName := ⟨RX5, "isSaid", "(LAddedCries$Cry;[II)Z"⟩
abbrev cX5_after : ByteArray := prog_7_method_5_code
def yX5_after : MethodName := ⟨RX5, "after", "(II[II)I"⟩
def RX6 : String := "AddedCries$Sheet"
def TX6 : u_T := fun k => match k with
  | 0 => ("AddedCries$Sheet", "cells", "[I", true)
  | 1 => ("AddedCries$Sheet", "size", "I", false)
  | _ => ("AddedCries$Sheet", "sort", "I", false)
def tyX6 : Nat → FieldType := fun k => match k with
  | 0 => .array .int
  | 1 => .int
  | _ => .int
abbrev wsX60 : List Cond := u_ws RX6 TX6 3
theorem nmX6 : ∀ a, a < 3 → ∀ b, b < 3 → a ≠ b → (TX6 a).2.1 ≠ (TX6 b).2.1 := by decide +kernel
theorem tyX6_ok : ∀ k, k < 3 → parseFieldDescriptor (TX6 k).2.2.1 = some (tyX6 k) := by decide +kernel
abbrev cX6_init : ByteArray := prog_8_method_1_code
def yX6_init : MethodName := ⟨RX6, "<init>", "()V"⟩
abbrev cX6_isNothing : ByteArray := prog_8_method_2_code
def yX6_isNothing : MethodName := ⟨RX6, "isNothing", "()Z"⟩
abbrev cX6_sort : ByteArray := prog_8_method_3_code
def yX6_sort : MethodName := ⟨RX6, "sort", "()I"⟩
abbrev cX6_renew : ByteArray := prog_8_method_4_code
def yX6_renew : MethodName := ⟨RX6, "renew", "(II)V"⟩
abbrev cX6_hasCells : ByteArray := prog_8_method_6_code
def yX6_hasCells : MethodName := ⟨RX6, "hasCells", "(II)Z"⟩
abbrev cX6_at : ByteArray := prog_8_method_7_code
def yX6_at : MethodName := ⟨RX6, "at", "(I)I"⟩
abbrev cX6_write : ByteArray := prog_8_method_8_code
def yX6_write : MethodName := ⟨RX6, "write", "(II)V"⟩
abbrev cX6_cut : ByteArray := prog_8_method_10_code
def yX6_cut : MethodName := ⟨RX6, "cut", "(I)I"⟩
def RX7 : String := "AddedCries$Weave"
def TX7 : u_T := fun k => match k with
  | 0 => ("AddedCries$Weave", "lengths", "LAddedCries$Grid;", true)
  | _ => ("AddedCries$Weave", "counts", "LAddedCries$Grid;", true)
def tyX7 : Nat → FieldType := fun k => match k with
  | 0 => .object "AddedCries$Grid"
  | _ => .object "AddedCries$Grid"
abbrev wsX70 : List Cond := u_ws RX7 TX7 2
theorem nmX7 : ∀ a, a < 2 → ∀ b, b < 2 → a ≠ b → (TX7 a).2.1 ≠ (TX7 b).2.1 := by decide +kernel
theorem tyX7_ok : ∀ k, k < 2 → parseFieldDescriptor (TX7 k).2.2.1 = some (tyX7 k) := by decide +kernel
abbrev cX7_init : ByteArray := prog_9_method_1_code
def yX7_init : MethodName := ⟨RX7, "<init>", "()V"⟩
def RX8 : String := "AddedCries"
def TX8 : u_T := fun k => match k with
  | 0 => ("AddedCries", "kinds", "[I", true)
  | 1 => ("AddedCries", "days", "[LAddedCries$Cry;", true)
  | 2 => ("AddedCries", "sheets", "[LAddedCries$Sheet;", true)
  | 3 => ("AddedCries", "wordless", "LAddedCries$Cry;", true)
  | 4 => ("AddedCries", "fit", "LAddedCries$Fit;", true)
  | 5 => ("AddedCries", "sayings", "LAddedCries$Sayings;", true)
  | 6 => ("AddedCries", "weave", "LAddedCries$Weave;", true)
  | 7 => ("AddedCries", "braid", "LAddedCries$Braid;", true)
  | 8 => ("AddedCries", "between", "LAddedCries$Between;", true)
  | 9 => ("AddedCries", "fewestParts", "[I", true)
  | 10 => ("AddedCries", "dayCount", "I", false)
  | 11 => ("AddedCries", "traced", "I", false)
  | _ => ("AddedCries", "latestFault", "I", false)
def tyX8 : Nat → FieldType := fun k => match k with
  | 0 => .array .int
  | 1 => .array (.object "AddedCries$Cry")
  | 2 => .array (.object "AddedCries$Sheet")
  | 3 => .object "AddedCries$Cry"
  | 4 => .object "AddedCries$Fit"
  | 5 => .object "AddedCries$Sayings"
  | 6 => .object "AddedCries$Weave"
  | 7 => .object "AddedCries$Braid"
  | 8 => .object "AddedCries$Between"
  | 9 => .array .int
  | 10 => .int
  | 11 => .int
  | _ => .int
abbrev wsX80 : List Cond := u_ws RX8 TX8 13
theorem nmX8 : ∀ a, a < 13 → ∀ b, b < 13 → a ≠ b → (TX8 a).2.1 ≠ (TX8 b).2.1 := by decide +kernel
theorem tyX8_ok : ∀ k, k < 13 → parseFieldDescriptor (TX8 k).2.2.1 = some (tyX8 k) := by decide +kernel
abbrev cX8_init : ByteArray := prog_1_method_1_code
def yX8_init : MethodName := ⟨RX8, "<init>", "()V"⟩
abbrev cX8_cries : ByteArray := prog_1_method_2_code
def yX8_cries : MethodName := ⟨RX8, "cries", "(IIII)I"⟩
abbrev cX8_kind : ByteArray := prog_1_method_3_code
def yX8_kind : MethodName := ⟨RX8, "kind", "(II)I"⟩
abbrev cX8_ofDay : ByteArray := prog_1_method_4_code
def yX8_ofDay : MethodName := ⟨RX8, "ofDay", "(II)I"⟩
abbrev cX8_within : ByteArray := prog_1_method_6_code
def yX8_within : MethodName := ⟨RX8, "within", "(II)I"⟩
abbrev cX8_leftOut : ByteArray := prog_1_method_7_code
def yX8_leftOut : MethodName := ⟨RX8, "leftOut", "()I"⟩
abbrev cX8_said : ByteArray := prog_1_method_8_code
def yX8_said : MethodName := ⟨RX8, "said", "(I)I"⟩
abbrev cX8_ways : ByteArray := prog_1_method_10_code
def yX8_ways : MethodName := ⟨RX8, "ways", "(II)J"⟩
abbrev cX8_place : ByteArray := prog_1_method_11_code
def yX8_place : MethodName := ⟨RX8, "place", "(IIII)I"⟩
abbrev cX8_mayBe : ByteArray := prog_1_method_12_code
def yX8_mayBe : MethodName := ⟨RX8, "mayBe", "(I)I"⟩
abbrev cX8_sheet : ByteArray := prog_1_method_21_code
def yX8_sheet : MethodName := ⟨RX8, "sheet", "(III)I"⟩
abbrev cX8_put : ByteArray := prog_1_method_23_code
def yX8_put : MethodName := ⟨RX8, "put", "(III)I"⟩
abbrev cX8_many : ByteArray := prog_1_method_31_code
def yX8_many : MethodName := ⟨RX8, "many", "()I"⟩
abbrev cX8_isWord : ByteArray := prog_1_method_32_code
def yX8_isWord : MethodName := ⟨RX8, "isWord", "(I)Z"⟩
abbrev cX8_isKind : ByteArray := prog_1_method_33_code
def yX8_isKind : MethodName := ⟨RX8, "isKind", "(I)Z"⟩
abbrev cX8_isSort : ByteArray := prog_1_method_34_code
def yX8_isSort : MethodName := ⟨RX8, "isSort", "(I)Z"⟩
abbrev cX8_isFirstOrSecond : ByteArray := prog_1_method_35_code
def yX8_isFirstOrSecond : MethodName := ⟨RX8, "isFirstOrSecond", "(I)Z"⟩
abbrev cX8_cryOf : ByteArray := prog_1_method_36_code
def yX8_cryOf : MethodName := ⟨RX8, "cryOf", "(I)LAddedCries$Cry;"⟩
abbrev cX8_lastCry : ByteArray := prog_1_method_37_code
def yX8_lastCry : MethodName := ⟨RX8, "lastCry", "()LAddedCries$Cry;"⟩
abbrev cX8_sheetOf : ByteArray := prog_1_method_38_code
def yX8_sheetOf : MethodName := ⟨RX8, "sheetOf", "(I)LAddedCries$Sheet;"⟩
abbrev cX8_fails : ByteArray := prog_1_method_39_code
def yX8_fails : MethodName := ⟨RX8, "fails", "(I)I"⟩
abbrev cX8_readingFault : ByteArray := prog_1_method_40_code
def yX8_readingFault : MethodName := ⟨RX8, "readingFault", "(LAddedCries$Sheet;I)I"⟩
abbrev cX8_isLetter : ByteArray := prog_1_method_41_code
def yX8_isLetter : MethodName := ⟨RX8, "isLetter", "(I)Z"⟩
abbrev cX8_firstFaultOf : ByteArray := prog_1_method_42_code
def yX8_firstFaultOf : MethodName := ⟨RX8, "firstFaultOf", "(LAddedCries$Sheet;II)I"⟩
abbrev cX8_takeText : ByteArray := prog_1_method_43_code
def yX8_takeText : MethodName := ⟨RX8, "takeText", "(LAddedCries$Sheet;II)V"⟩
abbrev cX8_beginDay : ByteArray := prog_1_method_44_code
def yX8_beginDay : MethodName := ⟨RX8, "beginDay", "()V"⟩
def RX9 : String := "AddedCriesModel"
def TX9 : u_T := fun k => match k with
  | _ => ("", "", "", false)
def tyX9 : Nat → FieldType := fun k => match k with
  | _ => .int
abbrev wsX90 : List Cond := u_ws RX9 TX9 0
theorem nmX9 : ∀ a, a < 0 → ∀ b, b < 0 → a ≠ b → (TX9 a).2.1 ≠ (TX9 b).2.1 := by decide +kernel
theorem tyX9_ok : ∀ k, k < 0 → parseFieldDescriptor (TX9 k).2.2.1 = some (tyX9 k) := by decide +kernel
def RJ9 : String := "java/lang/Math"
def TJ9 : u_T := fun k => match k with
  | _ => ("", "", "", false)
def tyJ9 : Nat → FieldType := fun k => match k with
  | _ => .int
abbrev wsJ90 : List Cond := u_ws RJ9 TJ9 0
theorem nmJ9 : ∀ a, a < 0 → ∀ b, b < 0 → a ≠ b → (TJ9 a).2.1 ≠ (TJ9 b).2.1 := by decide +kernel
theorem tyJ9_ok : ∀ k, k < 0 → parseFieldDescriptor (TJ9 k).2.2.1 = some (tyJ9 k) := by decide +kernel
abbrev cJ9_min_7cf53 : ByteArray := prog_12_method_69_code
def yJ9_min_7cf53 : MethodName := ⟨RJ9, "min", "(II)I"⟩
def RJ7 : String := "java/util/Arrays"
def TJ7 : u_T := fun k => match k with
  | _ => ("", "", "", false)
def tyJ7 : Nat → FieldType := fun k => match k with
  | _ => .int
abbrev wsJ70 : List Cond := u_ws RJ7 TJ7 0
theorem nmJ7 : ∀ a, a < 0 → ∀ b, b < 0 → a ≠ b → (TJ7 a).2.1 ≠ (TJ7 b).2.1 := by decide +kernel
theorem tyJ7_ok : ∀ k, k < 0 → parseFieldDescriptor (TJ7 k).2.2.1 = some (tyJ7 k) := by decide +kernel
abbrev cJ7_fill_d0a16 : ByteArray := prog_13_method_101_code
def yJ7_fill_d0a16 : MethodName := ⟨RJ7, "fill", "([JJ)V"⟩
abbrev cJ7_fill_53178 : ByteArray := prog_13_method_103_code
def yJ7_fill_53178 : MethodName := ⟨RJ7, "fill", "([II)V"⟩
def RL : String := "AddedCriesLaw"
abbrev cL_cell : ByteArray := method_2_code
def yL_cell : MethodName := ⟨RL, "cell", "([II)I"⟩
abbrev cL_some : ByteArray := method_3_code
def yL_some : MethodName := ⟨RL, "some", "(II)I"⟩
abbrev cL_put : ByteArray := method_4_code
def yL_put : MethodName := ⟨RL, "put", "(LAddedCries;[III[J[I)I"⟩
abbrev cL_word : ByteArray := method_5_code
def yL_word : MethodName := ⟨RL, "word", "(JI)I"⟩
abbrev cL_with : ByteArray := method_6_code
def yL_with : MethodName := ⟨RL, "with", "(JII)J"⟩
abbrev cL_kinds : ByteArray := method_7_code
def yL_kinds : MethodName := ⟨RL, "kinds", "(LAddedCries;I[I)Z"⟩
abbrev cL_within : ByteArray := method_8_code
def yL_within : MethodName := ⟨RL, "within", "(JIJI)Z"⟩
abbrev cL_part : ByteArray := method_9_code
def yL_part : MethodName := ⟨RL, "part", "(JII)J"⟩
abbrev cL_size : ByteArray := method_10_code
def yL_size : MethodName := ⟨RL, "size", "(I)I"⟩
abbrev cL_said : ByteArray := method_11_code
def yL_said : MethodName := ⟨RL, "said", "([IJI)I"⟩
abbrev cL_law : ByteArray := code
def yL_law : MethodName := ⟨RL, "law", "([I)Z"⟩
def wsX4_init : List Cond := .code yX4_init cX4_init 1 none :: ([.methodLink RX4 3 objectInit, .instanceMethod objectInit, .code objectInit ⟨#[0xb1]⟩ 1 none, .arrayClass .long, .fieldLink RX4 9 "AddedCries$Grid" "cells" "[J"] ++ wsX40)
def wsX0_init : List Cond := .code yX0_init cX0_init 1 none :: ([.methodLink RX0 1 objectInit, .instanceMethod objectInit, .code objectInit ⟨#[0xb1]⟩ 1 none, .classLink RX0 7 RX4, .instantiable RX4 1, .initialized RX4, .fieldLink RX0 10 "AddedCries$Between" "now" "LAddedCries$Grid;", .fieldLink RX0 16 "AddedCries$Between" "then" "LAddedCries$Grid;", .instanceMethod yX4_init, .code yX4_init cX4_init 1 none, .methodLink RX4 3 objectInit, .arrayClass .long, .fieldLink RX4 9 "AddedCries$Grid" "cells" "[J"] ++ wsX40 ++ wsX00)
def wsX1_init : List Cond := .code yX1_init cX1_init 1 none :: ([.methodLink RX1 3 objectInit, .instanceMethod objectInit, .code objectInit ⟨#[0xb1]⟩ 1 none, .classLink RX1 9 RX4, .instantiable RX4 1, .initialized RX4, .fieldLink RX1 12 "AddedCries$Braid" "here" "LAddedCries$Grid;", .fieldLink RX1 18 "AddedCries$Braid" "next" "LAddedCries$Grid;", .instanceMethod yX4_init, .code yX4_init cX4_init 1 none, .methodLink RX4 3 objectInit, .arrayClass .long, .fieldLink RX4 9 "AddedCries$Grid" "cells" "[J"] ++ wsX40 ++ wsX10)
def wsX2_init : List Cond := .code yX2_init cX2_init 1 none :: ([.methodLink RX2 3 objectInit, .instanceMethod objectInit, .code objectInit ⟨#[0xb1]⟩ 1 none, .arrayClass .int, .fieldLink RX2 9 "AddedCries$Cry" "words" "[I", .fieldLink RX2 15 "AddedCries$Cry" "size" "I"] ++ wsX20)
def wsX2_size : List Cond := .code yX2_size cX2_size 1 (some .int) :: ([.fieldLink RX2 15 "AddedCries$Cry" "size" "I"] ++ wsX20)
def wsX2_isFull : List Cond := .code yX2_isFull cX2_isFull 1 (some .boolean) :: ([.fieldLink RX2 15 "AddedCries$Cry" "size" "I"] ++ wsX20)
def wsX2_has : List Cond := .code yX2_has cX2_has 2 (some .boolean) :: ([.fieldLink RX2 15 "AddedCries$Cry" "size" "I"] ++ wsX20)
def wsX2_at : List Cond := .code yX2_at cX2_at 2 (some .int) :: ([.fieldLink RX2 9 "AddedCries$Cry" "words" "[I", .methodLink RX2 19 yX2_has, .instanceMethod yX2_has, .selects RX2 yX2_has yX2_has, .initialized RX2, .code yX2_has cX2_has 2 (some .boolean), .fieldLink RX2 15 "AddedCries$Cry" "size" "I"] ++ wsX20)
def wsX2_clear : List Cond := .code yX2_clear cX2_clear 1 none :: ([.fieldLink RX2 15 "AddedCries$Cry" "size" "I"] ++ wsX20)
def wsX2_insert : List Cond := .code yX2_insert cX2_insert 4 none :: ([.fieldLink RX2 15 "AddedCries$Cry" "size" "I", .fieldLink RX2 9 "AddedCries$Cry" "words" "[I", .methodLink RX2 23 yX2_isFull, .instanceMethod yX2_isFull, .selects RX2 yX2_isFull yX2_isFull, .initialized RX2, .code yX2_isFull cX2_isFull 1 (some .boolean)] ++ wsX20)
def wsX3_init : List Cond := .code yX3_init cX3_init 1 none :: ([.methodLink RX3 3 objectInit, .instanceMethod objectInit, .code objectInit ⟨#[0xb1]⟩ 1 none, .arrayClass .int, .fieldLink RX3 9 "AddedCries$Fit" "firsts" "[I", .fieldLink RX3 15 "AddedCries$Fit" "lasts" "[I", .arrayClass .long, .fieldLink RX3 18 "AddedCries$Fit" "choices" "[J"] ++ wsX30)
def wsX3_make : List Cond := .code yX3_make cX3_make 5 (some .boolean) :: ([.fieldLink RX3 9 "AddedCries$Fit" "firsts" "[I", .fieldLink RX3 15 "AddedCries$Fit" "lasts" "[I", .methodLink RX3 22 yX2_size, .instanceMethod yX2_size, .selects RX2 yX2_size yX2_size, .initialized RX2, .code yX2_size cX2_size 1 (some .int), .fieldLink RX2 15 "AddedCries$Cry" "size" "I", .methodLink RX3 28 yX2_has, .instanceMethod yX2_has, .selects RX2 yX2_has yX2_has, .code yX2_has cX2_has 2 (some .boolean), .methodLink RX3 32 yX2_at, .instanceMethod yX2_at, .selects RX2 yX2_at yX2_at, .code yX2_at cX2_at 2 (some .int), .fieldLink RX2 9 "AddedCries$Cry" "words" "[I", .methodLink RX2 19 yX2_has] ++ wsX30 ++ wsX20)
def wsX3_first : List Cond := .code yX3_first cX3_first 2 (some .int) :: ([.fieldLink RX3 9 "AddedCries$Fit" "firsts" "[I"] ++ wsX30)
def wsX3_last : List Cond := .code yX3_last cX3_last 2 (some .int) :: ([.fieldLink RX3 15 "AddedCries$Fit" "lasts" "[I"] ++ wsX30)
def wsX3_canStand_r1 : List Cond := [Cond.methodLink RX3 36 yX3_make, Cond.instanceMethod yX3_make, Cond.selects RX3 yX3_make yX3_make, Cond.initialized RX3, Cond.code yX3_make cX3_make 5 (some .boolean), Cond.fieldLink RX3 9 "AddedCries$Fit" "firsts" "[I", Cond.fieldLink RX3 15 "AddedCries$Fit" "lasts" "[I", Cond.methodLink RX3 22 yX2_size, Cond.instanceMethod yX2_size, Cond.selects RX2 yX2_size yX2_size, Cond.initialized RX2, Cond.code yX2_size cX2_size 1 (some .int), Cond.fieldLink RX2 15 "AddedCries$Cry" "size" "I", Cond.methodLink RX3 28 yX2_has, Cond.instanceMethod yX2_has, Cond.selects RX2 yX2_has yX2_has, Cond.code yX2_has cX2_has 2 (some .boolean), Cond.methodLink RX3 32 yX2_at, Cond.instanceMethod yX2_at, Cond.selects RX2 yX2_at yX2_at, Cond.code yX2_at cX2_at 2 (some .int), Cond.fieldLink RX2 9 "AddedCries$Cry" "words" "[I", Cond.methodLink RX2 19 yX2_has, Cond.methodLink RX3 40 yX3_first]
def wsX3_canStand_r2 : List Cond := [Cond.instanceMethod yX3_first, Cond.selects RX3 yX3_first yX3_first, Cond.code yX3_first cX3_first 2 (some .int), Cond.methodLink RX3 43 yX3_last, Cond.instanceMethod yX3_last, Cond.selects RX3 yX3_last yX3_last, Cond.code yX3_last cX3_last 2 (some .int)]
def wsX3_canStand : List Cond := .code yX3_canStand cX3_canStand 5 (some .boolean) :: ((wsX3_canStand_r1 ++ wsX3_canStand_r2) ++ wsX30 ++ wsX20)
def wsJ7_fill_d0a16 : List Cond := .code yJ7_fill_d0a16 cJ7_fill_d0a16 5 none :: ([])
def wsX3_choices : List Cond := .code yX3_choices cX3_choices 6 (some .long) :: ([.methodLink RX3 46 Lib.Math.min.name, .static Lib.Math.min.name, .initialized "java/lang/Math", .code Lib.Math.min.name Lib.Math.min.code 2 (some .int), .fieldLink RX3 18 "AddedCries$Fit" "choices" "[J", .methodLink RX3 22 yX2_size, .instanceMethod yX2_size, .selects RX2 yX2_size yX2_size, .initialized RX2, .code yX2_size cX2_size 1 (some .int), .fieldLink RX2 15 "AddedCries$Cry" "size" "I", .methodLink RX3 52 yJ7_fill_d0a16, .static yJ7_fill_d0a16, .initialized RJ7, .code yJ7_fill_d0a16 cJ7_fill_d0a16 5 none, .methodLink RX3 32 yX2_at, .instanceMethod yX2_at, .selects RX2 yX2_at yX2_at, .code yX2_at cX2_at 2 (some .int), .fieldLink RX2 9 "AddedCries$Cry" "words" "[I", .methodLink RX2 19 yX2_has, .instanceMethod yX2_has, .selects RX2 yX2_has yX2_has, .code yX2_has cX2_has 2 (some .boolean)] ++ wsX30 ++ wsX20)
def wsX5_init : List Cond := .code yX5_init cX5_init 1 none :: ([.methodLink RX5 3 objectInit, .instanceMethod objectInit, .code objectInit ⟨#[0xb1]⟩ 1 none, .arrayClass .boolean, .fieldLink RX5 11 "AddedCries$Sayings" "ends" "[Z", .arrayClass .int, .fieldLink RX5 15 "AddedCries$Sayings" "found" "[I"] ++ wsX50)
def wsX5_after : List Cond := .code yX5_after cX5_after 5 (some .int) :: ([])
def wsX5_isSaid : List Cond := .code yX5_isSaid cX5_isSaid 5 (some .boolean) :: ([.methodLink RX5 19 yX2_size, .instanceMethod yX2_size, .selects RX2 yX2_size yX2_size, .initialized RX2, .code yX2_size cX2_size 1 (some .int), .fieldLink RX2 15 "AddedCries$Cry" "size" "I", .methodLink RX5 25 yX2_at, .instanceMethod yX2_at, .selects RX2 yX2_at yX2_at, .code yX2_at cX2_at 2 (some .int), .fieldLink RX2 9 "AddedCries$Cry" "words" "[I", .methodLink RX2 19 yX2_has, .instanceMethod yX2_has, .selects RX2 yX2_has yX2_has, .code yX2_has cX2_has 2 (some .boolean), .methodLink RX5 29 yX5_after, .static yX5_after, .initialized RX5, .code yX5_after cX5_after 5 (some .int)] ++ wsX20)
def wsX6_init : List Cond := .code yX6_init cX6_init 1 none :: ([.methodLink RX6 3 objectInit, .instanceMethod objectInit, .code objectInit ⟨#[0xb1]⟩ 1 none, .arrayClass .int, .fieldLink RX6 9 "AddedCries$Sheet" "cells" "[I", .fieldLink RX6 15 "AddedCries$Sheet" "size" "I", .fieldLink RX6 19 "AddedCries$Sheet" "sort" "I"] ++ wsX60)
def wsX6_isNothing : List Cond := .code yX6_isNothing cX6_isNothing 1 (some .boolean) :: ([.fieldLink RX6 15 "AddedCries$Sheet" "size" "I"] ++ wsX60)
def wsX6_sort : List Cond := .code yX6_sort cX6_sort 1 (some .int) :: ([.fieldLink RX6 19 "AddedCries$Sheet" "sort" "I"] ++ wsX60)
def wsJ7_fill_53178 : List Cond := .code yJ7_fill_53178 cJ7_fill_53178 4 none :: ([])
def wsX6_renew : List Cond := .code yX6_renew cX6_renew 3 none :: ([.fieldLink RX6 9 "AddedCries$Sheet" "cells" "[I", .fieldLink RX6 15 "AddedCries$Sheet" "size" "I", .fieldLink RX6 19 "AddedCries$Sheet" "sort" "I", .methodLink RX6 22 yJ7_fill_53178, .static yJ7_fill_53178, .initialized RJ7, .code yJ7_fill_53178 cJ7_fill_53178 4 none] ++ wsX60)
def wsX6_hasCells : List Cond := .code yX6_hasCells cX6_hasCells 3 (some .boolean) :: ([.fieldLink RX6 15 "AddedCries$Sheet" "size" "I"] ++ wsX60)
def wsX6_at : List Cond := .code yX6_at cX6_at 2 (some .int) :: ([.fieldLink RX6 9 "AddedCries$Sheet" "cells" "[I", .methodLink RX6 28 yX6_hasCells, .instanceMethod yX6_hasCells, .selects RX6 yX6_hasCells yX6_hasCells, .initialized RX6, .code yX6_hasCells cX6_hasCells 3 (some .boolean), .fieldLink RX6 15 "AddedCries$Sheet" "size" "I"] ++ wsX60)
def wsX6_cut : List Cond := .code yX6_cut cX6_cut 2 (some .int) :: ([.fieldLink RX6 19 "AddedCries$Sheet" "sort" "I"] ++ wsX60)
def wsX6_write : List Cond := .code yX6_write cX6_write 3 none :: ([.fieldLink RX6 9 "AddedCries$Sheet" "cells" "[I", .methodLink RX6 28 yX6_hasCells, .instanceMethod yX6_hasCells, .selects RX6 yX6_hasCells yX6_hasCells, .initialized RX6, .code yX6_hasCells cX6_hasCells 3 (some .boolean), .fieldLink RX6 15 "AddedCries$Sheet" "size" "I", .methodLink RX6 32 yX6_cut, .instanceMethod yX6_cut, .selects RX6 yX6_cut yX6_cut, .code yX6_cut cX6_cut 2 (some .int), .fieldLink RX6 19 "AddedCries$Sheet" "sort" "I"] ++ wsX60)
def wsX7_init : List Cond := .code yX7_init cX7_init 1 none :: ([.methodLink RX7 3 objectInit, .instanceMethod objectInit, .code objectInit ⟨#[0xb1]⟩ 1 none, .classLink RX7 9 RX4, .instantiable RX4 1, .initialized RX4, .fieldLink RX7 12 "AddedCries$Weave" "lengths" "LAddedCries$Grid;", .fieldLink RX7 18 "AddedCries$Weave" "counts" "LAddedCries$Grid;", .instanceMethod yX4_init, .code yX4_init cX4_init 1 none, .methodLink RX4 3 objectInit, .arrayClass .long, .fieldLink RX4 9 "AddedCries$Grid" "cells" "[J"] ++ wsX40 ++ wsX70)
def wsX8_init_r1 : List Cond := [Cond.methodLink RX8 5 objectInit, Cond.instanceMethod objectInit, Cond.code objectInit ⟨#[0xb1]⟩ 1 none, Cond.arrayClass .int, Cond.fieldLink RX8 11 "AddedCries" "kinds" "[I", Cond.classLink RX8 15 RX2, Cond.fieldLink RX8 17 "AddedCries" "days" "[LAddedCries$Cry;", Cond.classLink RX8 21 RX6, Cond.fieldLink RX8 23 "AddedCries" "sheets" "[LAddedCries$Sheet;", Cond.instantiable RX2 2, Cond.initialized RX2, Cond.fieldLink RX8 28 "AddedCries" "wordless" "LAddedCries$Cry;", Cond.classLink RX8 32 RX3, Cond.instantiable RX3 3, Cond.initialized RX3, Cond.fieldLink RX8 35 "AddedCries" "fit" "LAddedCries$Fit;", Cond.classLink RX8 39 RX5, Cond.instantiable RX5 2, Cond.initialized RX5, Cond.fieldLink RX8 42 "AddedCries" "sayings" "LAddedCries$Sayings;", Cond.classLink RX8 46 RX7, Cond.instantiable RX7 2, Cond.initialized RX7, Cond.fieldLink RX8 49 "AddedCries" "weave" "LAddedCries$Weave;"]
def wsX8_init_r2 : List Cond := [Cond.classLink RX8 53 RX1, Cond.instantiable RX1 2, Cond.initialized RX1, Cond.fieldLink RX8 56 "AddedCries" "braid" "LAddedCries$Braid;", Cond.classLink RX8 60 RX0, Cond.instantiable RX0 2, Cond.initialized RX0, Cond.fieldLink RX8 63 "AddedCries" "between" "LAddedCries$Between;", Cond.fieldLink RX8 67 "AddedCries" "fewestParts" "[I", Cond.fieldLink RX8 70 "AddedCries" "dayCount" "I", Cond.fieldLink RX8 74 "AddedCries" "traced" "I", Cond.fieldLink RX8 77 "AddedCries" "latestFault" "I", Cond.instantiable RX6 3, Cond.initialized RX6, Cond.instanceMethod yX2_init, Cond.code yX2_init cX2_init 1 none, Cond.methodLink RX2 3 objectInit, Cond.fieldLink RX2 9 "AddedCries$Cry" "words" "[I", Cond.fieldLink RX2 15 "AddedCries$Cry" "size" "I", Cond.instanceMethod yX3_init, Cond.code yX3_init cX3_init 1 none, Cond.methodLink RX3 3 objectInit, Cond.fieldLink RX3 9 "AddedCries$Fit" "firsts" "[I", Cond.fieldLink RX3 15 "AddedCries$Fit" "lasts" "[I"]
def wsX8_init_r3 : List Cond := [Cond.arrayClass .long, Cond.fieldLink RX3 18 "AddedCries$Fit" "choices" "[J", Cond.instanceMethod yX5_init, Cond.code yX5_init cX5_init 1 none, Cond.methodLink RX5 3 objectInit, Cond.arrayClass .boolean, Cond.fieldLink RX5 11 "AddedCries$Sayings" "ends" "[Z", Cond.fieldLink RX5 15 "AddedCries$Sayings" "found" "[I", Cond.instanceMethod yX7_init, Cond.code yX7_init cX7_init 1 none, Cond.methodLink RX7 3 objectInit, Cond.classLink RX7 9 RX4, Cond.instantiable RX4 1, Cond.initialized RX4, Cond.fieldLink RX7 12 "AddedCries$Weave" "lengths" "LAddedCries$Grid;", Cond.fieldLink RX7 18 "AddedCries$Weave" "counts" "LAddedCries$Grid;", Cond.instanceMethod yX4_init, Cond.code yX4_init cX4_init 1 none, Cond.methodLink RX4 3 objectInit, Cond.fieldLink RX4 9 "AddedCries$Grid" "cells" "[J", Cond.instanceMethod yX1_init, Cond.code yX1_init cX1_init 1 none, Cond.methodLink RX1 3 objectInit, Cond.classLink RX1 9 RX4]
def wsX8_init_r4 : List Cond := [Cond.fieldLink RX1 12 "AddedCries$Braid" "here" "LAddedCries$Grid;", Cond.fieldLink RX1 18 "AddedCries$Braid" "next" "LAddedCries$Grid;", Cond.instanceMethod yX0_init, Cond.code yX0_init cX0_init 1 none, Cond.methodLink RX0 1 objectInit, Cond.classLink RX0 7 RX4, Cond.fieldLink RX0 10 "AddedCries$Between" "now" "LAddedCries$Grid;", Cond.fieldLink RX0 16 "AddedCries$Between" "then" "LAddedCries$Grid;", Cond.instanceMethod yX6_init, Cond.code yX6_init cX6_init 1 none, Cond.methodLink RX6 3 objectInit, Cond.fieldLink RX6 9 "AddedCries$Sheet" "cells" "[I", Cond.fieldLink RX6 15 "AddedCries$Sheet" "size" "I", Cond.fieldLink RX6 19 "AddedCries$Sheet" "sort" "I"]
def wsX8_init : List Cond := .code yX8_init cX8_init 2 none :: ((wsX8_init_r1 ++ (wsX8_init_r2 ++ (wsX8_init_r3 ++ wsX8_init_r4))) ++ wsX80 ++ wsX20 ++ wsX30 ++ wsX50 ++ wsX70 ++ wsX10 ++ wsX00 ++ wsX60 ++ wsX40)
def wsX8_sheetOf : List Cond := .code yX8_sheetOf cX8_sheetOf 2 (some (.object "AddedCries$Sheet")) :: ([.fieldLink RX8 23 "AddedCries" "sheets" "[LAddedCries$Sheet;"] ++ wsX80)
def wsX8_isSort : List Cond := .code yX8_isSort cX8_isSort 1 (some .boolean) :: ([])
def wsX8_readingFault : List Cond := .code yX8_readingFault cX8_readingFault 2 (some .int) :: ([.methodLink RX8 207 yX6_isNothing, .instanceMethod yX6_isNothing, .selects RX6 yX6_isNothing yX6_isNothing, .initialized RX6, .code yX6_isNothing cX6_isNothing 1 (some .boolean), .fieldLink RX6 15 "AddedCries$Sheet" "size" "I", .methodLink RX8 217 yX6_sort, .instanceMethod yX6_sort, .selects RX6 yX6_sort yX6_sort, .code yX6_sort cX6_sort 1 (some .int), .fieldLink RX6 19 "AddedCries$Sheet" "sort" "I"] ++ wsX60)
def wsX8_fails : List Cond := .code yX8_fails cX8_fails 2 (some .int) :: ([.fieldLink RX8 77 "AddedCries" "latestFault" "I"] ++ wsX80)
def wsX8_isLetter : List Cond := .code yX8_isLetter cX8_isLetter 1 (some .boolean) :: ([])
def wsX8_firstFaultOf : List Cond := .code yX8_firstFaultOf cX8_firstFaultOf 7 (some .int) :: ([.methodLink RX8 216 yX6_at, .instanceMethod yX6_at, .selects RX6 yX6_at yX6_at, .initialized RX6, .code yX6_at cX6_at 2 (some .int), .fieldLink RX6 9 "AddedCries$Sheet" "cells" "[I", .methodLink RX6 28 yX6_hasCells, .instanceMethod yX6_hasCells, .selects RX6 yX6_hasCells yX6_hasCells, .code yX6_hasCells cX6_hasCells 3 (some .boolean), .fieldLink RX6 15 "AddedCries$Sheet" "size" "I", .methodLink RX8 239 yX8_isLetter, .static yX8_isLetter, .initialized RX8, .code yX8_isLetter cX8_isLetter 1 (some .boolean)] ++ wsX60)
def wsX8_cryOf : List Cond := .code yX8_cryOf cX8_cryOf 2 (some (.object "AddedCries$Cry")) :: ([.fieldLink RX8 70 "AddedCries" "dayCount" "I", .fieldLink RX8 17 "AddedCries" "days" "[LAddedCries$Cry;"] ++ wsX80)
def wsX8_lastCry : List Cond := .code yX8_lastCry cX8_lastCry 1 (some (.object "AddedCries$Cry")) :: ([.fieldLink RX8 70 "AddedCries" "dayCount" "I", .methodLink RX8 115 yX8_cryOf, .instanceMethod yX8_cryOf, .selects RX8 yX8_cryOf yX8_cryOf, .initialized RX8, .code yX8_cryOf cX8_cryOf 2 (some (.object "AddedCries$Cry")), .fieldLink RX8 17 "AddedCries" "days" "[LAddedCries$Cry;"] ++ wsX80)
def wsX8_beginDay : List Cond := .code yX8_beginDay cX8_beginDay 2 none :: ([.fieldLink RX8 70 "AddedCries" "dayCount" "I", .methodLink RX8 129 yX8_lastCry, .instanceMethod yX8_lastCry, .selects RX8 yX8_lastCry yX8_lastCry, .initialized RX8, .code yX8_lastCry cX8_lastCry 1 (some (.object "AddedCries$Cry")), .methodLink RX8 115 yX8_cryOf, .instanceMethod yX8_cryOf, .selects RX8 yX8_cryOf yX8_cryOf, .code yX8_cryOf cX8_cryOf 2 (some (.object "AddedCries$Cry")), .fieldLink RX8 17 "AddedCries" "days" "[LAddedCries$Cry;", .methodLink RX8 245 yX2_clear, .instanceMethod yX2_clear, .selects RX2 yX2_clear yX2_clear, .initialized RX2, .code yX2_clear cX2_clear 1 none, .fieldLink RX2 15 "AddedCries$Cry" "size" "I"] ++ wsX80 ++ wsX20)
def wsX8_takeText_r1 : List Cond := [Cond.fieldLink RX8 70 "AddedCries" "dayCount" "I", Cond.methodLink RX8 242 yX8_beginDay, Cond.instanceMethod yX8_beginDay, Cond.selects RX8 yX8_beginDay yX8_beginDay, Cond.initialized RX8, Cond.code yX8_beginDay cX8_beginDay 2 none, Cond.methodLink RX8 129 yX8_lastCry, Cond.instanceMethod yX8_lastCry, Cond.selects RX8 yX8_lastCry yX8_lastCry, Cond.code yX8_lastCry cX8_lastCry 1 (some (.object "AddedCries$Cry")), Cond.methodLink RX8 115 yX8_cryOf, Cond.instanceMethod yX8_cryOf, Cond.selects RX8 yX8_cryOf yX8_cryOf, Cond.code yX8_cryOf cX8_cryOf 2 (some (.object "AddedCries$Cry")), Cond.fieldLink RX8 17 "AddedCries" "days" "[LAddedCries$Cry;", Cond.methodLink RX8 245 yX2_clear, Cond.instanceMethod yX2_clear, Cond.selects RX2 yX2_clear yX2_clear, Cond.initialized RX2, Cond.code yX2_clear cX2_clear 1 none, Cond.fieldLink RX2 15 "AddedCries$Cry" "size" "I", Cond.methodLink RX8 216 yX6_at, Cond.instanceMethod yX6_at, Cond.selects RX6 yX6_at yX6_at]
def wsX8_takeText_r2 : List Cond := [Cond.initialized RX6, Cond.code yX6_at cX6_at 2 (some .int), Cond.fieldLink RX6 9 "AddedCries$Sheet" "cells" "[I", Cond.methodLink RX6 28 yX6_hasCells, Cond.instanceMethod yX6_hasCells, Cond.selects RX6 yX6_hasCells yX6_hasCells, Cond.code yX6_hasCells cX6_hasCells 3 (some .boolean), Cond.fieldLink RX6 15 "AddedCries$Sheet" "size" "I", Cond.methodLink RX8 239 yX8_isLetter, Cond.static yX8_isLetter, Cond.code yX8_isLetter cX8_isLetter 1 (some .boolean), Cond.methodLink RX8 119 yX2_size, Cond.instanceMethod yX2_size, Cond.selects RX2 yX2_size yX2_size, Cond.code yX2_size cX2_size 1 (some .int), Cond.methodLink RX8 137 yX2_insert, Cond.instanceMethod yX2_insert, Cond.selects RX2 yX2_insert yX2_insert, Cond.code yX2_insert cX2_insert 4 none, Cond.fieldLink RX2 9 "AddedCries$Cry" "words" "[I", Cond.methodLink RX2 23 yX2_isFull, Cond.instanceMethod yX2_isFull, Cond.selects RX2 yX2_isFull yX2_isFull, Cond.code yX2_isFull cX2_isFull 1 (some .boolean)]
def wsX8_takeText : List Cond := .code yX8_takeText cX8_takeText 7 none :: ((wsX8_takeText_r1 ++ wsX8_takeText_r2) ++ wsX80 ++ wsX20 ++ wsX60)
def wsX8_cries_r1 : List Cond := [Cond.fieldLink RX8 77 "AddedCries" "latestFault" "I", Cond.fieldLink RX8 70 "AddedCries" "dayCount" "I", Cond.methodLink RX8 81 yX8_sheetOf, Cond.instanceMethod yX8_sheetOf, Cond.selects RX8 yX8_sheetOf yX8_sheetOf, Cond.initialized RX8, Cond.code yX8_sheetOf cX8_sheetOf 2 (some (.object "AddedCries$Sheet")), Cond.fieldLink RX8 23 "AddedCries" "sheets" "[LAddedCries$Sheet;", Cond.methodLink RX8 85 yX8_isSort, Cond.static yX8_isSort, Cond.code yX8_isSort cX8_isSort 1 (some .boolean), Cond.methodLink RX8 89 yX8_readingFault, Cond.static yX8_readingFault, Cond.code yX8_readingFault cX8_readingFault 2 (some .int), Cond.methodLink RX8 207 yX6_isNothing, Cond.instanceMethod yX6_isNothing, Cond.selects RX6 yX6_isNothing yX6_isNothing, Cond.initialized RX6, Cond.code yX6_isNothing cX6_isNothing 1 (some .boolean), Cond.fieldLink RX6 15 "AddedCries$Sheet" "size" "I", Cond.methodLink RX8 217 yX6_sort, Cond.instanceMethod yX6_sort, Cond.selects RX6 yX6_sort yX6_sort, Cond.code yX6_sort cX6_sort 1 (some .int)]
def wsX8_cries_r2 : List Cond := [Cond.fieldLink RX6 19 "AddedCries$Sheet" "sort" "I", Cond.methodLink RX8 93 yX8_fails, Cond.instanceMethod yX8_fails, Cond.selects RX8 yX8_fails yX8_fails, Cond.code yX8_fails cX8_fails 2 (some .int), Cond.methodLink RX8 97 yX6_hasCells, Cond.instanceMethod yX6_hasCells, Cond.selects RX6 yX6_hasCells yX6_hasCells, Cond.code yX6_hasCells cX6_hasCells 3 (some .boolean), Cond.methodLink RX8 101 yX8_firstFaultOf, Cond.static yX8_firstFaultOf, Cond.code yX8_firstFaultOf cX8_firstFaultOf 7 (some .int), Cond.methodLink RX8 216 yX6_at, Cond.instanceMethod yX6_at, Cond.selects RX6 yX6_at yX6_at, Cond.code yX6_at cX6_at 2 (some .int), Cond.fieldLink RX6 9 "AddedCries$Sheet" "cells" "[I", Cond.methodLink RX6 28 yX6_hasCells, Cond.methodLink RX8 239 yX8_isLetter, Cond.static yX8_isLetter, Cond.code yX8_isLetter cX8_isLetter 1 (some .boolean), Cond.methodLink RX8 105 yX8_takeText, Cond.instanceMethod yX8_takeText, Cond.selects RX8 yX8_takeText yX8_takeText]
def wsX8_cries_r3 : List Cond := [Cond.code yX8_takeText cX8_takeText 7 none, Cond.methodLink RX8 242 yX8_beginDay, Cond.instanceMethod yX8_beginDay, Cond.selects RX8 yX8_beginDay yX8_beginDay, Cond.code yX8_beginDay cX8_beginDay 2 none, Cond.methodLink RX8 129 yX8_lastCry, Cond.instanceMethod yX8_lastCry, Cond.selects RX8 yX8_lastCry yX8_lastCry, Cond.code yX8_lastCry cX8_lastCry 1 (some (.object "AddedCries$Cry")), Cond.methodLink RX8 115 yX8_cryOf, Cond.instanceMethod yX8_cryOf, Cond.selects RX8 yX8_cryOf yX8_cryOf, Cond.code yX8_cryOf cX8_cryOf 2 (some (.object "AddedCries$Cry")), Cond.fieldLink RX8 17 "AddedCries" "days" "[LAddedCries$Cry;", Cond.methodLink RX8 245 yX2_clear, Cond.instanceMethod yX2_clear, Cond.selects RX2 yX2_clear yX2_clear, Cond.initialized RX2, Cond.code yX2_clear cX2_clear 1 none, Cond.fieldLink RX2 15 "AddedCries$Cry" "size" "I", Cond.methodLink RX8 119 yX2_size, Cond.instanceMethod yX2_size, Cond.selects RX2 yX2_size yX2_size, Cond.code yX2_size cX2_size 1 (some .int)]
def wsX8_cries_r4 : List Cond := [Cond.methodLink RX8 137 yX2_insert, Cond.instanceMethod yX2_insert, Cond.selects RX2 yX2_insert yX2_insert, Cond.code yX2_insert cX2_insert 4 none, Cond.fieldLink RX2 9 "AddedCries$Cry" "words" "[I", Cond.methodLink RX2 23 yX2_isFull, Cond.instanceMethod yX2_isFull, Cond.selects RX2 yX2_isFull yX2_isFull, Cond.code yX2_isFull cX2_isFull 1 (some .boolean)]
def wsX8_cries : List Cond := .code yX8_cries cX8_cries 8 (some .int) :: ((wsX8_cries_r1 ++ (wsX8_cries_r2 ++ (wsX8_cries_r3 ++ wsX8_cries_r4))) ++ wsX80 ++ wsX60 ++ wsX20)
def wsX8_isWord : List Cond := .code yX8_isWord cX8_isWord 1 (some .boolean) :: ([])
def wsX8_isKind : List Cond := .code yX8_isKind cX8_isKind 1 (some .boolean) :: ([])
def wsX8_kind : List Cond := .code yX8_kind cX8_kind 4 (some .int) :: ([.fieldLink RX8 11 "AddedCries" "kinds" "[I", .methodLink RX8 109 yX8_isWord, .static yX8_isWord, .initialized RX8, .code yX8_isWord cX8_isWord 1 (some .boolean), .methodLink RX8 112 yX8_isKind, .static yX8_isKind, .code yX8_isKind cX8_isKind 1 (some .boolean)] ++ wsX80)
def wsX8_ofDay : List Cond := .code yX8_ofDay cX8_ofDay 4 (some .int) :: ([.methodLink RX8 115 yX8_cryOf, .instanceMethod yX8_cryOf, .selects RX8 yX8_cryOf yX8_cryOf, .initialized RX8, .code yX8_cryOf cX8_cryOf 2 (some (.object "AddedCries$Cry")), .fieldLink RX8 70 "AddedCries" "dayCount" "I", .fieldLink RX8 17 "AddedCries" "days" "[LAddedCries$Cry;", .methodLink RX8 119 yX2_size, .instanceMethod yX2_size, .selects RX2 yX2_size yX2_size, .initialized RX2, .code yX2_size cX2_size 1 (some .int), .fieldLink RX2 15 "AddedCries$Cry" "size" "I", .methodLink RX8 123 yX2_has, .instanceMethod yX2_has, .selects RX2 yX2_has yX2_has, .code yX2_has cX2_has 2 (some .boolean), .methodLink RX8 126 yX2_at, .instanceMethod yX2_at, .selects RX2 yX2_at yX2_at, .code yX2_at cX2_at 2 (some .int), .fieldLink RX2 9 "AddedCries$Cry" "words" "[I", .methodLink RX2 19 yX2_has] ++ wsX80 ++ wsX20)
def wsX8_within_r1 : List Cond := [Cond.fieldLink RX8 35 "AddedCries" "fit" "LAddedCries$Fit;", Cond.methodLink RX8 115 yX8_cryOf, Cond.instanceMethod yX8_cryOf, Cond.selects RX8 yX8_cryOf yX8_cryOf, Cond.initialized RX8, Cond.code yX8_cryOf cX8_cryOf 2 (some (.object "AddedCries$Cry")), Cond.fieldLink RX8 70 "AddedCries" "dayCount" "I", Cond.fieldLink RX8 17 "AddedCries" "days" "[LAddedCries$Cry;", Cond.methodLink RX8 141 yX3_make, Cond.instanceMethod yX3_make, Cond.selects RX3 yX3_make yX3_make, Cond.initialized RX3, Cond.code yX3_make cX3_make 5 (some .boolean), Cond.fieldLink RX3 9 "AddedCries$Fit" "firsts" "[I", Cond.fieldLink RX3 15 "AddedCries$Fit" "lasts" "[I", Cond.methodLink RX3 22 yX2_size, Cond.instanceMethod yX2_size, Cond.selects RX2 yX2_size yX2_size, Cond.initialized RX2, Cond.code yX2_size cX2_size 1 (some .int), Cond.fieldLink RX2 15 "AddedCries$Cry" "size" "I", Cond.methodLink RX3 28 yX2_has, Cond.instanceMethod yX2_has, Cond.selects RX2 yX2_has yX2_has]
def wsX8_within_r2 : List Cond := [Cond.code yX2_has cX2_has 2 (some .boolean), Cond.methodLink RX3 32 yX2_at, Cond.instanceMethod yX2_at, Cond.selects RX2 yX2_at yX2_at, Cond.code yX2_at cX2_at 2 (some .int), Cond.fieldLink RX2 9 "AddedCries$Cry" "words" "[I", Cond.methodLink RX2 19 yX2_has]
def wsX8_within : List Cond := .code yX8_within cX8_within 5 (some .int) :: ((wsX8_within_r1 ++ wsX8_within_r2) ++ wsX80 ++ wsX30 ++ wsX20)
def wsX8_leftOut_r1 : List Cond := [Cond.fieldLink RX8 70 "AddedCries" "dayCount" "I", Cond.fieldLink RX8 35 "AddedCries" "fit" "LAddedCries$Fit;", Cond.methodLink RX8 115 yX8_cryOf, Cond.instanceMethod yX8_cryOf, Cond.selects RX8 yX8_cryOf yX8_cryOf, Cond.initialized RX8, Cond.code yX8_cryOf cX8_cryOf 2 (some (.object "AddedCries$Cry")), Cond.fieldLink RX8 17 "AddedCries" "days" "[LAddedCries$Cry;", Cond.methodLink RX8 141 yX3_make, Cond.instanceMethod yX3_make, Cond.selects RX3 yX3_make yX3_make, Cond.initialized RX3, Cond.code yX3_make cX3_make 5 (some .boolean), Cond.fieldLink RX3 9 "AddedCries$Fit" "firsts" "[I", Cond.fieldLink RX3 15 "AddedCries$Fit" "lasts" "[I", Cond.methodLink RX3 22 yX2_size, Cond.instanceMethod yX2_size, Cond.selects RX2 yX2_size yX2_size, Cond.initialized RX2, Cond.code yX2_size cX2_size 1 (some .int), Cond.fieldLink RX2 15 "AddedCries$Cry" "size" "I", Cond.methodLink RX3 28 yX2_has, Cond.instanceMethod yX2_has, Cond.selects RX2 yX2_has yX2_has]
def wsX8_leftOut_r2 : List Cond := [Cond.code yX2_has cX2_has 2 (some .boolean), Cond.methodLink RX3 32 yX2_at, Cond.instanceMethod yX2_at, Cond.selects RX2 yX2_at yX2_at, Cond.code yX2_at cX2_at 2 (some .int), Cond.fieldLink RX2 9 "AddedCries$Cry" "words" "[I", Cond.methodLink RX2 19 yX2_has]
def wsX8_leftOut : List Cond := .code yX8_leftOut cX8_leftOut 4 (some .int) :: ((wsX8_leftOut_r1 ++ wsX8_leftOut_r2) ++ wsX80 ++ wsX30 ++ wsX20)
def wsX8_said_r1 : List Cond := [Cond.fieldLink RX8 11 "AddedCries" "kinds" "[I", Cond.methodLink RX8 115 yX8_cryOf, Cond.instanceMethod yX8_cryOf, Cond.selects RX8 yX8_cryOf yX8_cryOf, Cond.initialized RX8, Cond.code yX8_cryOf cX8_cryOf 2 (some (.object "AddedCries$Cry")), Cond.fieldLink RX8 70 "AddedCries" "dayCount" "I", Cond.fieldLink RX8 17 "AddedCries" "days" "[LAddedCries$Cry;", Cond.methodLink RX8 145 yX5_isSaid, Cond.static yX5_isSaid, Cond.initialized RX5, Cond.code yX5_isSaid cX5_isSaid 5 (some .boolean), Cond.methodLink RX5 19 yX2_size, Cond.instanceMethod yX2_size, Cond.selects RX2 yX2_size yX2_size, Cond.initialized RX2, Cond.code yX2_size cX2_size 1 (some .int), Cond.fieldLink RX2 15 "AddedCries$Cry" "size" "I", Cond.methodLink RX5 25 yX2_at, Cond.instanceMethod yX2_at, Cond.selects RX2 yX2_at yX2_at, Cond.code yX2_at cX2_at 2 (some .int), Cond.fieldLink RX2 9 "AddedCries$Cry" "words" "[I", Cond.methodLink RX2 19 yX2_has]
def wsX8_said_r2 : List Cond := [Cond.instanceMethod yX2_has, Cond.selects RX2 yX2_has yX2_has, Cond.code yX2_has cX2_has 2 (some .boolean), Cond.methodLink RX5 29 yX5_after, Cond.static yX5_after, Cond.code yX5_after cX5_after 5 (some .int)]
def wsX8_said : List Cond := .code yX8_said cX8_said 5 (some .int) :: ((wsX8_said_r1 ++ wsX8_said_r2) ++ wsX80 ++ wsX20)
def wsX8_ways_r1 : List Cond := [Cond.constantLong RX8 156 (-9223372036854775808), Cond.fieldLink RX8 35 "AddedCries" "fit" "LAddedCries$Fit;", Cond.methodLink RX8 115 yX8_cryOf, Cond.instanceMethod yX8_cryOf, Cond.selects RX8 yX8_cryOf yX8_cryOf, Cond.initialized RX8, Cond.code yX8_cryOf cX8_cryOf 2 (some (.object "AddedCries$Cry")), Cond.fieldLink RX8 70 "AddedCries" "dayCount" "I", Cond.fieldLink RX8 17 "AddedCries" "days" "[LAddedCries$Cry;", Cond.methodLink RX8 158 yX3_choices, Cond.instanceMethod yX3_choices, Cond.selects RX3 yX3_choices yX3_choices, Cond.initialized RX3, Cond.code yX3_choices cX3_choices 6 (some .long), Cond.methodLink RX3 46 Lib.Math.min.name, Cond.static Lib.Math.min.name, Cond.initialized "java/lang/Math", Cond.code Lib.Math.min.name Lib.Math.min.code 2 (some .int), Cond.fieldLink RX3 18 "AddedCries$Fit" "choices" "[J", Cond.methodLink RX3 22 yX2_size, Cond.instanceMethod yX2_size, Cond.selects RX2 yX2_size yX2_size, Cond.initialized RX2, Cond.code yX2_size cX2_size 1 (some .int)]
def wsX8_ways_r2 : List Cond := [Cond.fieldLink RX2 15 "AddedCries$Cry" "size" "I", Cond.methodLink RX3 52 yJ7_fill_d0a16, Cond.static yJ7_fill_d0a16, Cond.initialized RJ7, Cond.code yJ7_fill_d0a16 cJ7_fill_d0a16 5 none, Cond.methodLink RX3 32 yX2_at, Cond.instanceMethod yX2_at, Cond.selects RX2 yX2_at yX2_at, Cond.code yX2_at cX2_at 2 (some .int), Cond.fieldLink RX2 9 "AddedCries$Cry" "words" "[I", Cond.methodLink RX2 19 yX2_has, Cond.instanceMethod yX2_has, Cond.selects RX2 yX2_has yX2_has, Cond.code yX2_has cX2_has 2 (some .boolean)]
def wsX8_ways : List Cond := .code yX8_ways cX8_ways 5 (some .long) :: ((wsX8_ways_r1 ++ wsX8_ways_r2) ++ wsX80 ++ wsX30 ++ wsX20)
def wsX8_isFirstOrSecond : List Cond := .code yX8_isFirstOrSecond cX8_isFirstOrSecond 1 (some .boolean) :: ([])
def wsX8_place_r1 : List Cond := [Cond.fieldLink RX8 35 "AddedCries" "fit" "LAddedCries$Fit;", Cond.methodLink RX8 115 yX8_cryOf, Cond.instanceMethod yX8_cryOf, Cond.selects RX8 yX8_cryOf yX8_cryOf, Cond.initialized RX8, Cond.code yX8_cryOf cX8_cryOf 2 (some (.object "AddedCries$Cry")), Cond.fieldLink RX8 70 "AddedCries" "dayCount" "I", Cond.fieldLink RX8 17 "AddedCries" "days" "[LAddedCries$Cry;", Cond.methodLink RX8 123 yX2_has, Cond.instanceMethod yX2_has, Cond.selects RX2 yX2_has yX2_has, Cond.initialized RX2, Cond.code yX2_has cX2_has 2 (some .boolean), Cond.fieldLink RX2 15 "AddedCries$Cry" "size" "I", Cond.methodLink RX8 162 yX8_isFirstOrSecond, Cond.static yX8_isFirstOrSecond, Cond.code yX8_isFirstOrSecond cX8_isFirstOrSecond 1 (some .boolean), Cond.methodLink RX8 141 yX3_make, Cond.instanceMethod yX3_make, Cond.selects RX3 yX3_make yX3_make, Cond.initialized RX3, Cond.code yX3_make cX3_make 5 (some .boolean), Cond.fieldLink RX3 9 "AddedCries$Fit" "firsts" "[I", Cond.fieldLink RX3 15 "AddedCries$Fit" "lasts" "[I"]
def wsX8_place_r2 : List Cond := [Cond.methodLink RX3 22 yX2_size, Cond.instanceMethod yX2_size, Cond.selects RX2 yX2_size yX2_size, Cond.code yX2_size cX2_size 1 (some .int), Cond.methodLink RX3 28 yX2_has, Cond.methodLink RX3 32 yX2_at, Cond.instanceMethod yX2_at, Cond.selects RX2 yX2_at yX2_at, Cond.code yX2_at cX2_at 2 (some .int), Cond.fieldLink RX2 9 "AddedCries$Cry" "words" "[I", Cond.methodLink RX2 19 yX2_has, Cond.methodLink RX8 165 yX3_first, Cond.instanceMethod yX3_first, Cond.selects RX3 yX3_first yX3_first, Cond.code yX3_first cX3_first 2 (some .int), Cond.methodLink RX8 168 yX3_last, Cond.instanceMethod yX3_last, Cond.selects RX3 yX3_last yX3_last, Cond.code yX3_last cX3_last 2 (some .int)]
def wsX8_place : List Cond := .code yX8_place cX8_place 7 (some .int) :: ((wsX8_place_r1 ++ wsX8_place_r2) ++ wsX80 ++ wsX20 ++ wsX30)
def wsX8_mayBe_r1 : List Cond := [Cond.fieldLink RX8 70 "AddedCries" "dayCount" "I", Cond.fieldLink RX8 35 "AddedCries" "fit" "LAddedCries$Fit;", Cond.methodLink RX8 129 yX8_lastCry, Cond.instanceMethod yX8_lastCry, Cond.selects RX8 yX8_lastCry yX8_lastCry, Cond.initialized RX8, Cond.code yX8_lastCry cX8_lastCry 1 (some (.object "AddedCries$Cry")), Cond.methodLink RX8 115 yX8_cryOf, Cond.instanceMethod yX8_cryOf, Cond.selects RX8 yX8_cryOf yX8_cryOf, Cond.code yX8_cryOf cX8_cryOf 2 (some (.object "AddedCries$Cry")), Cond.fieldLink RX8 17 "AddedCries" "days" "[LAddedCries$Cry;", Cond.methodLink RX8 123 yX2_has, Cond.instanceMethod yX2_has, Cond.selects RX2 yX2_has yX2_has, Cond.initialized RX2, Cond.code yX2_has cX2_has 2 (some .boolean), Cond.fieldLink RX2 15 "AddedCries$Cry" "size" "I", Cond.methodLink RX8 171 yX3_canStand, Cond.instanceMethod yX3_canStand, Cond.selects RX3 yX3_canStand yX3_canStand, Cond.initialized RX3, Cond.code yX3_canStand cX3_canStand 5 (some .boolean), Cond.methodLink RX3 36 yX3_make]
def wsX8_mayBe_r2 : List Cond := [Cond.instanceMethod yX3_make, Cond.selects RX3 yX3_make yX3_make, Cond.code yX3_make cX3_make 5 (some .boolean), Cond.fieldLink RX3 9 "AddedCries$Fit" "firsts" "[I", Cond.fieldLink RX3 15 "AddedCries$Fit" "lasts" "[I", Cond.methodLink RX3 22 yX2_size, Cond.instanceMethod yX2_size, Cond.selects RX2 yX2_size yX2_size, Cond.code yX2_size cX2_size 1 (some .int), Cond.methodLink RX3 28 yX2_has, Cond.methodLink RX3 32 yX2_at, Cond.instanceMethod yX2_at, Cond.selects RX2 yX2_at yX2_at, Cond.code yX2_at cX2_at 2 (some .int), Cond.fieldLink RX2 9 "AddedCries$Cry" "words" "[I", Cond.methodLink RX2 19 yX2_has, Cond.methodLink RX3 40 yX3_first, Cond.instanceMethod yX3_first, Cond.selects RX3 yX3_first yX3_first, Cond.code yX3_first cX3_first 2 (some .int), Cond.methodLink RX3 43 yX3_last, Cond.instanceMethod yX3_last, Cond.selects RX3 yX3_last yX3_last, Cond.code yX3_last cX3_last 2 (some .int)]
def wsX8_mayBe : List Cond := .code yX8_mayBe cX8_mayBe 6 (some .int) :: ((wsX8_mayBe_r1 ++ wsX8_mayBe_r2) ++ wsX80 ++ wsX20 ++ wsX30)
def wsX8_sheet_r1 : List Cond := [Cond.fieldLink RX8 77 "AddedCries" "latestFault" "I", Cond.methodLink RX8 81 yX8_sheetOf, Cond.instanceMethod yX8_sheetOf, Cond.selects RX8 yX8_sheetOf yX8_sheetOf, Cond.initialized RX8, Cond.code yX8_sheetOf cX8_sheetOf 2 (some (.object "AddedCries$Sheet")), Cond.fieldLink RX8 23 "AddedCries" "sheets" "[LAddedCries$Sheet;", Cond.methodLink RX8 85 yX8_isSort, Cond.static yX8_isSort, Cond.code yX8_isSort cX8_isSort 1 (some .boolean), Cond.methodLink RX8 93 yX8_fails, Cond.instanceMethod yX8_fails, Cond.selects RX8 yX8_fails yX8_fails, Cond.code yX8_fails cX8_fails 2 (some .int), Cond.methodLink RX8 204 yX6_renew, Cond.instanceMethod yX6_renew, Cond.selects RX6 yX6_renew yX6_renew, Cond.initialized RX6, Cond.code yX6_renew cX6_renew 3 none, Cond.fieldLink RX6 9 "AddedCries$Sheet" "cells" "[I", Cond.fieldLink RX6 15 "AddedCries$Sheet" "size" "I", Cond.fieldLink RX6 19 "AddedCries$Sheet" "sort" "I", Cond.methodLink RX6 22 yJ7_fill_53178, Cond.static yJ7_fill_53178]
def wsX8_sheet_r2 : List Cond := [Cond.initialized RJ7, Cond.code yJ7_fill_53178 cJ7_fill_53178 4 none]
def wsX8_sheet : List Cond := .code yX8_sheet cX8_sheet 5 (some .int) :: ((wsX8_sheet_r1 ++ wsX8_sheet_r2) ++ wsX80 ++ wsX60)
def wsX8_put_r1 : List Cond := [Cond.fieldLink RX8 77 "AddedCries" "latestFault" "I", Cond.methodLink RX8 81 yX8_sheetOf, Cond.instanceMethod yX8_sheetOf, Cond.selects RX8 yX8_sheetOf yX8_sheetOf, Cond.initialized RX8, Cond.code yX8_sheetOf cX8_sheetOf 2 (some (.object "AddedCries$Sheet")), Cond.fieldLink RX8 23 "AddedCries" "sheets" "[LAddedCries$Sheet;", Cond.methodLink RX8 207 yX6_isNothing, Cond.instanceMethod yX6_isNothing, Cond.selects RX6 yX6_isNothing yX6_isNothing, Cond.initialized RX6, Cond.code yX6_isNothing cX6_isNothing 1 (some .boolean), Cond.fieldLink RX6 15 "AddedCries$Sheet" "size" "I", Cond.methodLink RX8 93 yX8_fails, Cond.instanceMethod yX8_fails, Cond.selects RX8 yX8_fails yX8_fails, Cond.code yX8_fails cX8_fails 2 (some .int), Cond.methodLink RX8 97 yX6_hasCells, Cond.instanceMethod yX6_hasCells, Cond.selects RX6 yX6_hasCells yX6_hasCells, Cond.code yX6_hasCells cX6_hasCells 3 (some .boolean), Cond.methodLink RX8 213 yX6_write, Cond.instanceMethod yX6_write, Cond.selects RX6 yX6_write yX6_write]
def wsX8_put_r2 : List Cond := [Cond.code yX6_write cX6_write 3 none, Cond.fieldLink RX6 9 "AddedCries$Sheet" "cells" "[I", Cond.methodLink RX6 28 yX6_hasCells, Cond.methodLink RX6 32 yX6_cut, Cond.instanceMethod yX6_cut, Cond.selects RX6 yX6_cut yX6_cut, Cond.code yX6_cut cX6_cut 2 (some .int), Cond.fieldLink RX6 19 "AddedCries$Sheet" "sort" "I"]
def wsX8_put : List Cond := .code yX8_put cX8_put 5 (some .int) :: ((wsX8_put_r1 ++ wsX8_put_r2) ++ wsX80 ++ wsX60)
def wsX8_many : List Cond := .code yX8_many cX8_many 1 (some .int) :: ([.fieldLink RX8 70 "AddedCries" "dayCount" "I"] ++ wsX80)
def wsJ9_min_7cf53 : List Cond := .code yJ9_min_7cf53 cJ9_min_7cf53 2 (some .int) :: ([])
def wsL_cell : List Cond := .code yL_cell cL_cell 2 (some .int) :: ([.constant RL 7 (747796405)])
def wsL_some : List Cond := .code yL_some cL_some 2 (some .int) :: ([.constant RL 8 (2147483647)])
def wsL_with : List Cond := .code yL_with cL_with 6 (some .long) :: ([])
def wsL_word : List Cond := .code yL_word cL_word 3 (some .int) :: ([.constantLong RL 36 (7)])
def wsL_put_r1 : List Cond := [Cond.methodLink RL 9 yL_cell, Cond.static yL_cell, Cond.initialized RL, Cond.code yL_cell cL_cell 2 (some .int), Cond.constant RL 7 (747796405), Cond.methodLink RL 15 yL_some, Cond.static yL_some, Cond.code yL_some cL_some 2 (some .int), Cond.constant RL 8 (2147483647), Cond.methodLink RL 19 yX8_sheet, Cond.instanceMethod yX8_sheet, Cond.selects RX8 yX8_sheet yX8_sheet, Cond.initialized RX8, Cond.code yX8_sheet cX8_sheet 5 (some .int), Cond.fieldLink RX8 77 "AddedCries" "latestFault" "I", Cond.methodLink RX8 81 yX8_sheetOf, Cond.instanceMethod yX8_sheetOf, Cond.selects RX8 yX8_sheetOf yX8_sheetOf, Cond.code yX8_sheetOf cX8_sheetOf 2 (some (.object "AddedCries$Sheet")), Cond.fieldLink RX8 23 "AddedCries" "sheets" "[LAddedCries$Sheet;", Cond.methodLink RX8 85 yX8_isSort, Cond.static yX8_isSort, Cond.code yX8_isSort cX8_isSort 1 (some .boolean), Cond.methodLink RX8 93 yX8_fails]
def wsL_put_r2 : List Cond := [Cond.instanceMethod yX8_fails, Cond.selects RX8 yX8_fails yX8_fails, Cond.code yX8_fails cX8_fails 2 (some .int), Cond.methodLink RX8 204 yX6_renew, Cond.instanceMethod yX6_renew, Cond.selects RX6 yX6_renew yX6_renew, Cond.initialized RX6, Cond.code yX6_renew cX6_renew 3 none, Cond.fieldLink RX6 9 "AddedCries$Sheet" "cells" "[I", Cond.fieldLink RX6 15 "AddedCries$Sheet" "size" "I", Cond.fieldLink RX6 19 "AddedCries$Sheet" "sort" "I", Cond.methodLink RX6 22 yJ7_fill_53178, Cond.static yJ7_fill_53178, Cond.initialized RJ7, Cond.code yJ7_fill_53178 cJ7_fill_53178 4 none, Cond.methodLink RL 25 yL_with, Cond.static yL_with, Cond.code yL_with cL_with 6 (some .long), Cond.methodLink RL 29 yX8_put, Cond.instanceMethod yX8_put, Cond.selects RX8 yX8_put yX8_put, Cond.code yX8_put cX8_put 5 (some .int), Cond.methodLink RX8 207 yX6_isNothing, Cond.instanceMethod yX6_isNothing]
def wsL_put_r3 : List Cond := [Cond.selects RX6 yX6_isNothing yX6_isNothing, Cond.code yX6_isNothing cX6_isNothing 1 (some .boolean), Cond.methodLink RX8 97 yX6_hasCells, Cond.instanceMethod yX6_hasCells, Cond.selects RX6 yX6_hasCells yX6_hasCells, Cond.code yX6_hasCells cX6_hasCells 3 (some .boolean), Cond.methodLink RX8 213 yX6_write, Cond.instanceMethod yX6_write, Cond.selects RX6 yX6_write yX6_write, Cond.code yX6_write cX6_write 3 none, Cond.methodLink RX6 28 yX6_hasCells, Cond.methodLink RX6 32 yX6_cut, Cond.instanceMethod yX6_cut, Cond.selects RX6 yX6_cut yX6_cut, Cond.code yX6_cut cX6_cut 2 (some .int), Cond.methodLink RL 32 yL_word, Cond.static yL_word, Cond.code yL_word cL_word 3 (some .int), Cond.constantLong RL 36 (7)]
def wsL_put : List Cond := .code yL_put cL_put 15 (some .int) :: ((wsL_put_r1 ++ (wsL_put_r2 ++ wsL_put_r3)) ++ wsX80 ++ wsX60)
def wsL_kinds : List Cond := .code yL_kinds cL_kinds 6 (some .boolean) :: ([.methodLink RL 15 yL_some, .static yL_some, .initialized RL, .code yL_some cL_some 2 (some .int), .constant RL 8 (2147483647), .methodLink RL 38 yX8_kind, .instanceMethod yX8_kind, .selects RX8 yX8_kind yX8_kind, .initialized RX8, .code yX8_kind cX8_kind 4 (some .int), .fieldLink RX8 11 "AddedCries" "kinds" "[I", .methodLink RX8 109 yX8_isWord, .static yX8_isWord, .code yX8_isWord cX8_isWord 1 (some .boolean), .methodLink RX8 112 yX8_isKind, .static yX8_isKind, .code yX8_isKind cX8_isKind 1 (some .boolean)] ++ wsX80)
def wsL_within : List Cond := .code yL_within cL_within 8 (some .boolean) :: ([.methodLink RL 32 yL_word, .static yL_word, .initialized RL, .code yL_word cL_word 3 (some .int), .constantLong RL 36 (7)])
def wsL_part : List Cond := .code yL_part cL_part 8 (some .long) :: ([.methodLink RL 32 yL_word, .static yL_word, .initialized RL, .code yL_word cL_word 3 (some .int), .constantLong RL 36 (7)])
def wsL_size : List Cond := .code yL_size cL_size 3 (some .int) :: ([])
def wsL_said : List Cond := .code yL_said cL_said 9 (some .int) :: ([.methodLink RL 32 yL_word, .static yL_word, .initialized RL, .code yL_word cL_word 3 (some .int), .constantLong RL 36 (7)])
