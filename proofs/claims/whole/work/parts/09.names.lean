/-! names, fields, the words of the tables (printed by gen/names.py) -/
def R_CI : String := "CurveIndex"
def R_Row : String := "CurveIndex$Row"
def R_Fr : String := "CurveIndex$Frame"
def R_RW : String := "CurveIndex$RunWalk"
def R_Mo : String := "CurveIndexModel"
def R_Law : String := "CurveIndexLaw"
def F_CI : u_T := fun k => match k with
  | 0 => (R_CI, "weaveRow", "LCurveIndex$Row;", true)
  | 1 => (R_CI, "turnRow", "LCurveIndex$Row;", true)
  | 2 => (R_CI, "levels", "I", false)
  | _ => (R_CI, "frame", "LCurveIndex$Frame;", false)
def t_CI : Nat → FieldType := fun k => match k with
  | 0 => .object "CurveIndex$Row"
  | 1 => .object "CurveIndex$Row"
  | 2 => .int
  | _ => .object "CurveIndex$Frame"
theorem n_CI : ∀ a, a < 4 → ∀ b, b < 4 → a ≠ b → (F_CI a).2.1 ≠ (F_CI b).2.1 := by decide +kernel
theorem t_CI_ok : ∀ k, k < 4 → parseFieldDescriptor (F_CI k).2.2.1 = some (t_CI k) := by decide +kernel
def F_Row : u_T := fun k => match k with
  | 0 => (R_Row, "keys", "[I", true)
  | 1 => (R_Row, "cells", "[I", true)
  | 2 => (R_Row, "weights", "[I", true)
  | _ => (R_Row, "size", "I", false)
def t_Row : Nat → FieldType := fun k => match k with
  | 0 => .array .int
  | 1 => .array .int
  | 2 => .array .int
  | _ => .int
theorem n_Row : ∀ a, a < 4 → ∀ b, b < 4 → a ≠ b → (F_Row a).2.1 ≠ (F_Row b).2.1 := by decide +kernel
theorem t_Row_ok : ∀ k, k < 4 → parseFieldDescriptor (F_Row k).2.2.1 = some (t_Row k) := by decide +kernel
def F_Fr : u_T := fun k => match k with
  | 0 => (R_Fr, "x0", "I", true)
  | 1 => (R_Fr, "y0", "I", true)
  | 2 => (R_Fr, "x1", "I", true)
  | _ => (R_Fr, "y1", "I", true)
def t_Fr : Nat → FieldType := fun k => match k with
  | 0 => .int
  | 1 => .int
  | 2 => .int
  | _ => .int
theorem n_Fr : ∀ a, a < 4 → ∀ b, b < 4 → a ≠ b → (F_Fr a).2.1 ≠ (F_Fr b).2.1 := by decide +kernel
theorem t_Fr_ok : ∀ k, k < 4 → parseFieldDescriptor (F_Fr k).2.2.1 = some (t_Fr k) := by decide +kernel
def F_RW : u_T := fun k => match k with
  | 0 => (R_RW, "frame", "LCurveIndex$Frame;", true)
  | 1 => (R_RW, "wanted", "I", true)
  | 2 => (R_RW, "count", "I", false)
  | 3 => (R_RW, "lastKey", "I", false)
  | 4 => (R_RW, "wantedFirst", "I", false)
  | _ => (R_RW, "wantedLast", "I", false)
def t_RW : Nat → FieldType := fun k => match k with
  | 0 => .object "CurveIndex$Frame"
  | 1 => .int
  | 2 => .int
  | 3 => .int
  | 4 => .int
  | _ => .int
theorem n_RW : ∀ a, a < 6 → ∀ b, b < 6 → a ≠ b → (F_RW a).2.1 ≠ (F_RW b).2.1 := by decide +kernel
theorem t_RW_ok : ∀ k, k < 6 → parseFieldDescriptor (F_RW k).2.2.1 = some (t_RW k) := by decide +kernel
def F_Mo : u_T := fun k => match k with
  | 0 => (R_Mo, "n", "I", false)
  | 1 => (R_Mo, "count", "I", false)
  | 2 => (R_Mo, "cells", "[I", true)
  | 3 => (R_Mo, "weights", "[I", true)
  | 4 => (R_Mo, "left", "I", false)
  | 5 => (R_Mo, "low", "I", false)
  | 6 => (R_Mo, "right", "I", false)
  | 7 => (R_Mo, "high", "I", false)
  | 8 => (R_Mo, "keys", "[I", true)
  | _ => (R_Mo, "other", "[I", true)
def t_Mo : Nat → FieldType := fun k => match k with
  | 0 => .int
  | 1 => .int
  | 2 => .array .int
  | 3 => .array .int
  | 4 => .int
  | 5 => .int
  | 6 => .int
  | 7 => .int
  | 8 => .array .int
  | _ => .array .int
theorem n_Mo : ∀ a, a < 10 → ∀ b, b < 10 → a ≠ b → (F_Mo a).2.1 ≠ (F_Mo b).2.1 := by decide +kernel
theorem t_Mo_ok : ∀ k, k < 10 → parseFieldDescriptor (F_Mo k).2.2.1 = some (t_Mo k) := by decide +kernel
abbrev cls : List vw_C := [(R_CI, F_CI, 4), (R_Row, F_Row, 4), (R_Fr, F_Fr, 4), (R_RW, F_RW, 6), (R_Mo, F_Mo, 10)]
abbrev b_CI_init : ByteArray := prog_1_method_1_code
def y_CI_init : MethodName := ⟨R_CI, "<init>", "()V"⟩
abbrev b_Row_init : ByteArray := prog_3_method_1_code
def y_Row_init : MethodName := ⟨R_Row, "<init>", "()V"⟩
abbrev b_Fr_init : ByteArray := prog_2_method_1_code
def y_Fr_init : MethodName := ⟨R_Fr, "<init>", "(IIII)V"⟩
abbrev b_CI_begin : ByteArray := prog_1_method_2_code
def y_CI_begin : MethodName := ⟨R_CI, "begin", "(I)Z"⟩
abbrev b_Row_clear : ByteArray := prog_3_method_2_code
def y_Row_clear : MethodName := ⟨R_Row, "clear", "()V"⟩
abbrev b_CI_key : ByteArray := prog_1_method_3_code
def y_CI_key : MethodName := ⟨R_CI, "key", "(III)I"⟩
abbrev b_CI_isCurve : ByteArray := prog_1_method_16_code
def y_CI_isCurve : MethodName := ⟨R_CI, "isCurve", "(I)Z"⟩
abbrev b_CI_isCell : ByteArray := prog_1_method_17_code
def y_CI_isCell : MethodName := ⟨R_CI, "isCell", "(II)Z"⟩
abbrev b_CI_keyOf : ByteArray := prog_1_method_25_code
def y_CI_keyOf : MethodName := ⟨R_CI, "keyOf", "(III)I"⟩
abbrev b_CI_firstState : ByteArray := prog_1_method_24_code
def y_CI_firstState : MethodName := ⟨R_CI, "firstState", "(I)I"⟩
abbrev b_CI_cell : ByteArray := prog_1_method_4_code
def y_CI_cell : MethodName := ⟨R_CI, "cell", "(II)I"⟩
abbrev b_CI_isKey : ByteArray := prog_1_method_18_code
def y_CI_isKey : MethodName := ⟨R_CI, "isKey", "(I)Z"⟩
abbrev b_CI_cellOf : ByteArray := prog_1_method_26_code
def y_CI_cellOf : MethodName := ⟨R_CI, "cellOf", "(II)I"⟩
abbrev b_CI_cellNumber : ByteArray := prog_1_method_19_code
def y_CI_cellNumber : MethodName := ⟨R_CI, "cellNumber", "(II)I"⟩
abbrev b_CI_put : ByteArray := prog_1_method_5_code
def y_CI_put : MethodName := ⟨R_CI, "put", "(III)I"⟩
abbrev b_Row_weightOf : ByteArray := prog_3_method_6_code
def y_Row_weightOf : MethodName := ⟨R_Row, "weightOf", "(I)I"⟩
abbrev b_Row_placeOf : ByteArray := prog_3_method_4_code
def y_Row_placeOf : MethodName := ⟨R_Row, "placeOf", "(I)I"⟩
abbrev b_Row_isKeyAt : ByteArray := prog_3_method_5_code
def y_Row_isKeyAt : MethodName := ⟨R_Row, "isKeyAt", "(II)Z"⟩
abbrev b_Row_isFull : ByteArray := prog_3_method_3_code
def y_Row_isFull : MethodName := ⟨R_Row, "isFull", "()Z"⟩
abbrev b_Row_keep : ByteArray := prog_3_method_7_code
def y_Row_keep : MethodName := ⟨R_Row, "keep", "(III)V"⟩
abbrev b_Row_moveTail : ByteArray := prog_3_method_9_code
def y_Row_moveTail : MethodName := ⟨R_Row, "moveTail", "(II)V"⟩
abbrev b_CI_take : ByteArray := prog_1_method_6_code
def y_CI_take : MethodName := ⟨R_CI, "take", "(II)I"⟩
abbrev b_Row_drop : ByteArray := prog_3_method_8_code
def y_Row_drop : MethodName := ⟨R_Row, "drop", "(I)V"⟩
abbrev b_CI_at : ByteArray := prog_1_method_7_code
def y_CI_at : MethodName := ⟨R_CI, "at", "(II)I"⟩
abbrev b_CI_many : ByteArray := prog_1_method_8_code
def y_CI_many : MethodName := ⟨R_CI, "many", "()I"⟩
abbrev b_CI_window : ByteArray := prog_1_method_9_code
def y_CI_window : MethodName := ⟨R_CI, "window", "(IIII)Z"⟩
abbrev b_CI_inside : ByteArray := prog_1_method_10_code
def y_CI_inside : MethodName := ⟨R_CI, "inside", "()I"⟩
abbrev b_CI_isInFrame : ByteArray := prog_1_method_22_code
def y_CI_isInFrame : MethodName := ⟨R_CI, "isInFrame", "(I)Z"⟩
abbrev b_CI_xOf : ByteArray := prog_1_method_20_code
def y_CI_xOf : MethodName := ⟨R_CI, "xOf", "(I)I"⟩
abbrev b_CI_yOf : ByteArray := prog_1_method_21_code
def y_CI_yOf : MethodName := ⟨R_CI, "yOf", "(I)I"⟩
abbrev b_Fr_holds : ByteArray := prog_2_method_2_code
def y_Fr_holds : MethodName := ⟨R_Fr, "holds", "(II)Z"⟩
abbrev b_CI_sum : ByteArray := prog_1_method_11_code
def y_CI_sum : MethodName := ⟨R_CI, "sum", "()I"⟩
abbrev b_CI_nth : ByteArray := prog_1_method_12_code
def y_CI_nth : MethodName := ⟨R_CI, "nth", "(II)I"⟩
abbrev b_CI_runs : ByteArray := prog_1_method_13_code
def y_CI_runs : MethodName := ⟨R_CI, "runs", "(I)I"⟩
abbrev b_CI_hasRuns : ByteArray := prog_1_method_27_code
def y_CI_hasRuns : MethodName := ⟨R_CI, "hasRuns", "(I)Z"⟩
abbrev b_Fr_cellCount : ByteArray := prog_2_method_5_code
def y_Fr_cellCount : MethodName := ⟨R_Fr, "cellCount", "()I"⟩
abbrev b_CI_walkRuns : ByteArray := prog_1_method_28_code
def y_CI_walkRuns : MethodName := ⟨R_CI, "walkRuns", "(II)LCurveIndex$RunWalk;"⟩
abbrev b_RW_init : ByteArray := prog_4_method_1_code
def y_RW_init : MethodName := ⟨R_RW, "<init>", "(LCurveIndex$Frame;I)V"⟩
abbrev b_RW_visit : ByteArray := prog_4_method_2_code
def y_RW_visit : MethodName := ⟨R_RW, "visit", "(LCurveIndex$RunWalk;IIIII)V"⟩
abbrev b_Fr_missesSquare : ByteArray := prog_2_method_4_code
def y_Fr_missesSquare : MethodName := ⟨R_Fr, "missesSquare", "(III)Z"⟩
abbrev b_Fr_holdsSquare : ByteArray := prog_2_method_3_code
def y_Fr_holdsSquare : MethodName := ⟨R_Fr, "holdsSquare", "(III)Z"⟩
abbrev b_RW_join : ByteArray := prog_4_method_3_code
def y_RW_join : MethodName := ⟨R_RW, "join", "(II)V"⟩
abbrev b_CI_run : ByteArray := prog_1_method_14_code
def y_CI_run : MethodName := ⟨R_CI, "run", "(III)I"⟩
abbrev b_CI_nearest : ByteArray := prog_1_method_15_code
def y_CI_nearest : MethodName := ⟨R_CI, "nearest", "(II)I"⟩
abbrev b_CI_squaredDistance : ByteArray := prog_1_method_23_code
def y_CI_squaredDistance : MethodName := ⟨R_CI, "squaredDistance", "(III)J"⟩
abbrev b_Mo_init : ByteArray := prog_6_method_1_code
def y_Mo_init : MethodName := ⟨R_Mo, "<init>", "()V"⟩
abbrev b_Mo_begin : ByteArray := prog_6_method_5_code
def y_Mo_begin : MethodName := ⟨R_Mo, "begin", "(I)Z"⟩
abbrev b_Mo_key : ByteArray := prog_6_method_9_code
def y_Mo_key : MethodName := ⟨R_Mo, "key", "(III)I"⟩
abbrev b_Mo_isCurve : ByteArray := prog_6_method_8_code
def y_Mo_isCurve : MethodName := ⟨R_Mo, "isCurve", "(I)Z"⟩
abbrev b_Mo_isCell : ByteArray := prog_6_method_4_code
def y_Mo_isCell : MethodName := ⟨R_Mo, "isCell", "(II)Z"⟩
abbrev b_Mo_side : ByteArray := prog_6_method_3_code
def y_Mo_side : MethodName := ⟨R_Mo, "side", "()I"⟩
abbrev b_Mo_keyOf : ByteArray := prog_6_method_6_code
def y_Mo_keyOf : MethodName := ⟨R_Mo, "keyOf", "(III)I"⟩
abbrev b_Mo_cell : ByteArray := prog_6_method_10_code
def y_Mo_cell : MethodName := ⟨R_Mo, "cell", "(II)I"⟩
abbrev b_Mo_cellOf : ByteArray := prog_6_method_7_code
def y_Mo_cellOf : MethodName := ⟨R_Mo, "cellOf", "(II)I"⟩
abbrev b_Mo_put : ByteArray := prog_6_method_12_code
def y_Mo_put : MethodName := ⟨R_Mo, "put", "(III)I"⟩
abbrev b_Mo_find : ByteArray := prog_6_method_11_code
def y_Mo_find : MethodName := ⟨R_Mo, "find", "(I)I"⟩
abbrev b_Mo_take : ByteArray := prog_6_method_13_code
def y_Mo_take : MethodName := ⟨R_Mo, "take", "(II)I"⟩
abbrev b_Mo_at : ByteArray := prog_6_method_14_code
def y_Mo_at : MethodName := ⟨R_Mo, "at", "(II)I"⟩
abbrev b_Mo_many : ByteArray := prog_6_method_15_code
def y_Mo_many : MethodName := ⟨R_Mo, "many", "()I"⟩
abbrev b_Mo_window : ByteArray := prog_6_method_16_code
def y_Mo_window : MethodName := ⟨R_Mo, "window", "(IIII)Z"⟩
abbrev b_Mo_inside : ByteArray := prog_6_method_18_code
def y_Mo_inside : MethodName := ⟨R_Mo, "inside", "()I"⟩
abbrev b_Mo_isInside : ByteArray := prog_6_method_17_code
def y_Mo_isInside : MethodName := ⟨R_Mo, "isInside", "(I)Z"⟩
abbrev b_Mo_sum : ByteArray := prog_6_method_19_code
def y_Mo_sum : MethodName := ⟨R_Mo, "sum", "()I"⟩
abbrev b_Mo_nth : ByteArray := prog_6_method_21_code
def y_Mo_nth : MethodName := ⟨R_Mo, "nth", "(II)I"⟩
abbrev b_Mo_keyAt : ByteArray := prog_6_method_20_code
def y_Mo_keyAt : MethodName := ⟨R_Mo, "keyAt", "(II)I"⟩
abbrev b_Mo_runs : ByteArray := prog_6_method_23_code
def y_Mo_runs : MethodName := ⟨R_Mo, "runs", "(I)I"⟩
abbrev b_Mo_sort : ByteArray := prog_6_method_22_code
def y_Mo_sort : MethodName := ⟨R_Mo, "sort", "(I)I"⟩
abbrev b_Mo_run : ByteArray := prog_6_method_24_code
def y_Mo_run : MethodName := ⟨R_Mo, "run", "(III)I"⟩
abbrev b_Mo_nearest : ByteArray := prog_6_method_25_code
def y_Mo_nearest : MethodName := ⟨R_Mo, "nearest", "(II)I"⟩
def wg_0 : List Cond := [Cond.selects y_Row_clear.cls y_Row_clear y_Row_clear, Cond.selects y_CI_isCell.cls y_CI_isCell y_CI_isCell, Cond.selects y_CI_keyOf.cls y_CI_keyOf y_CI_keyOf, Cond.selects y_CI_isKey.cls y_CI_isKey y_CI_isKey, Cond.selects y_CI_cellOf.cls y_CI_cellOf y_CI_cellOf, Cond.selects y_CI_cellNumber.cls y_CI_cellNumber y_CI_cellNumber, Cond.selects y_Row_weightOf.cls y_Row_weightOf y_Row_weightOf, Cond.selects y_Row_placeOf.cls y_Row_placeOf y_Row_placeOf, Cond.selects y_Row_isKeyAt.cls y_Row_isKeyAt y_Row_isKeyAt, Cond.selects y_Row_isFull.cls y_Row_isFull y_Row_isFull, Cond.selects y_Row_keep.cls y_Row_keep y_Row_keep, Cond.selects y_Row_moveTail.cls y_Row_moveTail y_Row_moveTail, Cond.selects y_Row_drop.cls y_Row_drop y_Row_drop, Cond.selects y_CI_isInFrame.cls y_CI_isInFrame y_CI_isInFrame, Cond.selects y_CI_xOf.cls y_CI_xOf y_CI_xOf, Cond.selects y_CI_yOf.cls y_CI_yOf y_CI_yOf, Cond.selects y_Fr_holds.cls y_Fr_holds y_Fr_holds, Cond.selects y_CI_hasRuns.cls y_CI_hasRuns y_CI_hasRuns, Cond.selects y_Fr_cellCount.cls y_Fr_cellCount y_Fr_cellCount, Cond.selects y_CI_walkRuns.cls y_CI_walkRuns y_CI_walkRuns, Cond.selects y_Fr_missesSquare.cls y_Fr_missesSquare y_Fr_missesSquare, Cond.selects y_Fr_holdsSquare.cls y_Fr_holdsSquare y_Fr_holdsSquare, Cond.selects y_RW_join.cls y_RW_join y_RW_join, Cond.selects y_CI_squaredDistance.cls y_CI_squaredDistance y_CI_squaredDistance, Cond.selects y_Mo_isCell.cls y_Mo_isCell y_Mo_isCell, Cond.selects y_Mo_side.cls y_Mo_side y_Mo_side, Cond.selects y_Mo_keyOf.cls y_Mo_keyOf y_Mo_keyOf, Cond.selects y_Mo_cellOf.cls y_Mo_cellOf y_Mo_cellOf, Cond.selects y_Mo_find.cls y_Mo_find y_Mo_find, Cond.selects y_Mo_isInside.cls y_Mo_isInside y_Mo_isInside, Cond.selects y_Mo_keyAt.cls y_Mo_keyAt y_Mo_keyAt, Cond.selects y_Mo_sort.cls y_Mo_sort y_Mo_sort, Cond.initialized R_Law, Cond.initialized R_CI, Cond.initialized R_Row, Cond.initialized R_Fr, Cond.initialized R_Mo, Cond.initialized "java/lang/System", Cond.initialized R_RW, Cond.classLink R_Law 7 R_CI]
def wg_1 : List Cond := [Cond.instantiable R_CI 4, Cond.methodLink R_Law 9 y_CI_init, Cond.instanceMethod y_CI_init, Cond.code y_CI_init b_CI_init 1 none, Cond.methodLink R_CI 1 objectInit, Cond.instanceMethod objectInit, Cond.code objectInit ⟨#[0xb1]⟩ 1 none, Cond.classLink R_CI 7 R_Row, Cond.instantiable R_Row 4, Cond.instanceMethod y_Row_init, Cond.code y_Row_init b_Row_init 1 none, Cond.methodLink R_Row 3 objectInit, Cond.fieldLink R_Row 9 R_Row "keys" "[I", Cond.fieldLink R_Row 15 R_Row "cells" "[I", Cond.fieldLink R_Row 18 R_Row "weights" "[I", Cond.fieldLink R_Row 21 R_Row "size" "I", Cond.laysFinal R_Row R_Row "keys" "[I", Cond.laysFinal R_Row R_Row "cells" "[I", Cond.laysFinal R_Row R_Row "weights" "[I", Cond.lays R_Row R_Row "size" "I", Cond.arrayClass .int, Cond.classLink R_CI 23 R_Fr, Cond.instantiable R_Fr 4, Cond.instanceMethod y_Fr_init, Cond.code y_Fr_init b_Fr_init 5 none, Cond.methodLink R_Fr 1 objectInit, Cond.fieldLink R_Fr 7 R_Fr "x0" "I", Cond.fieldLink R_Fr 13 R_Fr "y0" "I", Cond.fieldLink R_Fr 16 R_Fr "x1" "I", Cond.fieldLink R_Fr 19 R_Fr "y1" "I", Cond.laysFinal R_Fr R_Fr "x0" "I", Cond.laysFinal R_Fr R_Fr "y0" "I", Cond.laysFinal R_Fr R_Fr "x1" "I", Cond.laysFinal R_Fr R_Fr "y1" "I", Cond.fieldLink R_CI 10 R_CI "weaveRow" "LCurveIndex$Row;", Cond.fieldLink R_CI 16 R_CI "turnRow" "LCurveIndex$Row;", Cond.fieldLink R_CI 19 R_CI "levels" "I", Cond.fieldLink R_CI 28 R_CI "frame" "LCurveIndex$Frame;", Cond.laysFinal R_CI R_CI "weaveRow" "LCurveIndex$Row;", Cond.laysFinal R_CI R_CI "turnRow" "LCurveIndex$Row;"]
def wg_2 : List Cond := [Cond.lays R_CI R_CI "levels" "I", Cond.lays R_CI R_CI "frame" "LCurveIndex$Frame;", Cond.methodLink R_Law 13 y_CI_begin, Cond.instanceMethod y_CI_begin, Cond.selects y_CI_begin.cls y_CI_begin y_CI_begin, Cond.code y_CI_begin b_CI_begin 2 (some .boolean), Cond.instanceMethod y_Row_clear, Cond.code y_Row_clear b_Row_clear 1 none, Cond.methodLink R_Law 18 y_CI_key, Cond.instanceMethod y_CI_key, Cond.selects y_CI_key.cls y_CI_key y_CI_key, Cond.code y_CI_key b_CI_key 4 (some .int), Cond.methodLink R_CI 35 y_CI_isCurve, Cond.static y_CI_isCurve, Cond.code y_CI_isCurve b_CI_isCurve 1 (some .boolean), Cond.methodLink R_CI 39 y_CI_isCell, Cond.instanceMethod y_CI_isCell, Cond.code y_CI_isCell b_CI_isCell 4 (some .boolean), Cond.methodLink R_CI 43 y_CI_keyOf, Cond.instanceMethod y_CI_keyOf, Cond.code y_CI_keyOf b_CI_keyOf 9 (some .int), Cond.methodLink R_CI 117 y_CI_firstState, Cond.static y_CI_firstState, Cond.code y_CI_firstState b_CI_firstState 1 (some .int), Cond.fieldLink R_CI 120 R_CI "STEP_OF_QUARTER" "[I", Cond.fieldLink R_CI 123 R_CI "STATE_AFTER_STEP" "[I", Cond.methodLink R_Law 23 y_CI_cell, Cond.instanceMethod y_CI_cell, Cond.selects y_CI_cell.cls y_CI_cell y_CI_cell, Cond.code y_CI_cell b_CI_cell 3 (some .int), Cond.methodLink R_CI 47 y_CI_isKey, Cond.instanceMethod y_CI_isKey, Cond.code y_CI_isKey b_CI_isKey 2 (some .boolean), Cond.methodLink R_CI 50 y_CI_cellOf, Cond.instanceMethod y_CI_cellOf, Cond.code y_CI_cellOf b_CI_cellOf 9 (some .int), Cond.fieldLink R_CI 126 R_CI "QUARTER_OF_STEP" "[I", Cond.methodLink R_CI 62 y_CI_cellNumber, Cond.instanceMethod y_CI_cellNumber, Cond.code y_CI_cellNumber b_CI_cellNumber 3 (some .int)]
def wg_3 : List Cond := [Cond.methodLink R_Law 28 y_CI_put, Cond.instanceMethod y_CI_put, Cond.selects y_CI_put.cls y_CI_put y_CI_put, Cond.code y_CI_put b_CI_put 7 (some .int), Cond.instanceMethod y_Row_weightOf, Cond.code y_Row_weightOf b_Row_weightOf 3 (some .int), Cond.methodLink R_Row 25 y_Row_placeOf, Cond.instanceMethod y_Row_placeOf, Cond.code y_Row_placeOf b_Row_placeOf 3 (some .int), Cond.methodLink R_Row 29 y_Row_isKeyAt, Cond.instanceMethod y_Row_isKeyAt, Cond.code y_Row_isKeyAt b_Row_isKeyAt 3 (some .boolean), Cond.instanceMethod y_Row_isFull, Cond.code y_Row_isFull b_Row_isFull 1 (some .boolean), Cond.instanceMethod y_Row_keep, Cond.code y_Row_keep b_Row_keep 5 none, Cond.methodLink R_Row 33 y_Row_isFull, Cond.methodLink R_Row 37 y_Row_moveTail, Cond.instanceMethod y_Row_moveTail, Cond.code y_Row_moveTail b_Row_moveTail 4 none, Cond.methodLink R_Row 41 arraycopyName, Cond.static arraycopyName, Cond.native arraycopyName, Cond.methodLink R_Law 32 y_CI_take, Cond.instanceMethod y_CI_take, Cond.selects y_CI_take.cls y_CI_take y_CI_take, Cond.code y_CI_take b_CI_take 5 (some .int), Cond.instanceMethod y_Row_drop, Cond.code y_Row_drop b_Row_drop 3 none, Cond.methodLink R_Law 36 y_CI_at, Cond.instanceMethod y_CI_at, Cond.selects y_CI_at.cls y_CI_at y_CI_at, Cond.code y_CI_at b_CI_at 3 (some .int), Cond.methodLink R_Law 40 y_CI_many, Cond.instanceMethod y_CI_many, Cond.selects y_CI_many.cls y_CI_many y_CI_many, Cond.code y_CI_many b_CI_many 1 (some .int), Cond.methodLink R_Law 45 y_CI_window, Cond.instanceMethod y_CI_window, Cond.selects y_CI_window.cls y_CI_window y_CI_window]
def wg_4 : List Cond := [Cond.code y_CI_window b_CI_window 5 (some .boolean), Cond.methodLink R_Law 50 y_CI_inside, Cond.instanceMethod y_CI_inside, Cond.selects y_CI_inside.cls y_CI_inside y_CI_inside, Cond.code y_CI_inside b_CI_inside 3 (some .int), Cond.methodLink R_CI 80 y_CI_isInFrame, Cond.instanceMethod y_CI_isInFrame, Cond.code y_CI_isInFrame b_CI_isInFrame 2 (some .boolean), Cond.methodLink R_CI 108 y_CI_xOf, Cond.instanceMethod y_CI_xOf, Cond.code y_CI_xOf b_CI_xOf 2 (some .int), Cond.methodLink R_CI 111 y_CI_yOf, Cond.instanceMethod y_CI_yOf, Cond.code y_CI_yOf b_CI_yOf 2 (some .int), Cond.instanceMethod y_Fr_holds, Cond.code y_Fr_holds b_Fr_holds 3 (some .boolean), Cond.methodLink R_Law 54 y_CI_sum, Cond.instanceMethod y_CI_sum, Cond.selects y_CI_sum.cls y_CI_sum y_CI_sum, Cond.code y_CI_sum b_CI_sum 3 (some .int), Cond.methodLink R_Law 58 y_CI_nth, Cond.instanceMethod y_CI_nth, Cond.selects y_CI_nth.cls y_CI_nth y_CI_nth, Cond.code y_CI_nth b_CI_nth 7 (some .int), Cond.methodLink R_Law 62 y_CI_runs, Cond.instanceMethod y_CI_runs, Cond.selects y_CI_runs.cls y_CI_runs y_CI_runs, Cond.code y_CI_runs b_CI_runs 2 (some .int), Cond.methodLink R_CI 86 y_CI_hasRuns, Cond.instanceMethod y_CI_hasRuns, Cond.code y_CI_hasRuns b_CI_hasRuns 2 (some .boolean), Cond.instanceMethod y_Fr_cellCount, Cond.code y_Fr_cellCount b_Fr_cellCount 1 (some .int), Cond.methodLink R_CI 89 y_CI_walkRuns, Cond.instanceMethod y_CI_walkRuns, Cond.code y_CI_walkRuns b_CI_walkRuns 4 (some (.object "CurveIndex$RunWalk")), Cond.classLink R_CI 94 R_RW, Cond.instantiable R_RW 6, Cond.instanceMethod y_RW_init, Cond.code y_RW_init b_RW_init 3 none]
def wg_5 : List Cond := [Cond.methodLink R_RW 3 objectInit, Cond.fieldLink R_RW 24 R_RW "frame" "LCurveIndex$Frame;", Cond.fieldLink R_RW 28 R_RW "wanted" "I", Cond.fieldLink R_RW 9 R_RW "count" "I", Cond.fieldLink R_RW 15 R_RW "lastKey" "I", Cond.fieldLink R_RW 18 R_RW "wantedFirst" "I", Cond.fieldLink R_RW 21 R_RW "wantedLast" "I", Cond.laysFinal R_RW R_RW "frame" "LCurveIndex$Frame;", Cond.laysFinal R_RW R_RW "wanted" "I", Cond.lays R_RW R_RW "count" "I", Cond.lays R_RW R_RW "lastKey" "I", Cond.lays R_RW R_RW "wantedFirst" "I", Cond.lays R_RW R_RW "wantedLast" "I", Cond.static y_RW_visit, Cond.code y_RW_visit b_RW_visit 9 none, Cond.instanceMethod y_Fr_missesSquare, Cond.code y_Fr_missesSquare b_Fr_missesSquare 4 (some .boolean), Cond.instanceMethod y_Fr_holdsSquare, Cond.code y_Fr_holdsSquare b_Fr_holdsSquare 4 (some .boolean), Cond.methodLink R_Fr 22 y_Fr_holds, Cond.methodLink R_RW 40 y_RW_join, Cond.instanceMethod y_RW_join, Cond.code y_RW_join b_RW_join 3 none, Cond.methodLink R_RW 51 y_RW_visit, Cond.methodLink R_Law 67 y_CI_run, Cond.instanceMethod y_CI_run, Cond.selects y_CI_run.cls y_CI_run y_CI_run, Cond.code y_CI_run b_CI_run 5 (some .int), Cond.methodLink R_Law 71 y_CI_nearest, Cond.instanceMethod y_CI_nearest, Cond.selects y_CI_nearest.cls y_CI_nearest y_CI_nearest, Cond.code y_CI_nearest b_CI_nearest 10 (some .int), Cond.methodLink R_CI 104 y_CI_squaredDistance, Cond.instanceMethod y_CI_squaredDistance, Cond.code y_CI_squaredDistance b_CI_squaredDistance 8 (some .long), Cond.classLink R_Law 10 R_Mo, Cond.instantiable R_Mo 10, Cond.methodLink R_Law 12 y_Mo_init, Cond.instanceMethod y_Mo_init, Cond.code y_Mo_init b_Mo_init 1 none]
def wg_6 : List Cond := [Cond.methodLink R_Mo 1 objectInit, Cond.fieldLink R_Mo 7 R_Mo "n" "I", Cond.fieldLink R_Mo 30 R_Mo "count" "I", Cond.fieldLink R_Mo 13 R_Mo "cells" "[I", Cond.fieldLink R_Mo 17 R_Mo "weights" "[I", Cond.fieldLink R_Mo 33 R_Mo "left" "I", Cond.fieldLink R_Mo 36 R_Mo "low" "I", Cond.fieldLink R_Mo 39 R_Mo "right" "I", Cond.fieldLink R_Mo 42 R_Mo "high" "I", Cond.fieldLink R_Mo 20 R_Mo "keys" "[I", Cond.fieldLink R_Mo 23 R_Mo "other" "[I", Cond.lays R_Mo R_Mo "n" "I", Cond.lays R_Mo R_Mo "count" "I", Cond.laysFinal R_Mo R_Mo "cells" "[I", Cond.laysFinal R_Mo R_Mo "weights" "[I", Cond.lays R_Mo R_Mo "left" "I", Cond.lays R_Mo R_Mo "low" "I", Cond.lays R_Mo R_Mo "right" "I", Cond.lays R_Mo R_Mo "high" "I", Cond.laysFinal R_Mo R_Mo "keys" "[I", Cond.laysFinal R_Mo R_Mo "other" "[I", Cond.methodLink R_Law 17 y_Mo_begin, Cond.instanceMethod y_Mo_begin, Cond.selects y_Mo_begin.cls y_Mo_begin y_Mo_begin, Cond.code y_Mo_begin b_Mo_begin 2 (some .boolean), Cond.methodLink R_Law 22 y_Mo_key, Cond.instanceMethod y_Mo_key, Cond.selects y_Mo_key.cls y_Mo_key y_Mo_key, Cond.code y_Mo_key b_Mo_key 4 (some .int), Cond.methodLink R_Mo 45 y_Mo_isCurve, Cond.static y_Mo_isCurve, Cond.code y_Mo_isCurve b_Mo_isCurve 1 (some .boolean), Cond.methodLink R_Mo 49 y_Mo_isCell, Cond.instanceMethod y_Mo_isCell, Cond.code y_Mo_isCell b_Mo_isCell 3 (some .boolean), Cond.methodLink R_Mo 26 y_Mo_side, Cond.instanceMethod y_Mo_side, Cond.code y_Mo_side b_Mo_side 1 (some .int), Cond.methodLink R_Mo 53 y_Mo_keyOf, Cond.instanceMethod y_Mo_keyOf]
def wg_7 : List Cond := [Cond.code y_Mo_keyOf b_Mo_keyOf 9 (some .int), Cond.methodLink R_Law 27 y_Mo_cell, Cond.instanceMethod y_Mo_cell, Cond.selects y_Mo_cell.cls y_Mo_cell y_Mo_cell, Cond.code y_Mo_cell b_Mo_cell 3 (some .int), Cond.methodLink R_Mo 57 y_Mo_cellOf, Cond.instanceMethod y_Mo_cellOf, Cond.code y_Mo_cellOf b_Mo_cellOf 9 (some .int), Cond.methodLink R_Law 31 y_Mo_put, Cond.instanceMethod y_Mo_put, Cond.selects y_Mo_put.cls y_Mo_put y_Mo_put, Cond.code y_Mo_put b_Mo_put 6 (some .int), Cond.methodLink R_Mo 61 y_Mo_find, Cond.instanceMethod y_Mo_find, Cond.code y_Mo_find b_Mo_find 3 (some .int), Cond.methodLink R_Law 35 y_Mo_take, Cond.instanceMethod y_Mo_take, Cond.selects y_Mo_take.cls y_Mo_take y_Mo_take, Cond.code y_Mo_take b_Mo_take 5 (some .int), Cond.methodLink R_Law 39 y_Mo_at, Cond.instanceMethod y_Mo_at, Cond.selects y_Mo_at.cls y_Mo_at y_Mo_at, Cond.code y_Mo_at b_Mo_at 4 (some .int), Cond.methodLink R_Law 44 y_Mo_many, Cond.instanceMethod y_Mo_many, Cond.selects y_Mo_many.cls y_Mo_many y_Mo_many, Cond.code y_Mo_many b_Mo_many 1 (some .int), Cond.methodLink R_Law 49 y_Mo_window, Cond.instanceMethod y_Mo_window, Cond.selects y_Mo_window.cls y_Mo_window y_Mo_window, Cond.code y_Mo_window b_Mo_window 5 (some .boolean), Cond.methodLink R_Law 53 y_Mo_inside, Cond.instanceMethod y_Mo_inside, Cond.selects y_Mo_inside.cls y_Mo_inside y_Mo_inside, Cond.code y_Mo_inside b_Mo_inside 3 (some .int), Cond.methodLink R_Mo 65 y_Mo_isInside, Cond.instanceMethod y_Mo_isInside, Cond.code y_Mo_isInside b_Mo_isInside 4 (some .boolean), Cond.methodLink R_Law 57 y_Mo_sum, Cond.instanceMethod y_Mo_sum]
def wg_8 : List Cond := [Cond.selects y_Mo_sum.cls y_Mo_sum y_Mo_sum, Cond.code y_Mo_sum b_Mo_sum 3 (some .int), Cond.methodLink R_Law 61 y_Mo_nth, Cond.instanceMethod y_Mo_nth, Cond.selects y_Mo_nth.cls y_Mo_nth y_Mo_nth, Cond.code y_Mo_nth b_Mo_nth 7 (some .int), Cond.methodLink R_Mo 68 y_Mo_keyAt, Cond.instanceMethod y_Mo_keyAt, Cond.code y_Mo_keyAt b_Mo_keyAt 3 (some .int), Cond.methodLink R_Law 66 y_Mo_runs, Cond.instanceMethod y_Mo_runs, Cond.selects y_Mo_runs.cls y_Mo_runs y_Mo_runs, Cond.code y_Mo_runs b_Mo_runs 5 (some .int), Cond.methodLink R_Mo 73 y_Mo_sort, Cond.instanceMethod y_Mo_sort, Cond.code y_Mo_sort b_Mo_sort 13 (some .int), Cond.constantLong R_Mo 71 4096, Cond.methodLink R_Law 70 y_Mo_run, Cond.instanceMethod y_Mo_run, Cond.selects y_Mo_run.cls y_Mo_run y_Mo_run, Cond.code y_Mo_run b_Mo_run 8 (some .int), Cond.methodLink R_Law 74 y_Mo_nearest, Cond.instanceMethod y_Mo_nearest, Cond.selects y_Mo_nearest.cls y_Mo_nearest y_Mo_nearest, Cond.code y_Mo_nearest b_Mo_nearest 13 (some .int)]
def wg : List Cond := wg_0 ++ (wg_1 ++ (wg_2 ++ (wg_3 ++ (wg_4 ++ (wg_5 ++ (wg_6 ++ (wg_7 ++ (wg_8))))))))
theorem wq (i : Nat) {w : Cond} (h : wg[i]? = some w) : w ∈ wg := List.mem_of_getElem? h
set_option maxRecDepth 100000 in
theorem wg_0_in : ∀ w ∈ wg_0, w ∈ lw_tbl := fun w hw => by
  have h : wg_0 = [0, 1, 2, 3, 4, 5, 6, 7, 8, 9, 10, 11, 12, 13, 14, 15, 16, 17, 18, 19, 20, 21, 22, 23, 24, 25, 26, 27, 28, 29, 30, 31, 32, 33, 34, 35, 36, 37, 38, 39].filterMap (fun i => lw_tbl[i]?) := by decide +kernel
  rw [h] at hw
  obtain ⟨i, -, hi⟩ := List.mem_filterMap.mp hw
  exact List.mem_of_getElem? hi
theorem wg_0_good : wg_0.all goodWord = true := by decide +kernel
set_option maxRecDepth 100000 in
theorem wg_1_in : ∀ w ∈ wg_1, w ∈ lw_tbl := fun w hw => by
  have h : wg_1 = [40, 41, 42, 43, 44, 45, 46, 47, 48, 50, 51, 52, 53, 54, 56, 58, 60, 62, 64, 66, 69, 70, 71, 73, 74, 75, 76, 77, 78, 79, 80, 82, 84, 86, 89, 90, 91, 92, 93, 95].filterMap (fun i => lw_tbl[i]?) := by decide +kernel
  rw [h] at hw
  obtain ⟨i, -, hi⟩ := List.mem_filterMap.mp hw
  exact List.mem_of_getElem? hi
theorem wg_1_good : wg_1.all goodWord = true := by decide +kernel
set_option maxRecDepth 100000 in
theorem wg_2_in : ∀ w ∈ wg_2, w ∈ lw_tbl := fun w hw => by
  have h : wg_2 = [97, 99, 102, 103, 104, 105, 108, 109, 110, 111, 112, 113, 114, 115, 116, 117, 119, 120, 121, 123, 124, 125, 126, 127, 128, 130, 132, 133, 134, 135, 136, 138, 139, 140, 142, 143, 144, 146, 148, 149].filterMap (fun i => lw_tbl[i]?) := by decide +kernel
  rw [h] at hw
  obtain ⟨i, -, hi⟩ := List.mem_filterMap.mp hw
  exact List.mem_of_getElem? hi
theorem wg_2_good : wg_2.all goodWord = true := by decide +kernel
set_option maxRecDepth 100000 in
theorem wg_3_in : ∀ w ∈ wg_3, w ∈ lw_tbl := fun w hw => by
  have h : wg_3 = [150, 151, 152, 153, 156, 157, 158, 160, 161, 162, 164, 165, 168, 169, 172, 173, 174, 175, 177, 178, 179, 180, 181, 182, 183, 184, 185, 188, 189, 190, 191, 192, 193, 194, 195, 196, 197, 198, 199, 200].filterMap (fun i => lw_tbl[i]?) := by decide +kernel
  rw [h] at hw
  obtain ⟨i, -, hi⟩ := List.mem_filterMap.mp hw
  exact List.mem_of_getElem? hi
theorem wg_3_good : wg_3.all goodWord = true := by decide +kernel
set_option maxRecDepth 100000 in
theorem wg_4_in : ∀ w ∈ wg_4, w ∈ lw_tbl := fun w hw => by
  have h : wg_4 = [201, 202, 203, 204, 205, 206, 208, 209, 210, 212, 213, 214, 216, 217, 220, 221, 222, 223, 224, 225, 226, 227, 228, 229, 230, 231, 232, 233, 234, 236, 237, 240, 241, 242, 244, 245, 246, 247, 249, 250].filterMap (fun i => lw_tbl[i]?) := by decide +kernel
  rw [h] at hw
  obtain ⟨i, -, hi⟩ := List.mem_filterMap.mp hw
  exact List.mem_of_getElem? hi
theorem wg_4_good : wg_4.all goodWord = true := by decide +kernel
set_option maxRecDepth 100000 in
theorem wg_5_in : ∀ w ∈ wg_5, w ∈ lw_tbl := fun w hw => by
  have h : wg_5 = [251, 252, 253, 254, 256, 257, 259, 261, 263, 265, 267, 269, 271, 275, 276, 279, 280, 283, 284, 285, 286, 288, 289, 292, 293, 294, 295, 296, 297, 298, 299, 300, 301, 303, 304, 305, 306, 307, 308, 309].filterMap (fun i => lw_tbl[i]?) := by decide +kernel
  rw [h] at hw
  obtain ⟨i, -, hi⟩ := List.mem_filterMap.mp hw
  exact List.mem_of_getElem? hi
theorem wg_5_good : wg_5.all goodWord = true := by decide +kernel
set_option maxRecDepth 100000 in
theorem wg_6_in : ∀ w ∈ wg_6, w ∈ lw_tbl := fun w hw => by
  have h : wg_6 = [310, 311, 312, 313, 314, 315, 316, 317, 318, 319, 320, 321, 323, 325, 327, 329, 331, 333, 335, 337, 339, 342, 343, 344, 345, 346, 347, 348, 349, 350, 351, 352, 353, 355, 356, 357, 359, 360, 361, 363].filterMap (fun i => lw_tbl[i]?) := by decide +kernel
  rw [h] at hw
  obtain ⟨i, -, hi⟩ := List.mem_filterMap.mp hw
  exact List.mem_of_getElem? hi
theorem wg_6_good : wg_6.all goodWord = true := by decide +kernel
set_option maxRecDepth 100000 in
theorem wg_7_in : ∀ w ∈ wg_7, w ∈ lw_tbl := fun w hw => by
  have h : wg_7 = [364, 365, 366, 367, 368, 369, 371, 372, 373, 374, 375, 376, 377, 379, 380, 381, 382, 383, 384, 385, 386, 387, 388, 389, 390, 391, 392, 393, 394, 395, 396, 397, 398, 399, 400, 401, 403, 404, 405, 406].filterMap (fun i => lw_tbl[i]?) := by decide +kernel
  rw [h] at hw
  obtain ⟨i, -, hi⟩ := List.mem_filterMap.mp hw
  exact List.mem_of_getElem? hi
theorem wg_7_good : wg_7.all goodWord = true := by decide +kernel
set_option maxRecDepth 100000 in
theorem wg_8_in : ∀ w ∈ wg_8, w ∈ lw_tbl := fun w hw => by
  have h : wg_8 = [407, 408, 409, 410, 411, 412, 413, 415, 416, 417, 418, 419, 420, 421, 423, 424, 425, 426, 427, 428, 429, 430, 431, 432, 433].filterMap (fun i => lw_tbl[i]?) := by decide +kernel
  rw [h] at hw
  obtain ⟨i, -, hi⟩ := List.mem_filterMap.mp hw
  exact List.mem_of_getElem? hi
theorem wg_8_good : wg_8.all goodWord = true := by decide +kernel
theorem wg_in : ∀ w ∈ wg, w ∈ lw_tbl := List.forall_mem_append.mpr ⟨wg_0_in, List.forall_mem_append.mpr ⟨wg_1_in, List.forall_mem_append.mpr ⟨wg_2_in, List.forall_mem_append.mpr ⟨wg_3_in, List.forall_mem_append.mpr ⟨wg_4_in, List.forall_mem_append.mpr ⟨wg_5_in, List.forall_mem_append.mpr ⟨wg_6_in, List.forall_mem_append.mpr ⟨wg_7_in, wg_8_in⟩⟩⟩⟩⟩⟩⟩⟩
theorem wg_good : ∀ w ∈ wg, (w.onTables && w.keeps) = true ∨ ∃ ty, w = .arrayClass ty := by
  have h : ∀ w ∈ wg, goodWord w = true := List.forall_mem_append.mpr ⟨(List.all_eq_true.mp wg_0_good), List.forall_mem_append.mpr ⟨(List.all_eq_true.mp wg_1_good), List.forall_mem_append.mpr ⟨(List.all_eq_true.mp wg_2_good), List.forall_mem_append.mpr ⟨(List.all_eq_true.mp wg_3_good), List.forall_mem_append.mpr ⟨(List.all_eq_true.mp wg_4_good), List.forall_mem_append.mpr ⟨(List.all_eq_true.mp wg_5_good), List.forall_mem_append.mpr ⟨(List.all_eq_true.mp wg_6_good), List.forall_mem_append.mpr ⟨(List.all_eq_true.mp wg_7_good), (List.all_eq_true.mp wg_8_good)⟩⟩⟩⟩⟩⟩⟩⟩
  exact fun w hw => good_of_word (h w hw)
def nws : List Cond := [Cond.methodLinkNest R_CI 9 y_Row_init R_CI, Cond.fieldLinkNest R_CI 76 R_Row "cells" "[I" R_CI, Cond.fieldLinkNest R_CI 83 R_Row "weights" "[I" R_CI, Cond.fieldLinkNest R_CI 73 R_Row "size" "I" R_CI, Cond.methodLinkNest R_CI 25 y_Fr_init R_CI, Cond.methodLinkNest R_CI 32 y_Row_clear R_CI, Cond.methodLinkNest R_CI 54 y_Row_weightOf R_CI, Cond.methodLinkNest R_CI 58 y_Row_isFull R_CI, Cond.methodLinkNest R_CI 65 y_Row_keep R_CI, Cond.methodLinkNest R_CI 69 y_Row_drop R_CI, Cond.methodLinkNest R_CI 114 y_Fr_holds R_CI, Cond.methodLinkNest R_CI 129 y_Fr_cellCount R_CI, Cond.methodLinkNest R_CI 133 y_RW_init R_CI, Cond.fieldLinkNest R_CI 93 R_RW "count" "I" R_CI, Cond.fieldLinkNest R_CI 98 R_RW "wantedFirst" "I" R_CI, Cond.fieldLinkNest R_CI 101 R_RW "wantedLast" "I" R_CI, Cond.methodLinkNest R_CI 136 y_RW_visit R_CI, Cond.methodLinkNest R_RW 31 y_Fr_missesSquare R_CI, Cond.methodLinkNest R_RW 37 y_Fr_holdsSquare R_CI, Cond.fieldLinkNest R_RW 44 R_CI "QUARTER_OF_STEP" "[I" R_CI, Cond.fieldLinkNest R_RW 48 R_CI "STATE_AFTER_STEP" "[I" R_CI]
theorem nws_in : ∀ w ∈ nws, w ∈ lw_tbl := fun w hw => by
  have h : nws = [49, 55, 57, 59, 72, 106, 154, 166, 170, 186, 218, 238, 248, 255, 258, 260, 274, 277, 281, 290, 291].filterMap (fun i => lw_tbl[i]?) := by decide +kernel
  rw [h] at hw
  obtain ⟨i, -, hi⟩ := List.mem_filterMap.mp hw
  exact List.mem_of_getElem? hi
theorem nws_tab : ∀ w ∈ nws, w.onTables = true := by decide +kernel
theorem nwq (i : Nat) {w : Cond} (h : nws[i]? = some w) : w ∈ nws := List.mem_of_getElem? h
theorem nws_warm {s U : State} (hW : s.WarmedH U.vm) : ∀ w ∈ nws, va_Nw w s → va_Nw w U := by
  intro w hw h
  simp only [nws, List.mem_cons, List.not_mem_nil, or_false] at hw
  rcases hw with rfl | rfl | rfl | rfl | rfl | rfl | rfl | rfl | rfl | rfl | rfl | rfl | rfl | rfl | rfl | rfl | rfl | rfl | rfl | rfl | rfl <;> first | exact va_Nw.warmF hW h | exact va_Nw.warmM hW h
theorem in_CI : ∀ w ∈ u_ws R_CI F_CI 4, w ∈ wg := by
  show ∀ w ∈ [Cond.laysFinal R_CI R_CI "weaveRow" "LCurveIndex$Row;", Cond.laysFinal R_CI R_CI "turnRow" "LCurveIndex$Row;", Cond.lays R_CI R_CI "levels" "I", Cond.lays R_CI R_CI "frame" "LCurveIndex$Frame;"], w ∈ wg
  exact List.forall_mem_cons.mpr ⟨(wq 78 (by decide +kernel)), List.forall_mem_cons.mpr ⟨(wq 79 (by decide +kernel)), List.forall_mem_cons.mpr ⟨(wq 80 (by decide +kernel)), List.forall_mem_cons.mpr ⟨(wq 81 (by decide +kernel)), fun _ h => absurd h List.not_mem_nil⟩⟩⟩⟩
theorem in_Row : ∀ w ∈ u_ws R_Row F_Row 4, w ∈ wg := by
  show ∀ w ∈ [Cond.laysFinal R_Row R_Row "keys" "[I", Cond.laysFinal R_Row R_Row "cells" "[I", Cond.laysFinal R_Row R_Row "weights" "[I", Cond.lays R_Row R_Row "size" "I"], w ∈ wg
  exact List.forall_mem_cons.mpr ⟨(wq 56 (by decide +kernel)), List.forall_mem_cons.mpr ⟨(wq 57 (by decide +kernel)), List.forall_mem_cons.mpr ⟨(wq 58 (by decide +kernel)), List.forall_mem_cons.mpr ⟨(wq 59 (by decide +kernel)), fun _ h => absurd h List.not_mem_nil⟩⟩⟩⟩
theorem in_Fr : ∀ w ∈ u_ws R_Fr F_Fr 4, w ∈ wg := by
  show ∀ w ∈ [Cond.laysFinal R_Fr R_Fr "x0" "I", Cond.laysFinal R_Fr R_Fr "y0" "I", Cond.laysFinal R_Fr R_Fr "x1" "I", Cond.laysFinal R_Fr R_Fr "y1" "I"], w ∈ wg
  exact List.forall_mem_cons.mpr ⟨(wq 70 (by decide +kernel)), List.forall_mem_cons.mpr ⟨(wq 71 (by decide +kernel)), List.forall_mem_cons.mpr ⟨(wq 72 (by decide +kernel)), List.forall_mem_cons.mpr ⟨(wq 73 (by decide +kernel)), fun _ h => absurd h List.not_mem_nil⟩⟩⟩⟩
theorem in_RW : ∀ w ∈ u_ws R_RW F_RW 6, w ∈ wg := by
  show ∀ w ∈ [Cond.laysFinal R_RW R_RW "frame" "LCurveIndex$Frame;", Cond.laysFinal R_RW R_RW "wanted" "I", Cond.lays R_RW R_RW "count" "I", Cond.lays R_RW R_RW "lastKey" "I", Cond.lays R_RW R_RW "wantedFirst" "I", Cond.lays R_RW R_RW "wantedLast" "I"], w ∈ wg
  exact List.forall_mem_cons.mpr ⟨(wq 207 (by decide +kernel)), List.forall_mem_cons.mpr ⟨(wq 208 (by decide +kernel)), List.forall_mem_cons.mpr ⟨(wq 209 (by decide +kernel)), List.forall_mem_cons.mpr ⟨(wq 210 (by decide +kernel)), List.forall_mem_cons.mpr ⟨(wq 211 (by decide +kernel)), List.forall_mem_cons.mpr ⟨(wq 212 (by decide +kernel)), fun _ h => absurd h List.not_mem_nil⟩⟩⟩⟩⟩⟩
theorem in_Mo : ∀ w ∈ u_ws R_Mo F_Mo 10, w ∈ wg := by
  show ∀ w ∈ [Cond.lays R_Mo R_Mo "n" "I", Cond.lays R_Mo R_Mo "count" "I", Cond.laysFinal R_Mo R_Mo "cells" "[I", Cond.laysFinal R_Mo R_Mo "weights" "[I", Cond.lays R_Mo R_Mo "left" "I", Cond.lays R_Mo R_Mo "low" "I", Cond.lays R_Mo R_Mo "right" "I", Cond.lays R_Mo R_Mo "high" "I", Cond.laysFinal R_Mo R_Mo "keys" "[I", Cond.laysFinal R_Mo R_Mo "other" "[I"], w ∈ wg
  exact List.forall_mem_cons.mpr ⟨(wq 251 (by decide +kernel)), List.forall_mem_cons.mpr ⟨(wq 252 (by decide +kernel)), List.forall_mem_cons.mpr ⟨(wq 253 (by decide +kernel)), List.forall_mem_cons.mpr ⟨(wq 254 (by decide +kernel)), List.forall_mem_cons.mpr ⟨(wq 255 (by decide +kernel)), List.forall_mem_cons.mpr ⟨(wq 256 (by decide +kernel)), List.forall_mem_cons.mpr ⟨(wq 257 (by decide +kernel)), List.forall_mem_cons.mpr ⟨(wq 258 (by decide +kernel)), List.forall_mem_cons.mpr ⟨(wq 259 (by decide +kernel)), List.forall_mem_cons.mpr ⟨(wq 260 (by decide +kernel)), fun _ h => absurd h List.not_mem_nil⟩⟩⟩⟩⟩⟩⟩⟩⟩⟩
