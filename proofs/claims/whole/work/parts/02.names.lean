/-! ===== BEGIN words of one list among another's, by their places ===== -/
theorem goodIn_r {big : List Cond} (ws : List Cond) (ps : List Nat) (hp : ws = ps.filterMap (fun i => big[i]?)) (h : ws.all goodWord = true) : GoodIn big ws := by
  intro w hw
  have h1 := List.all_eq_true.mp h w hw
  rw [hp] at hw
  obtain ⟨i, -, hi⟩ := List.mem_filterMap.mp hw
  have hm : w ∈ big := by first | exact List.mem_of_getElem? hi | exact List.getElem?_mem hi
  exact ⟨hm, good_of_word h1⟩
theorem goodIn_app {big a b : List Cond} (ha : GoodIn big a) (hb : GoodIn big b) : GoodIn big (a ++ b) := fun w h => (List.mem_append.mp h).elim (ha w) (hb w)
theorem goodIn_ca {big a b : List Cond} {c : Cond} (ha : GoodIn big (c :: a)) (hb : GoodIn big b) : GoodIn big (c :: (a ++ b)) := fun w h => (List.mem_cons.mp h).elim (fun e => ha w (List.mem_cons.mpr (Or.inl e))) (fun h => (List.mem_append.mp h).elim (fun h => ha w (List.mem_cons.mpr (Or.inr h))) (hb w))
theorem goodIn_sub {big ws : List Cond} (hm : ∀ w ∈ ws, w ∈ big) (h : ws.all goodWord = true) : GoodIn big ws := fun w hw => ⟨hm w hw, good_of_word (List.all_eq_true.mp h w hw)⟩
/-! ===== END ===== -/

/-! ===== BEGIN printed: names, fields, word lists, decode rows ===== -/
def RX0 : String := "EdgeStencil$Book"
def TX0 : u_T := fun k => match k with
  | 0 => ("EdgeStencil$Book", "ranks", "[I", true)
  | 1 => ("EdgeStencil$Book", "gone", "[I", true)
  | _ => ("EdgeStencil$Book", "size", "I", false)
def tyX0 : Nat → FieldType := fun k => match k with
  | 0 => .array .int
  | 1 => .array .int
  | _ => .int
abbrev wsX00 : List Cond := u_ws RX0 TX0 3
theorem nmX0 : ∀ a, a < 3 → ∀ b, b < 3 → a ≠ b → (TX0 a).2.1 ≠ (TX0 b).2.1 := by decide +kernel
theorem tyX0_ok : ∀ k, k < 3 → parseFieldDescriptor (TX0 k).2.2.1 = some (tyX0 k) := by decide +kernel
abbrev cX0_init : ByteArray := prog_2_method_1_code
def yX0_init : MethodName := ⟨RX0, "<init>", "()V"⟩
abbrev cX0_add : ByteArray := prog_2_method_2_code
def yX0_add : MethodName := ⟨RX0, "add", "(II)V"⟩
def RX1 : String := "EdgeStencil$Field"
def TX1 : u_T := fun k => match k with
  | 0 => ("EdgeStencil$Field", "fars", "[I", true)
  | 1 => ("EdgeStencil$Field", "width", "I", false)
  | _ => ("EdgeStencil$Field", "height", "I", false)
def tyX1 : Nat → FieldType := fun k => match k with
  | 0 => .array .int
  | 1 => .int
  | _ => .int
abbrev wsX10 : List Cond := u_ws RX1 TX1 3
theorem nmX1 : ∀ a, a < 3 → ∀ b, b < 3 → a ≠ b → (TX1 a).2.1 ≠ (TX1 b).2.1 := by decide +kernel
theorem tyX1_ok : ∀ k, k < 3 → parseFieldDescriptor (TX1 k).2.2.1 = some (tyX1 k) := by decide +kernel
abbrev cX1_init : ByteArray := prog_3_method_1_code
def yX1_init : MethodName := ⟨RX1, "<init>", "()V"⟩
abbrev cX1_workOut : ByteArray := prog_3_method_2_code
def yX1_workOut : MethodName := ⟨RX1, "workOut", "(LEdgeStencil$Scene;)V"⟩
abbrev cX1_start : ByteArray := prog_3_method_3_code
def yX1_start : MethodName := ⟨RX1, "start", "(LEdgeStencil$Scene;)V"⟩
abbrev cX1_stepTo : ByteArray := prog_3_method_4_code
def yX1_stepTo : MethodName := ⟨RX1, "stepTo", "(IIII)V"⟩
abbrev cX1_indexOf : ByteArray := prog_3_method_5_code
def yX1_indexOf : MethodName := ⟨RX1, "indexOf", "(II)I"⟩
abbrev cX1_at : ByteArray := prog_3_method_6_code
def yX1_at : MethodName := ⟨RX1, "at", "(II)I"⟩
abbrev cX1_cellsSoFar : ByteArray := prog_3_method_7_code
def yX1_cellsSoFar : MethodName := ⟨RX1, "cellsSoFar", "(I)I"⟩
abbrev cX1_leastIn : ByteArray := prog_3_method_8_code
def yX1_leastIn : MethodName := ⟨RX1, "leastIn", "(IIII)I"⟩
def RX2 : String := "EdgeStencil$Fit"
def TX2 : u_T := fun k => match k with
  | 0 => ("EdgeStencil$Fit", "ill", "I", false)
  | 1 => ("EdgeStencil$Fit", "worst", "I", false)
  | 2 => ("EdgeStencil$Fit", "worstDot", "I", false)
  | _ => ("EdgeStencil$Fit", "onEdges", "I", false)
def tyX2 : Nat → FieldType := fun k => match k with
  | 0 => .int
  | 1 => .int
  | 2 => .int
  | _ => .int
abbrev wsX20 : List Cond := u_ws RX2 TX2 4
theorem nmX2 : ∀ a, a < 4 → ∀ b, b < 4 → a ≠ b → (TX2 a).2.1 ≠ (TX2 b).2.1 := by decide +kernel
theorem tyX2_ok : ∀ k, k < 4 → parseFieldDescriptor (TX2 k).2.2.1 = some (tyX2 k) := by decide +kernel
abbrev cX2_init : ByteArray := prog_4_method_1_code
def yX2_init : MethodName := ⟨RX2, "<init>", "()V"⟩
abbrev cX2_weigh : ByteArray := prog_4_method_2_code
def yX2_weigh : MethodName := ⟨RX2, "weigh", "(LEdgeStencil$Field;LEdgeStencil$Shape;II)Z"⟩
def RX3 : String := "EdgeStencil$History"
def TX3 : u_T := fun k => match k with
  | 0 => ("EdgeStencil$History", "scenes", "[LEdgeStencil$Scene;", true)
  | 1 => ("EdgeStencil$History", "bookSizes", "[I", true)
  | 2 => ("EdgeStencil$History", "next", "I", false)
  | _ => ("EdgeStencil$History", "size", "I", false)
def tyX3 : Nat → FieldType := fun k => match k with
  | 0 => .array (.object "EdgeStencil$Scene")
  | 1 => .array .int
  | 2 => .int
  | _ => .int
abbrev wsX30 : List Cond := u_ws RX3 TX3 4
theorem nmX3 : ∀ a, a < 4 → ∀ b, b < 4 → a ≠ b → (TX3 a).2.1 ≠ (TX3 b).2.1 := by decide +kernel
theorem tyX3_ok : ∀ k, k < 4 → parseFieldDescriptor (TX3 k).2.2.1 = some (tyX3 k) := by decide +kernel
abbrev cX3_init : ByteArray := prog_5_method_1_code
def yX3_init : MethodName := ⟨RX3, "<init>", "()V"⟩
abbrev cX3_keep : ByteArray := prog_5_method_2_code
def yX3_keep : MethodName := ⟨RX3, "keep", "(LEdgeStencil$Scene;I)V"⟩
abbrev cX3_restoreLatest : ByteArray := prog_5_method_3_code
def yX3_restoreLatest : MethodName := ⟨RX3, "restoreLatest", "(LEdgeStencil$Scene;LEdgeStencil$Book;)V"⟩
def RX4 : String := "EdgeStencil$Rank"
def TX4 : u_T := fun k => match k with
  | _ => ("", "", "", false)
def tyX4 : Nat → FieldType := fun k => match k with
  | _ => .int
abbrev wsX40 : List Cond := u_ws RX4 TX4 0
theorem nmX4 : ∀ a, a < 0 → ∀ b, b < 0 → a ≠ b → (TX4 a).2.1 ≠ (TX4 b).2.1 := by decide +kernel
theorem tyX4_ok : ∀ k, k < 0 → parseFieldDescriptor (TX4 k).2.2.1 = some (tyX4 k) := by decide +kernel
abbrev cX4_of : ByteArray := prog_6_method_2_code
def yX4_of : MethodName := ⟨RX4, "of", "(LEdgeStencil$Fit;II)I"⟩
abbrev cX4_scaleOf : ByteArray := prog_6_method_3_code
def yX4_scaleOf : MethodName := ⟨RX4, "scaleOf", "(I)I"⟩
abbrev cX4_turnsOf : ByteArray := prog_6_method_4_code
def yX4_turnsOf : MethodName := ⟨RX4, "turnsOf", "(I)I"⟩
abbrev cX4_flipOf : ByteArray := prog_6_method_5_code
def yX4_flipOf : MethodName := ⟨RX4, "flipOf", "(I)I"⟩
abbrev cX4_part : ByteArray := prog_6_method_6_code
def yX4_part : MethodName := ⟨RX4, "part", "(II)I"⟩
def RX5 : String := "EdgeStencil$Ranking"
def TX5 : u_T := fun k => match k with
  | 0 => ("EdgeStencil$Ranking", "shape", "LEdgeStencil$Shape;", true)
  | 1 => ("EdgeStencil$Ranking", "fit", "LEdgeStencil$Fit;", true)
  | 2 => ("EdgeStencil$Ranking", "first", "[I", true)
  | 3 => ("EdgeStencil$Ranking", "found", "I", false)
  | 4 => ("EdgeStencil$Ranking", "firstAtPlace", "[I", true)
  | 5 => ("EdgeStencil$Ranking", "open", "[Z", true)
  | 6 => ("EdgeStencil$Ranking", "chosen", "[I", true)
  | 7 => ("EdgeStencil$Ranking", "chosenCount", "I", false)
  | _ => ("EdgeStencil$Ranking", "chosenBy", "I", false)
def tyX5 : Nat → FieldType := fun k => match k with
  | 0 => .object "EdgeStencil$Shape"
  | 1 => .object "EdgeStencil$Fit"
  | 2 => .array .int
  | 3 => .int
  | 4 => .array .int
  | 5 => .array .boolean
  | 6 => .array .int
  | 7 => .int
  | _ => .int
abbrev wsX50 : List Cond := u_ws RX5 TX5 9
theorem nmX5 : ∀ a, a < 9 → ∀ b, b < 9 → a ≠ b → (TX5 a).2.1 ≠ (TX5 b).2.1 := by decide +kernel
theorem tyX5_ok : ∀ k, k < 9 → parseFieldDescriptor (TX5 k).2.2.1 = some (tyX5 k) := by decide +kernel
abbrev cX5_init : ByteArray := prog_7_method_1_code
def yX5_init : MethodName := ⟨RX5, "<init>", "()V"⟩
abbrev cX5_seek : ByteArray := prog_7_method_2_code
def yX5_seek : MethodName := ⟨RX5, "seek", "(LEdgeStencil$Scene;LEdgeStencil$Field;)V"⟩
abbrev cX5_enter : ByteArray := prog_7_method_3_code
def yX5_enter : MethodName := ⟨RX5, "enter", "(II)V"⟩
abbrev cX5_chooseApart : ByteArray := prog_7_method_4_code
def yX5_chooseApart : MethodName := ⟨RX5, "chooseApart", "(I)V"⟩
abbrev cX5_firstOpen : ByteArray := prog_7_method_5_code
def yX5_firstOpen : MethodName := ⟨RX5, "firstOpen", "()I"⟩
abbrev cX5_closeAround : ByteArray := prog_7_method_6_code
def yX5_closeAround : MethodName := ⟨RX5, "closeAround", "(III)V"⟩
def RX6 : String := "EdgeStencil$Reader"
def TX6 : u_T := fun k => match k with
  | 0 => ("EdgeStencil$Reader", "scene", "LEdgeStencil$Scene;", true)
  | 1 => ("EdgeStencil$Reader", "gridTold", "Z", false)
  | _ => ("EdgeStencil$Reader", "rowsTold", "I", false)
def tyX6 : Nat → FieldType := fun k => match k with
  | 0 => .object "EdgeStencil$Scene"
  | 1 => .boolean
  | _ => .int
abbrev wsX60 : List Cond := u_ws RX6 TX6 3
theorem nmX6 : ∀ a, a < 3 → ∀ b, b < 3 → a ≠ b → (TX6 a).2.1 ≠ (TX6 b).2.1 := by decide +kernel
theorem tyX6_ok : ∀ k, k < 3 → parseFieldDescriptor (TX6 k).2.2.1 = some (tyX6 k) := by decide +kernel
abbrev cX6_init : ByteArray := prog_8_method_1_code
def yX6_init : MethodName := ⟨RX6, "<init>", "()V"⟩
abbrev cX6_readAll : ByteArray := prog_8_method_2_code
def yX6_readAll : MethodName := ⟨RX6, "readAll", "(LEdgeStencil$Script;)I"⟩
abbrev cX6_readItem : ByteArray := prog_8_method_3_code
def yX6_readItem : MethodName := ⟨RX6, "readItem", "(LEdgeStencil$Script;I)I"⟩
abbrev cX6_readGrid : ByteArray := prog_8_method_4_code
def yX6_readGrid : MethodName := ⟨RX6, "readGrid", "(LEdgeStencil$Script;I)I"⟩
abbrev cX6_readRow : ByteArray := prog_8_method_5_code
def yX6_readRow : MethodName := ⟨RX6, "readRow", "(LEdgeStencil$Script;I)I"⟩
abbrev cX6_readDot : ByteArray := prog_8_method_6_code
def yX6_readDot : MethodName := ⟨RX6, "readDot", "(LEdgeStencil$Script;I)I"⟩
abbrev cX6_readMetric : ByteArray := prog_8_method_7_code
def yX6_readMetric : MethodName := ⟨RX6, "readMetric", "(LEdgeStencil$Script;I)I"⟩
abbrev cX6_sideOf : ByteArray := prog_8_method_8_code
def yX6_sideOf : MethodName := ⟨RX6, "sideOf", "(C)I"⟩
def RX7 : String := "EdgeStencil$Scene"
def TX7 : u_T := fun k => match k with
  | 0 => ("EdgeStencil$Scene", "width", "I", false)
  | 1 => ("EdgeStencil$Scene", "height", "I", false)
  | 2 => ("EdgeStencil$Scene", "rows", "[I", true)
  | 3 => ("EdgeStencil$Scene", "dotX", "[I", true)
  | 4 => ("EdgeStencil$Scene", "dotY", "[I", true)
  | 5 => ("EdgeStencil$Scene", "dots", "I", false)
  | 6 => ("EdgeStencil$Scene", "metric", "I", false)
  | _ => ("EdgeStencil$Scene", "cap", "I", false)
def tyX7 : Nat → FieldType := fun k => match k with
  | 0 => .int
  | 1 => .int
  | 2 => .array .int
  | 3 => .array .int
  | 4 => .array .int
  | 5 => .int
  | 6 => .int
  | _ => .int
abbrev wsX70 : List Cond := u_ws RX7 TX7 8
theorem nmX7 : ∀ a, a < 8 → ∀ b, b < 8 → a ≠ b → (TX7 a).2.1 ≠ (TX7 b).2.1 := by decide +kernel
theorem tyX7_ok : ∀ k, k < 8 → parseFieldDescriptor (TX7 k).2.2.1 = some (tyX7 k) := by decide +kernel
abbrev cX7_init : ByteArray := prog_9_method_1_code
def yX7_init : MethodName := ⟨RX7, "<init>", "()V"⟩
abbrev cX7_clear : ByteArray := prog_9_method_2_code
def yX7_clear : MethodName := ⟨RX7, "clear", "()V"⟩
abbrev cX7_copyFrom : ByteArray := prog_9_method_3_code
def yX7_copyFrom : MethodName := ⟨RX7, "copyFrom", "(LEdgeStencil$Scene;)V"⟩
abbrev cX7_has : ByteArray := prog_9_method_4_code
def yX7_has : MethodName := ⟨RX7, "has", "(II)Z"⟩
abbrev cX7_edgeAt : ByteArray := prog_9_method_5_code
def yX7_edgeAt : MethodName := ⟨RX7, "edgeAt", "(II)I"⟩
abbrev cX7_flipEdge : ByteArray := prog_9_method_6_code
def yX7_flipEdge : MethodName := ⟨RX7, "flipEdge", "(II)V"⟩
abbrev cX7_clearEdges : ByteArray := prog_9_method_7_code
def yX7_clearEdges : MethodName := ⟨RX7, "clearEdges", "([I)V"⟩
abbrev cX7_edges : ByteArray := prog_9_method_8_code
def yX7_edges : MethodName := ⟨RX7, "edges", "()I"⟩
abbrev cX7_hasDot : ByteArray := prog_9_method_9_code
def yX7_hasDot : MethodName := ⟨RX7, "hasDot", "(II)Z"⟩
abbrev cX7_addDot : ByteArray := prog_9_method_10_code
def yX7_addDot : MethodName := ⟨RX7, "addDot", "(II)V"⟩
abbrev cX7_removeDot : ByteArray := prog_9_method_11_code
def yX7_removeDot : MethodName := ⟨RX7, "removeDot", "(I)V"⟩
abbrev cX7_apart : ByteArray := prog_9_method_12_code
def yX7_apart : MethodName := ⟨RX7, "apart", "(II)I"⟩
def RX8 : String := "EdgeStencil$Script"
def TX8 : u_T := fun k => match k with
  | 0 => ("EdgeStencil$Script", "letters", "[C", true)
  | _ => ("EdgeStencil$Script", "length", "I", false)
def tyX8 : Nat → FieldType := fun k => match k with
  | 0 => .array .char
  | _ => .int
abbrev wsX80 : List Cond := u_ws RX8 TX8 2
theorem nmX8 : ∀ a, a < 2 → ∀ b, b < 2 → a ≠ b → (TX8 a).2.1 ≠ (TX8 b).2.1 := by decide +kernel
theorem tyX8_ok : ∀ k, k < 2 → parseFieldDescriptor (TX8 k).2.2.1 = some (tyX8 k) := by decide +kernel
abbrev cX8_init : ByteArray := prog_10_method_1_code
def yX8_init : MethodName := ⟨RX8, "<init>", "()V"⟩
abbrev cX8_append : ByteArray := prog_10_method_2_code
def yX8_append : MethodName := ⟨RX8, "append", "(C)Z"⟩
abbrev cX8_at : ByteArray := prog_10_method_3_code
def yX8_at : MethodName := ⟨RX8, "at", "(I)C"⟩
def RX9 : String := "EdgeStencil$Shape"
def TX9 : u_T := fun k => match k with
  | 0 => ("EdgeStencil$Shape", "dx", "[I", true)
  | 1 => ("EdgeStencil$Shape", "dy", "[I", true)
  | 2 => ("EdgeStencil$Shape", "dots", "I", false)
  | 3 => ("EdgeStencil$Shape", "left", "I", false)
  | 4 => ("EdgeStencil$Shape", "right", "I", false)
  | 5 => ("EdgeStencil$Shape", "top", "I", false)
  | _ => ("EdgeStencil$Shape", "bottom", "I", false)
def tyX9 : Nat → FieldType := fun k => match k with
  | 0 => .array .int
  | 1 => .array .int
  | 2 => .int
  | 3 => .int
  | 4 => .int
  | 5 => .int
  | _ => .int
abbrev wsX90 : List Cond := u_ws RX9 TX9 7
theorem nmX9 : ∀ a, a < 7 → ∀ b, b < 7 → a ≠ b → (TX9 a).2.1 ≠ (TX9 b).2.1 := by decide +kernel
theorem tyX9_ok : ∀ k, k < 7 → parseFieldDescriptor (TX9 k).2.2.1 = some (tyX9 k) := by decide +kernel
abbrev cX9_init : ByteArray := prog_11_method_1_code
def yX9_init : MethodName := ⟨RX9, "<init>", "()V"⟩
abbrev cX9_form : ByteArray := prog_11_method_2_code
def yX9_form : MethodName := ⟨RX9, "form", "(LEdgeStencil$Scene;III)V"⟩
abbrev cX9_findBox : ByteArray := prog_11_method_3_code
def yX9_findBox : MethodName := ⟨RX9, "findBox", "()V"⟩
abbrev cX9_isInside : ByteArray := prog_11_method_4_code
def yX9_isInside : MethodName := ⟨RX9, "isInside", "(IIII)Z"⟩
def RX10 : String := "EdgeStencil$Told"
def TX10 : u_T := fun k => match k with
  | _ => ("EdgeStencil$Told", "rows", "[I", true)
def tyX10 : Nat → FieldType := fun k => match k with
  | _ => .array .int
abbrev wsX100 : List Cond := u_ws RX10 TX10 1
theorem nmX10 : ∀ a, a < 1 → ∀ b, b < 1 → a ≠ b → (TX10 a).2.1 ≠ (TX10 b).2.1 := by decide +kernel
theorem tyX10_ok : ∀ k, k < 1 → parseFieldDescriptor (TX10 k).2.2.1 = some (tyX10 k) := by decide +kernel
abbrev cX10_init : ByteArray := prog_12_method_1_code
def yX10_init : MethodName := ⟨RX10, "<init>", "()V"⟩
abbrev cX10_seek : ByteArray := prog_12_method_2_code
def yX10_seek : MethodName := ⟨RX10, "seek", "(LEdgeStencil$Scene;LEdgeStencil$Shape;III)I"⟩
abbrev cX10_isNear : ByteArray := prog_12_method_3_code
def yX10_isNear : MethodName := ⟨RX10, "isNear", "(LEdgeStencil$Scene;LEdgeStencil$Shape;III)Z"⟩
def RX11 : String := "EdgeStencil"
def TX11 : u_T := fun k => match k with
  | 0 => ("EdgeStencil", "script", "LEdgeStencil$Script;", true)
  | 1 => ("EdgeStencil", "reader", "LEdgeStencil$Reader;", true)
  | 2 => ("EdgeStencil", "scene", "LEdgeStencil$Scene;", true)
  | 3 => ("EdgeStencil", "history", "LEdgeStencil$History;", true)
  | 4 => ("EdgeStencil", "book", "LEdgeStencil$Book;", true)
  | 5 => ("EdgeStencil", "field", "LEdgeStencil$Field;", true)
  | 6 => ("EdgeStencil", "ranking", "LEdgeStencil$Ranking;", true)
  | 7 => ("EdgeStencil", "shape", "LEdgeStencil$Shape;", true)
  | 8 => ("EdgeStencil", "fit", "LEdgeStencil$Fit;", true)
  | 9 => ("EdgeStencil", "told", "LEdgeStencil$Told;", true)
  | 10 => ("EdgeStencil", "scale", "I", false)
  | 11 => ("EdgeStencil", "turns", "I", false)
  | 12 => ("EdgeStencil", "flip", "I", false)
  | 13 => ("EdgeStencil", "fieldStale", "Z", false)
  | _ => ("EdgeStencil", "rankingStale", "Z", false)
def tyX11 : Nat → FieldType := fun k => match k with
  | 0 => .object "EdgeStencil$Script"
  | 1 => .object "EdgeStencil$Reader"
  | 2 => .object "EdgeStencil$Scene"
  | 3 => .object "EdgeStencil$History"
  | 4 => .object "EdgeStencil$Book"
  | 5 => .object "EdgeStencil$Field"
  | 6 => .object "EdgeStencil$Ranking"
  | 7 => .object "EdgeStencil$Shape"
  | 8 => .object "EdgeStencil$Fit"
  | 9 => .object "EdgeStencil$Told"
  | 10 => .int
  | 11 => .int
  | 12 => .int
  | 13 => .boolean
  | _ => .boolean
abbrev wsX110 : List Cond := u_ws RX11 TX11 15
theorem nmX11 : ∀ a, a < 15 → ∀ b, b < 15 → a ≠ b → (TX11 a).2.1 ≠ (TX11 b).2.1 := by decide +kernel
theorem tyX11_ok : ∀ k, k < 15 → parseFieldDescriptor (TX11 k).2.2.1 = some (tyX11 k) := by decide +kernel
abbrev cX11_init : ByteArray := prog_1_method_1_code
def yX11_init : MethodName := ⟨RX11, "<init>", "()V"⟩
abbrev cX11_write : ByteArray := prog_1_method_2_code
def yX11_write : MethodName := ⟨RX11, "write", "(I)I"⟩
abbrev cX11_wipe : ByteArray := prog_1_method_3_code
def yX11_wipe : MethodName := ⟨RX11, "wipe", "()I"⟩
abbrev cX11_fault : ByteArray := prog_1_method_4_code
def yX11_fault : MethodName := ⟨RX11, "fault", "()I"⟩
abbrev cX11_lay : ByteArray := prog_1_method_5_code
def yX11_lay : MethodName := ⟨RX11, "lay", "()I"⟩
abbrev cX11_edge : ByteArray := prog_1_method_6_code
def yX11_edge : MethodName := ⟨RX11, "edge", "(III)I"⟩
abbrev cX11_dot : ByteArray := prog_1_method_7_code
def yX11_dot : MethodName := ⟨RX11, "dot", "(II)I"⟩
abbrev cX11_drop : ByteArray := prog_1_method_8_code
def yX11_drop : MethodName := ⟨RX11, "drop", "(I)I"⟩
abbrev cX11_measure : ByteArray := prog_1_method_9_code
def yX11_measure : MethodName := ⟨RX11, "measure", "(II)I"⟩
abbrev cX11_undo : ByteArray := prog_1_method_10_code
def yX11_undo : MethodName := ⟨RX11, "undo", "()I"⟩
abbrev cX11_cell : ByteArray := prog_1_method_11_code
def yX11_cell : MethodName := ⟨RX11, "cell", "(II)I"⟩
abbrev cX11_far : ByteArray := prog_1_method_12_code
def yX11_far : MethodName := ⟨RX11, "far", "(II)I"⟩
abbrev cX11_nearest : ByteArray := prog_1_method_13_code
def yX11_nearest : MethodName := ⟨RX11, "nearest", "(II)I"⟩
abbrev cX11_rings : ByteArray := prog_1_method_14_code
def yX11_rings : MethodName := ⟨RX11, "rings", "(I)I"⟩
abbrev cX11_turn : ByteArray := prog_1_method_15_code
def yX11_turn : MethodName := ⟨RX11, "turn", "(III)I"⟩
abbrev cX11_lies : ByteArray := prog_1_method_16_code
def yX11_lies : MethodName := ⟨RX11, "lies", "(II)I"⟩
abbrev cX11_pose : ByteArray := prog_1_method_17_code
def yX11_pose : MethodName := ⟨RX11, "pose", "(III)I"⟩
abbrev cX11_fits : ByteArray := prog_1_method_18_code
def yX11_fits : MethodName := ⟨RX11, "fits", "()I"⟩
abbrev cX11_bound : ByteArray := prog_1_method_19_code
def yX11_bound : MethodName := ⟨RX11, "bound", "(III)I"⟩
abbrev cX11_tells : ByteArray := prog_1_method_20_code
def yX11_tells : MethodName := ⟨RX11, "tells", "(III)I"⟩
abbrev cX11_best : ByteArray := prog_1_method_21_code
def yX11_best : MethodName := ⟨RX11, "best", "(II)I"⟩
abbrev cX11_spread : ByteArray := prog_1_method_22_code
def yX11_spread : MethodName := ⟨RX11, "spread", "(III)I"⟩
abbrev cX11_take : ByteArray := prog_1_method_23_code
def yX11_take : MethodName := ⟨RX11, "take", "(II)I"⟩
abbrev cX11_takes : ByteArray := prog_1_method_24_code
def yX11_takes : MethodName := ⟨RX11, "takes", "(II)I"⟩
abbrev cX11_ledger : ByteArray := prog_1_method_25_code
def yX11_ledger : MethodName := ⟨RX11, "ledger", "(II)I"⟩
abbrev cX11_count : ByteArray := prog_1_method_26_code
def yX11_count : MethodName := ⟨RX11, "count", "(I)I"⟩
abbrev cX11_isFrom : ByteArray := prog_1_method_27_code
def yX11_isFrom : MethodName := ⟨RX11, "isFrom", "(III)Z"⟩
abbrev cX11_isDot : ByteArray := prog_1_method_28_code
def yX11_isDot : MethodName := ⟨RX11, "isDot", "(I)Z"⟩
abbrev cX11_lookAt : ByteArray := prog_1_method_29_code
def yX11_lookAt : MethodName := ⟨RX11, "lookAt", "(III)V"⟩
abbrev cX11_lookedAt : ByteArray := prog_1_method_30_code
def yX11_lookedAt : MethodName := ⟨RX11, "lookedAt", "()LEdgeStencil$Shape;"⟩
abbrev cX11_startChange : ByteArray := prog_1_method_31_code
def yX11_startChange : MethodName := ⟨RX11, "startChange", "()V"⟩
abbrev cX11_makeStale : ByteArray := prog_1_method_32_code
def yX11_makeStale : MethodName := ⟨RX11, "makeStale", "()V"⟩
abbrev cX11_freshField : ByteArray := prog_1_method_33_code
def yX11_freshField : MethodName := ⟨RX11, "freshField", "()LEdgeStencil$Field;"⟩
abbrev cX11_freshRanking : ByteArray := prog_1_method_34_code
def yX11_freshRanking : MethodName := ⟨RX11, "freshRanking", "()LEdgeStencil$Ranking;"⟩
abbrev cX11_partOf : ByteArray := prog_1_method_35_code
def yX11_partOf : MethodName := ⟨RX11, "partOf", "([IIII)I"⟩
abbrev cX11_takeFirst : ByteArray := prog_1_method_36_code
def yX11_takeFirst : MethodName := ⟨RX11, "takeFirst", "(II)I"⟩
def RX12 : String := "EdgeStencilModel"
def TX12 : u_T := fun k => match k with
  | 0 => ("EdgeStencilModel", "wide", "I", false)
  | 1 => ("EdgeStencilModel", "high", "I", false)
  | 2 => ("EdgeStencilModel", "now", "[I", true)
  | 3 => ("EdgeStencilModel", "changes", "[I", true)
  | 4 => ("EdgeStencilModel", "changeMany", "I", false)
  | 5 => ("EdgeStencilModel", "changeAt", "I", false)
  | 6 => ("EdgeStencilModel", "ledger", "[I", true)
  | 7 => ("EdgeStencilModel", "scale", "I", false)
  | 8 => ("EdgeStencilModel", "quarters", "I", false)
  | 9 => ("EdgeStencilModel", "flipped", "I", false)
  | 10 => ("EdgeStencilModel", "text", "[I", true)
  | 11 => ("EdgeStencilModel", "letterMany", "I", false)
  | 12 => ("EdgeStencilModel", "newWide", "I", false)
  | 13 => ("EdgeStencilModel", "newHigh", "I", false)
  | 14 => ("EdgeStencilModel", "newRows", "I", false)
  | 15 => ("EdgeStencilModel", "fresh", "[I", true)
  | 16 => ("EdgeStencilModel", "firstRows", "[I", true)
  | 17 => ("EdgeStencilModel", "firstDots", "[I", true)
  | 18 => ("EdgeStencilModel", "fars", "[I", true)
  | 19 => ("EdgeStencilModel", "illIs", "I", false)
  | 20 => ("EdgeStencilModel", "worstIs", "I", false)
  | 21 => ("EdgeStencilModel", "worstDot", "I", false)
  | 22 => ("EdgeStencilModel", "onEdges", "I", false)
  | 23 => ("EdgeStencilModel", "ranks", "[I", true)
  | 24 => ("EdgeStencilModel", "rankMany", "I", false)
  | 25 => ("EdgeStencilModel", "chosen", "[I", true)
  | _ => ("EdgeStencilModel", "chosenMany", "I", false)
def tyX12 : Nat → FieldType := fun k => match k with
  | 0 => .int
  | 1 => .int
  | 2 => .array .int
  | 3 => .array .int
  | 4 => .int
  | 5 => .int
  | 6 => .array .int
  | 7 => .int
  | 8 => .int
  | 9 => .int
  | 10 => .array .int
  | 11 => .int
  | 12 => .int
  | 13 => .int
  | 14 => .int
  | 15 => .array .int
  | 16 => .array .int
  | 17 => .array .int
  | 18 => .array .int
  | 19 => .int
  | 20 => .int
  | 21 => .int
  | 22 => .int
  | 23 => .array .int
  | 24 => .int
  | 25 => .array .int
  | _ => .int
abbrev wsX120 : List Cond := u_ws RX12 TX12 27
theorem nmX12 : ∀ a, a < 27 → ∀ b, b < 27 → a ≠ b → (TX12 a).2.1 ≠ (TX12 b).2.1 := by decide +kernel
theorem tyX12_ok : ∀ k, k < 27 → parseFieldDescriptor (TX12 k).2.2.1 = some (tyX12 k) := by decide +kernel
abbrev cX12_in : ByteArray := prog_14_method_1_code
def yX12_in : MethodName := ⟨RX12, "in", "(III)Z"⟩
abbrev cX12_init : ByteArray := prog_14_method_2_code
def yX12_init : MethodName := ⟨RX12, "<init>", "()V"⟩
abbrev cX12_write : ByteArray := prog_14_method_3_code
def yX12_write : MethodName := ⟨RX12, "write", "(I)I"⟩
abbrev cX12_wipe : ByteArray := prog_14_method_4_code
def yX12_wipe : MethodName := ⟨RX12, "wipe", "()I"⟩
abbrev cX12_letter : ByteArray := prog_14_method_5_code
def yX12_letter : MethodName := ⟨RX12, "letter", "(I)I"⟩
abbrev cX12_signOf : ByteArray := prog_14_method_6_code
def yX12_signOf : MethodName := ⟨RX12, "signOf", "(I)I"⟩
abbrev cX12_readsGrid : ByteArray := prog_14_method_7_code
def yX12_readsGrid : MethodName := ⟨RX12, "readsGrid", "(I)Z"⟩
abbrev cX12_readsRow : ByteArray := prog_14_method_8_code
def yX12_readsRow : MethodName := ⟨RX12, "readsRow", "(I)Z"⟩
abbrev cX12_readsDot : ByteArray := prog_14_method_9_code
def yX12_readsDot : MethodName := ⟨RX12, "readsDot", "(I)Z"⟩
abbrev cX12_readsMeasure : ByteArray := prog_14_method_10_code
def yX12_readsMeasure : MethodName := ⟨RX12, "readsMeasure", "(I)Z"⟩
abbrev cX12_dotAt : ByteArray := prog_14_method_11_code
def yX12_dotAt : MethodName := ⟨RX12, "dotAt", "([III)I"⟩
abbrev cX12_comesDot : ByteArray := prog_14_method_12_code
def yX12_comesDot : MethodName := ⟨RX12, "comesDot", "([III)V"⟩
abbrev cX12_readsItem : ByteArray := prog_14_method_13_code
def yX12_readsItem : MethodName := ⟨RX12, "readsItem", "(I)I"⟩
abbrev cX12_reads : ByteArray := prog_14_method_14_code
def yX12_reads : MethodName := ⟨RX12, "reads", "()I"⟩
abbrev cX12_fault : ByteArray := prog_14_method_15_code
def yX12_fault : MethodName := ⟨RX12, "fault", "()I"⟩
abbrev cX12_lay : ByteArray := prog_14_method_16_code
def yX12_lay : MethodName := ⟨RX12, "lay", "()I"⟩
abbrev cX12_edges : ByteArray := prog_14_method_17_code
def yX12_edges : MethodName := ⟨RX12, "edges", "()I"⟩
abbrev cX12_remembers : ByteArray := prog_14_method_18_code
def yX12_remembers : MethodName := ⟨RX12, "remembers", "()V"⟩
abbrev cX12_undo : ByteArray := prog_14_method_19_code
def yX12_undo : MethodName := ⟨RX12, "undo", "()I"⟩
abbrev cX12_isCell : ByteArray := prog_14_method_20_code
def yX12_isCell : MethodName := ⟨RX12, "isCell", "(II)Z"⟩
abbrev cX12_at : ByteArray := prog_14_method_21_code
def yX12_at : MethodName := ⟨RX12, "at", "(II)I"⟩
abbrev cX12_edge : ByteArray := prog_14_method_22_code
def yX12_edge : MethodName := ⟨RX12, "edge", "(III)I"⟩
abbrev cX12_dot : ByteArray := prog_14_method_23_code
def yX12_dot : MethodName := ⟨RX12, "dot", "(II)I"⟩
abbrev cX12_isDot : ByteArray := prog_14_method_24_code
def yX12_isDot : MethodName := ⟨RX12, "isDot", "(I)Z"⟩
abbrev cX12_drop : ByteArray := prog_14_method_25_code
def yX12_drop : MethodName := ⟨RX12, "drop", "(I)I"⟩
abbrev cX12_measure : ByteArray := prog_14_method_26_code
def yX12_measure : MethodName := ⟨RX12, "measure", "(II)I"⟩
abbrev cX12_apart : ByteArray := prog_14_method_27_code
def yX12_apart : MethodName := ⟨RX12, "apart", "(IIII)I"⟩
abbrev cX12_nearestOf : ByteArray := prog_14_method_28_code
def yX12_nearestOf : MethodName := ⟨RX12, "nearestOf", "(II)I"⟩
abbrev cX12_farOf : ByteArray := prog_14_method_29_code
def yX12_farOf : MethodName := ⟨RX12, "farOf", "(II)I"⟩
abbrev cX12_cell : ByteArray := prog_14_method_30_code
def yX12_cell : MethodName := ⟨RX12, "cell", "(II)I"⟩
abbrev cX12_far : ByteArray := prog_14_method_31_code
def yX12_far : MethodName := ⟨RX12, "far", "(II)I"⟩
abbrev cX12_nearest : ByteArray := prog_14_method_32_code
def yX12_nearest : MethodName := ⟨RX12, "nearest", "(II)I"⟩
abbrev cX12_rings : ByteArray := prog_14_method_33_code
def yX12_rings : MethodName := ⟨RX12, "rings", "(I)I"⟩
abbrev cX12_laysFars : ByteArray := prog_14_method_34_code
def yX12_laysFars : MethodName := ⟨RX12, "laysFars", "()V"⟩
abbrev cX12_turn : ByteArray := prog_14_method_35_code
def yX12_turn : MethodName := ⟨RX12, "turn", "(III)I"⟩
abbrev cX12_halved : ByteArray := prog_14_method_36_code
def yX12_halved : MethodName := ⟨RX12, "halved", "(II)I"⟩
abbrev cX12_liesX : ByteArray := prog_14_method_37_code
def yX12_liesX : MethodName := ⟨RX12, "liesX", "(IIII)I"⟩
abbrev cX12_liesY : ByteArray := prog_14_method_38_code
def yX12_liesY : MethodName := ⟨RX12, "liesY", "(IIII)I"⟩
abbrev cX12_lies : ByteArray := prog_14_method_39_code
def yX12_lies : MethodName := ⟨RX12, "lies", "(II)I"⟩
abbrev cX12_looks : ByteArray := prog_14_method_40_code
def yX12_looks : MethodName := ⟨RX12, "looks", "(IIIII)Z"⟩
abbrev cX12_pose : ByteArray := prog_14_method_41_code
def yX12_pose : MethodName := ⟨RX12, "pose", "(III)I"⟩
abbrev cX12_fits : ByteArray := prog_14_method_42_code
def yX12_fits : MethodName := ⟨RX12, "fits", "()I"⟩
abbrev cX12_bound : ByteArray := prog_14_method_43_code
def yX12_bound : MethodName := ⟨RX12, "bound", "(III)I"⟩
abbrev cX12_isTold : ByteArray := prog_14_method_44_code
def yX12_isTold : MethodName := ⟨RX12, "isTold", "(IIIIIII)Z"⟩
abbrev cX12_toldMany : ByteArray := prog_14_method_45_code
def yX12_toldMany : MethodName := ⟨RX12, "toldMany", "(IIIIII)I"⟩
abbrev cX12_tells : ByteArray := prog_14_method_46_code
def yX12_tells : MethodName := ⟨RX12, "tells", "(III)I"⟩
abbrev cX12_laysRanks : ByteArray := prog_14_method_47_code
def yX12_laysRanks : MethodName := ⟨RX12, "laysRanks", "()V"⟩
abbrev cX12_placeOf : ByteArray := prog_14_method_48_code
def yX12_placeOf : MethodName := ⟨RX12, "placeOf", "(I)I"⟩
abbrev cX12_isApart : ByteArray := prog_14_method_49_code
def yX12_isApart : MethodName := ⟨RX12, "isApart", "(II)Z"⟩
abbrev cX12_chooses : ByteArray := prog_14_method_50_code
def yX12_chooses : MethodName := ⟨RX12, "chooses", "(I)V"⟩
abbrev cX12_partOf : ByteArray := prog_14_method_51_code
def yX12_partOf : MethodName := ⟨RX12, "partOf", "(II)I"⟩
abbrev cX12_chosenIs : ByteArray := prog_14_method_52_code
def yX12_chosenIs : MethodName := ⟨RX12, "chosenIs", "(III)I"⟩
abbrev cX12_best : ByteArray := prog_14_method_53_code
def yX12_best : MethodName := ⟨RX12, "best", "(II)I"⟩
abbrev cX12_spread : ByteArray := prog_14_method_54_code
def yX12_spread : MethodName := ⟨RX12, "spread", "(III)I"⟩
abbrev cX12_takeOne : ByteArray := prog_14_method_55_code
def yX12_takeOne : MethodName := ⟨RX12, "takeOne", "(II)I"⟩
abbrev cX12_isTaking : ByteArray := prog_14_method_56_code
def yX12_isTaking : MethodName := ⟨RX12, "isTaking", "(II)Z"⟩
abbrev cX12_take : ByteArray := prog_14_method_57_code
def yX12_take : MethodName := ⟨RX12, "take", "(II)I"⟩
abbrev cX12_takes : ByteArray := prog_14_method_58_code
def yX12_takes : MethodName := ⟨RX12, "takes", "(II)I"⟩
abbrev cX12_ledger : ByteArray := prog_14_method_59_code
def yX12_ledger : MethodName := ⟨RX12, "ledger", "(II)I"⟩
abbrev cX12_count : ByteArray := prog_14_method_60_code
def yX12_count : MethodName := ⟨RX12, "count", "(I)I"⟩
def RJ6 : String := "java/lang/Integer"
def TJ6 : u_T := fun k => match k with
  | _ => ("", "", "", false)
def tyJ6 : Nat → FieldType := fun k => match k with
  | _ => .int
abbrev wsJ60 : List Cond := u_ws RJ6 TJ6 0
theorem nmJ6 : ∀ a, a < 0 → ∀ b, b < 0 → a ≠ b → (TJ6 a).2.1 ≠ (TJ6 b).2.1 := by decide +kernel
theorem tyJ6_ok : ∀ k, k < 0 → parseFieldDescriptor (TJ6 k).2.2.1 = some (tyJ6 k) := by decide +kernel
abbrev cJ6_bitCount_0f7a4 : ByteArray := prog_15_method_49_code
def yJ6_bitCount_0f7a4 : MethodName := ⟨RJ6, "bitCount", "(I)I"⟩
def RJ9 : String := "java/lang/Math"
def TJ9 : u_T := fun k => match k with
  | _ => ("", "", "", false)
def tyJ9 : Nat → FieldType := fun k => match k with
  | _ => .int
abbrev wsJ90 : List Cond := u_ws RJ9 TJ9 0
theorem nmJ9 : ∀ a, a < 0 → ∀ b, b < 0 → a ≠ b → (TJ9 a).2.1 ≠ (TJ9 b).2.1 := by decide +kernel
theorem tyJ9_ok : ∀ k, k < 0 → parseFieldDescriptor (TJ9 k).2.2.1 = some (tyJ9 k) := by decide +kernel
abbrev cJ9_floorDiv_7cf53 : ByteArray := prog_16_method_47_code
def yJ9_floorDiv_7cf53 : MethodName := ⟨RJ9, "floorDiv", "(II)I"⟩
abbrev cJ9_abs_0f7a4 : ByteArray := prog_16_method_59_code
def yJ9_abs_0f7a4 : MethodName := ⟨RJ9, "abs", "(I)I"⟩
abbrev cJ9_max_7cf53 : ByteArray := prog_16_method_65_code
def yJ9_max_7cf53 : MethodName := ⟨RJ9, "max", "(II)I"⟩
abbrev cJ9_min_7cf53 : ByteArray := prog_16_method_69_code
def yJ9_min_7cf53 : MethodName := ⟨RJ9, "min", "(II)I"⟩
def RJ0 : String := "java/lang/String"
def TJ0 : u_T := fun k => match k with
  | _ => ("", "", "", false)
def tyJ0 : Nat → FieldType := fun k => match k with
  | _ => .int
abbrev wsJ00 : List Cond := u_ws RJ0 TJ0 0
theorem nmJ0 : ∀ a, a < 0 → ∀ b, b < 0 → a ≠ b → (TJ0 a).2.1 ≠ (TJ0 b).2.1 := by decide +kernel
theorem tyJ0_ok : ∀ k, k < 0 → parseFieldDescriptor (TJ0 k).2.2.1 = some (tyJ0 k) := by decide +kernel
abbrev cJ0_length_8abf5 : ByteArray := prog_17_method_54_code
def yJ0_length_8abf5 : MethodName := ⟨RJ0, "length", "()I"⟩
abbrev cJ0_charAt_5068e : ByteArray := prog_17_method_56_code
def yJ0_charAt_5068e : MethodName := ⟨RJ0, "charAt", "(I)C"⟩
abbrev cJ0_coder_7d493 : ByteArray := prog_17_method_152_code
def yJ0_coder_7d493 : MethodName := ⟨RJ0, "coder", "()B"⟩
abbrev cJ0_isLatin1_aae02 : ByteArray := prog_17_method_154_code
def yJ0_isLatin1_aae02 : MethodName := ⟨RJ0, "isLatin1", "()Z"⟩
abbrev cJ0_checkIndex_df160 : ByteArray := prog_17_method_155_code
def yJ0_checkIndex_df160 : MethodName := ⟨RJ0, "checkIndex", "(II)V"⟩
def RJ1 : String := "java/lang/StringLatin1"
def TJ1 : u_T := fun k => match k with
  | _ => ("", "", "", false)
def tyJ1 : Nat → FieldType := fun k => match k with
  | _ => .int
abbrev wsJ10 : List Cond := u_ws RJ1 TJ1 0
theorem nmJ1 : ∀ a, a < 0 → ∀ b, b < 0 → a ≠ b → (TJ1 a).2.1 ≠ (TJ1 b).2.1 := by decide +kernel
theorem tyJ1_ok : ∀ k, k < 0 → parseFieldDescriptor (TJ1 k).2.2.1 = some (tyJ1 k) := by decide +kernel
abbrev cJ1_charAt_3b067 : ByteArray := prog_18_method_2_code
def yJ1_charAt_3b067 : MethodName := ⟨RJ1, "charAt", "([BI)C"⟩
def RJ2 : String := "java/lang/StringUTF16"
def TJ2 : u_T := fun k => match k with
  | _ => ("", "", "", false)
def tyJ2 : Nat → FieldType := fun k => match k with
  | _ => .int
abbrev wsJ20 : List Cond := u_ws RJ2 TJ2 0
theorem nmJ2 : ∀ a, a < 0 → ∀ b, b < 0 → a ≠ b → (TJ2 a).2.1 ≠ (TJ2 b).2.1 := by decide +kernel
theorem tyJ2_ok : ∀ k, k < 0 → parseFieldDescriptor (TJ2 k).2.2.1 = some (tyJ2 k) := by decide +kernel
abbrev cJ2_getChar_3b067 : ByteArray := prog_19_method_5_code
def yJ2_getChar_3b067 : MethodName := ⟨RJ2, "getChar", "([BI)C"⟩
abbrev cJ2_length_9d52b : ByteArray := prog_19_method_6_code
def yJ2_length_9d52b : MethodName := ⟨RJ2, "length", "([B)I"⟩
abbrev cJ2_charAt_3b067 : ByteArray := prog_19_method_83_code
def yJ2_charAt_3b067 : MethodName := ⟨RJ2, "charAt", "([BI)C"⟩
abbrev cJ2_checkIndex_2214a : ByteArray := prog_19_method_91_code
def yJ2_checkIndex_2214a : MethodName := ⟨RJ2, "checkIndex", "(I[B)V"⟩
def RJ3 : String := "jdk/internal/util/Preconditions"
def TJ3 : u_T := fun k => match k with
  | _ => ("", "", "", false)
def tyJ3 : Nat → FieldType := fun k => match k with
  | _ => .int
abbrev wsJ30 : List Cond := u_ws RJ3 TJ3 0
theorem nmJ3 : ∀ a, a < 0 → ∀ b, b < 0 → a ≠ b → (TJ3 a).2.1 ≠ (TJ3 b).2.1 := by decide +kernel
theorem tyJ3_ok : ∀ k, k < 0 → parseFieldDescriptor (TJ3 k).2.2.1 = some (tyJ3 k) := by decide +kernel
abbrev cJ3_checkIndex_8e157 : ByteArray := prog_20_method_11_code
def yJ3_checkIndex_8e157 : MethodName := ⟨RJ3, "checkIndex", "(IILjava/util/function/BiFunction;)I"⟩
def RL : String := "EdgeStencilLaw"
abbrev cL_law : ByteArray := code
def yL_law : MethodName := ⟨RL, "law", "([I)Z"⟩
abbrev vwCl : List vw_C := [(RX0, TX0, 3), (RX1, TX1, 3), (RX2, TX2, 4), (RX3, TX3, 4), (RX5, TX5, 9), (RX6, TX6, 3), (RX7, TX7, 8), (RX8, TX8, 2), (RX9, TX9, 7), (RX10, TX10, 1), (RX11, TX11, 15), (RX12, TX12, 27)]
