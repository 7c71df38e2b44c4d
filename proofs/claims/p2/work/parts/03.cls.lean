def xR0 : String := "FormulaShaper"
def xT0 : u_T := fun k => match k with
  | 0 => ("FormulaShaper", "tape", "LFormulaShaper$Bytes;", true)
  | 1 => ("FormulaShaper", "result", "LFormulaShaper$Bytes;", true)
  | 2 => ("FormulaShaper", "things", "LFormulaShaper$Things;", true)
  | 3 => ("FormulaShaper", "formula", "LFormulaShaper$Formula;", false)
  | 4 => ("FormulaShaper", "spare", "LFormulaShaper$Formula;", false)
  | 5 => ("FormulaShaper", "present", "Z", false)
  | _ => ("FormulaShaper", "place", "I", false)
def xY0 : Nat → FieldType := fun k => match k with
  | 0 => .object "FormulaShaper$Bytes"
  | 1 => .object "FormulaShaper$Bytes"
  | 2 => .object "FormulaShaper$Things"
  | 3 => .object "FormulaShaper$Formula"
  | 4 => .object "FormulaShaper$Formula"
  | 5 => .boolean
  | _ => .int
theorem xn0 : ∀ a, a < 7 → ∀ b, b < 7 → a ≠ b → (xT0 a).2.1 ≠ (xT0 b).2.1 := by decide +kernel
theorem xy0 : ∀ k, k < 7 → parseFieldDescriptor (xT0 k).2.2.1 = some (xY0 k) := by decide +kernel
theorem xi0 : ∀ t ∈ u_ws xR0 xT0 7, t ∈ lw_tbl := by decide +kernel
def xR1 : String := "FormulaShaper$Bytes"
def xT1 : u_T := fun k => match k with
  | 0 => ("FormulaShaper$Bytes", "bytes", "[B", true)
  | _ => ("FormulaShaper$Bytes", "size", "I", false)
def xY1 : Nat → FieldType := fun k => match k with
  | 0 => .array (.byte)
  | _ => .int
theorem xn1 : ∀ a, a < 2 → ∀ b, b < 2 → a ≠ b → (xT1 a).2.1 ≠ (xT1 b).2.1 := by decide +kernel
theorem xy1 : ∀ k, k < 2 → parseFieldDescriptor (xT1 k).2.2.1 = some (xY1 k) := by decide +kernel
theorem xi1 : ∀ t ∈ u_ws xR1 xT1 2, t ∈ lw_tbl := by decide +kernel
def xR2 : String := "FormulaShaper$Things"
def xT2 : u_T := fun k => match k with
  | 0 => ("FormulaShaper$Things", "kinds", "[I", true)
  | 1 => ("FormulaShaper$Things", "places", "[I", true)
  | _ => ("FormulaShaper$Things", "size", "I", false)
def xY2 : Nat → FieldType := fun k => match k with
  | 0 => .array (.int)
  | 1 => .array (.int)
  | _ => .int
theorem xn2 : ∀ a, a < 3 → ∀ b, b < 3 → a ≠ b → (xT2 a).2.1 ≠ (xT2 b).2.1 := by decide +kernel
theorem xy2 : ∀ k, k < 3 → parseFieldDescriptor (xT2 k).2.2.1 = some (xY2 k) := by decide +kernel
theorem xi2 : ∀ t ∈ u_ws xR2 xT2 3, t ∈ lw_tbl := by decide +kernel
def xR3 : String := "FormulaShaper$Formula"
def xT3 : u_T := fun k => match k with
  | 0 => ("FormulaShaper$Formula", "pieces", "[J", true)
  | 1 => ("FormulaShaper$Formula", "size", "I", false)
  | 2 => ("FormulaShaper$Formula", "width", "I", false)
  | _ => ("FormulaShaper$Formula", "references", "I", false)
def xY3 : Nat → FieldType := fun k => match k with
  | 0 => .array (.long)
  | 1 => .int
  | 2 => .int
  | _ => .int
theorem xn3 : ∀ a, a < 4 → ∀ b, b < 4 → a ≠ b → (xT3 a).2.1 ≠ (xT3 b).2.1 := by decide +kernel
theorem xy3 : ∀ k, k < 4 → parseFieldDescriptor (xT3 k).2.2.1 = some (xY3 k) := by decide +kernel
theorem xi3 : ∀ t ∈ u_ws xR3 xT3 4, t ∈ lw_tbl := by decide +kernel
def xR4 : String := "FormulaShaper$Splitter"
def xT4 : u_T := fun k => match k with
  | 0 => ("FormulaShaper$Splitter", "tape", "LFormulaShaper$Bytes;", true)
  | 1 => ("FormulaShaper$Splitter", "things", "LFormulaShaper$Things;", true)
  | 2 => ("FormulaShaper$Splitter", "out", "LFormulaShaper$Formula;", true)
  | _ => ("FormulaShaper$Splitter", "at", "I", false)
def xY4 : Nat → FieldType := fun k => match k with
  | 0 => .object "FormulaShaper$Bytes"
  | 1 => .object "FormulaShaper$Things"
  | 2 => .object "FormulaShaper$Formula"
  | _ => .int
theorem xn4 : ∀ a, a < 4 → ∀ b, b < 4 → a ≠ b → (xT4 a).2.1 ≠ (xT4 b).2.1 := by decide +kernel
theorem xy4 : ∀ k, k < 4 → parseFieldDescriptor (xT4 k).2.2.1 = some (xY4 k) := by decide +kernel
theorem xi4 : ∀ t ∈ u_ws xR4 xT4 4, t ∈ lw_tbl := by decide +kernel
def xR5 : String := "FormulaShaper$Grammar"
def xT5 : u_T := fun k => match k with
  | 0 => ("FormulaShaper$Grammar", "things", "LFormulaShaper$Things;", true)
  | 1 => ("FormulaShaper$Grammar", "at", "I", false)
  | _ => ("FormulaShaper$Grammar", "open", "I", false)
def xY5 : Nat → FieldType := fun k => match k with
  | 0 => .object "FormulaShaper$Things"
  | 1 => .int
  | _ => .int
theorem xn5 : ∀ a, a < 3 → ∀ b, b < 3 → a ≠ b → (xT5 a).2.1 ≠ (xT5 b).2.1 := by decide +kernel
theorem xy5 : ∀ k, k < 3 → parseFieldDescriptor (xT5 k).2.2.1 = some (xY5 k) := by decide +kernel
theorem xi5 : ∀ t ∈ u_ws xR5 xT5 3, t ∈ lw_tbl := by decide +kernel
def xR6 : String := "FormulaShaper$Copying"
def xT6 : u_T := fun k => match k with
  | 0 => ("FormulaShaper$Copying", "down", "I", true)
  | _ => ("FormulaShaper$Copying", "right", "I", true)
def xY6 : Nat → FieldType := fun k => match k with
  | 0 => .int
  | _ => .int
theorem xn6 : ∀ a, a < 2 → ∀ b, b < 2 → a ≠ b → (xT6 a).2.1 ≠ (xT6 b).2.1 := by decide +kernel
theorem xy6 : ∀ k, k < 2 → parseFieldDescriptor (xT6 k).2.2.1 = some (xY6 k) := by decide +kernel
theorem xi6 : ∀ t ∈ u_ws xR6 xT6 2, t ∈ lw_tbl := by decide +kernel
def xR7 : String := "FormulaShaper$Shifting"
def xT7 : u_T := fun k => match k with
  | 0 => ("FormulaShaper$Shifting", "columns", "Z", true)
  | 1 => ("FormulaShaper$Shifting", "k", "I", true)
  | _ => ("FormulaShaper$Shifting", "n", "I", true)
def xY7 : Nat → FieldType := fun k => match k with
  | 0 => .boolean
  | 1 => .int
  | _ => .int
theorem xn7 : ∀ a, a < 3 → ∀ b, b < 3 → a ≠ b → (xT7 a).2.1 ≠ (xT7 b).2.1 := by decide +kernel
theorem xy7 : ∀ k, k < 3 → parseFieldDescriptor (xT7 k).2.2.1 = some (xY7 k) := by decide +kernel
theorem xi7 : ∀ t ∈ u_ws xR7 xT7 3, t ∈ lw_tbl := by decide +kernel
def xR8 : String := "FormulaShaperModel"
def xT8 : u_T := fun k => match k with
  | 0 => ("FormulaShaperModel", "failed", "I", false)
  | 1 => ("FormulaShaperModel", "tape", "[B", true)
  | 2 => ("FormulaShaperModel", "taped", "I", false)
  | 3 => ("FormulaShaperModel", "result", "[B", true)
  | 4 => ("FormulaShaperModel", "size", "I", false)
  | 5 => ("FormulaShaperModel", "place", "I", false)
  | 6 => ("FormulaShaperModel", "kept", "[B", true)
  | 7 => ("FormulaShaperModel", "keptSize", "I", false)
  | 8 => ("FormulaShaperModel", "nodes", "[LFormulaShaperModel$Node;", false)
  | 9 => ("FormulaShaperModel", "nodeCount", "I", false)
  | 10 => ("FormulaShaperModel", "source", "[B", false)
  | 11 => ("FormulaShaperModel", "at", "I", false)
  | 12 => ("FormulaShaperModel", "stop", "I", false)
  | 13 => ("FormulaShaperModel", "opened", "I", false)
  | 14 => ("FormulaShaperModel", "errors", "[Ljava/lang/String;", true)
  | 15 => ("FormulaShaperModel", "names", "[Ljava/lang/String;", true)
  | 16 => ("FormulaShaperModel", "functions", "[J", true)
  | 17 => ("FormulaShaperModel", "cellEnd", "I", false)
  | 18 => ("FormulaShaperModel", "cellRowStays", "Z", false)
  | 19 => ("FormulaShaperModel", "cellColumnStays", "Z", false)
  | 20 => ("FormulaShaperModel", "cellRow", "I", false)
  | 21 => ("FormulaShaperModel", "cellColumn", "I", false)
  | 22 => ("FormulaShaperModel", "shown", "[B", false)
  | 23 => ("FormulaShaperModel", "shownSize", "I", false)
  | 24 => ("FormulaShaperModel", "operators", "[Ljava/lang/String;", true)
  | 25 => ("FormulaShaperModel", "spine", "[LFormulaShaperModel$Node;", false)
  | 26 => ("FormulaShaperModel", "spineTop", "I", false)
  | 27 => ("FormulaShaperModel", "corners", "[I", true)
  | _ => ("FormulaShaperModel", "references", "I", false)
def xY8 : Nat → FieldType := fun k => match k with
  | 0 => .int
  | 1 => .array (.byte)
  | 2 => .int
  | 3 => .array (.byte)
  | 4 => .int
  | 5 => .int
  | 6 => .array (.byte)
  | 7 => .int
  | 8 => .array (.object "FormulaShaperModel$Node")
  | 9 => .int
  | 10 => .array (.byte)
  | 11 => .int
  | 12 => .int
  | 13 => .int
  | 14 => .array (.object "java/lang/String")
  | 15 => .array (.object "java/lang/String")
  | 16 => .array (.long)
  | 17 => .int
  | 18 => .boolean
  | 19 => .boolean
  | 20 => .int
  | 21 => .int
  | 22 => .array (.byte)
  | 23 => .int
  | 24 => .array (.object "java/lang/String")
  | 25 => .array (.object "FormulaShaperModel$Node")
  | 26 => .int
  | 27 => .array (.int)
  | _ => .int
theorem xn8 : ∀ a, a < 29 → ∀ b, b < 29 → a ≠ b → (xT8 a).2.1 ≠ (xT8 b).2.1 := by decide +kernel
theorem xy8 : ∀ k, k < 29 → parseFieldDescriptor (xT8 k).2.2.1 = some (xY8 k) := by decide +kernel
theorem xi8 : ∀ t ∈ u_ws xR8 xT8 29, t ∈ lw_tbl := by decide +kernel
def xR9 : String := "FormulaShaperModel$Node"
def xT9 : u_T := fun k => match k with
  | 0 => ("FormulaShaperModel$Node", "kind", "I", false)
  | 1 => ("FormulaShaperModel$Node", "a", "I", false)
  | 2 => ("FormulaShaperModel$Node", "b", "I", false)
  | 3 => ("FormulaShaperModel$Node", "number", "J", false)
  | 4 => ("FormulaShaperModel$Node", "row", "I", false)
  | 5 => ("FormulaShaperModel$Node", "column", "I", false)
  | 6 => ("FormulaShaperModel$Node", "rowStays", "Z", false)
  | 7 => ("FormulaShaperModel$Node", "columnStays", "Z", false)
  | 8 => ("FormulaShaperModel$Node", "lastRow", "I", false)
  | 9 => ("FormulaShaperModel$Node", "lastColumn", "I", false)
  | 10 => ("FormulaShaperModel$Node", "lastRowStays", "Z", false)
  | 11 => ("FormulaShaperModel$Node", "lastColumnStays", "Z", false)
  | 12 => ("FormulaShaperModel$Node", "first", "LFormulaShaperModel$Node;", false)
  | 13 => ("FormulaShaperModel$Node", "last", "LFormulaShaperModel$Node;", false)
  | 14 => ("FormulaShaperModel$Node", "next", "LFormulaShaperModel$Node;", false)
  | _ => ("FormulaShaperModel$Node", "count", "I", false)
def xY9 : Nat → FieldType := fun k => match k with
  | 0 => .int
  | 1 => .int
  | 2 => .int
  | 3 => .long
  | 4 => .int
  | 5 => .int
  | 6 => .boolean
  | 7 => .boolean
  | 8 => .int
  | 9 => .int
  | 10 => .boolean
  | 11 => .boolean
  | 12 => .object "FormulaShaperModel$Node"
  | 13 => .object "FormulaShaperModel$Node"
  | 14 => .object "FormulaShaperModel$Node"
  | _ => .int
theorem xn9 : ∀ a, a < 16 → ∀ b, b < 16 → a ≠ b → (xT9 a).2.1 ≠ (xT9 b).2.1 := by decide +kernel
theorem xy9 : ∀ k, k < 16 → parseFieldDescriptor (xT9 k).2.2.1 = some (xY9 k) := by decide +kernel
theorem xi9 : ∀ t ∈ u_ws xR9 xT9 16, t ∈ lw_tbl := by decide +kernel
/-- the classes whose objects are in the views -/
def xCl : List vw_C := [(xR0, xT0, 7), (xR1, xT1, 2), (xR2, xT2, 3), (xR3, xT3, 4), (xR4, xT4, 4), (xR5, xT5, 3), (xR6, xT6, 2), (xR7, xT7, 3), (xR8, xT8, 29), (xR9, xT9, 16)]
/-- the array classes: byte, int, long, Node, String -/
def xTy (tc : Nat → ClassId) : List (ClassId × FieldType) := [(tc 0, .byte), (tc 1, .int), (tc 2, .long), (tc 3, .object "FormulaShaperModel$Node"), (tc 4, .object "java/lang/String")]
