def RX0 : String := "FormsAboveNought$ActReader"
def RX1 : String := "FormsAboveNought$Form"
def RX2 : String := "FormsAboveNought$FormReader"
def RX3 : String := "FormsAboveNought$Letters"
def RX4 : String := "FormsAboveNought$Lists"
def RX5 : String := "FormsAboveNought$Maker"
def RX6 : String := "FormsAboveNought$Shelf"
def RX7 : String := "FormsAboveNought$Speller"
def RX8 : String := "FormsAboveNought$UndoLog"
def RX9 : String := "FormsAboveNought$Work"
def RX10 : String := "FormsAboveNought"
def RX11 : String := "FormsAboveNoughtModel"
def RJ6 : String := "java/lang/Integer"
def RJ9 : String := "java/lang/Math"
def RJ0 : String := "java/lang/String"
def RJ1 : String := "java/lang/StringLatin1"
def RJ2 : String := "java/lang/StringUTF16"
def RJ3 : String := "jdk/internal/util/Preconditions"
def RL : String := "FormsAboveNoughtLaw"
def TX0 : u_T := fun k => match k with
  | 0 => ("FormsAboveNought$ActReader", "word", "[I", true)
  | 1 => ("FormsAboveNought$ActReader", "place", "[I", true)
  | 2 => ("FormsAboveNought$ActReader", "first", "[I", true)
  | 3 => ("FormsAboveNought$ActReader", "second", "[I", true)
  | 4 => ("FormsAboveNought$ActReader", "size", "I", false)
  | 5 => ("FormsAboveNought$ActReader", "letters", "LFormsAboveNought$Letters;", false)
  | _ => ("FormsAboveNought$ActReader", "now", "I", false)
def tyX0 : Nat → FieldType := fun k => match k with
  | 0 => .array .int
  | 1 => .array .int
  | 2 => .array .int
  | 3 => .array .int
  | 4 => .int
  | 5 => .object "FormsAboveNought$Letters"
  | _ => .int
set_option maxRecDepth 8000 in
theorem nmX0 : ∀ a, a < 7 → ∀ b, b < 7 → a ≠ b → (TX0 a).2.1 ≠ (TX0 b).2.1 := by decide +kernel
set_option maxRecDepth 8000 in
theorem tyX0_ok : ∀ k, k < 7 → parseFieldDescriptor (TX0 k).2.2.1 = some (tyX0 k) := by decide +kernel
set_option maxRecDepth 8000 in
theorem uw_X0 : ∀ w ∈ u_ws RX0 TX0 7, w ∈ pq_G := by
  show ∀ w ∈ [u_lay RX0 TX0 0, u_lay RX0 TX0 1, u_lay RX0 TX0 2, u_lay RX0 TX0 3, u_lay RX0 TX0 4, u_lay RX0 TX0 5, u_lay RX0 TX0 6], w ∈ pq_G
  exact List.forall_mem_cons.mpr ⟨pq_t1 164 rfl rfl, List.forall_mem_cons.mpr ⟨pq_t1 166 rfl rfl, List.forall_mem_cons.mpr ⟨pq_t1 168 rfl rfl, List.forall_mem_cons.mpr ⟨pq_t1 170 rfl rfl, List.forall_mem_cons.mpr ⟨pq_t1 172 rfl rfl, List.forall_mem_cons.mpr ⟨pq_t1 174 rfl rfl, List.forall_mem_cons.mpr ⟨pq_t1 176 rfl rfl, fun _ z => absurd z List.not_mem_nil⟩⟩⟩⟩⟩⟩⟩
def TX1 : u_T := fun k => match k with
  | 0 => ("FormsAboveNought$Form", "told", "[I", true)
  | 1 => ("FormsAboveNought$Form", "kind", "I", false)
  | 2 => ("FormsAboveNought$Form", "figure", "I", false)
  | _ => ("FormsAboveNought$Form", "degree", "I", false)
def tyX1 : Nat → FieldType := fun k => match k with
  | 0 => .array .int
  | 1 => .int
  | 2 => .int
  | _ => .int
set_option maxRecDepth 8000 in
theorem nmX1 : ∀ a, a < 4 → ∀ b, b < 4 → a ≠ b → (TX1 a).2.1 ≠ (TX1 b).2.1 := by decide +kernel
set_option maxRecDepth 8000 in
theorem tyX1_ok : ∀ k, k < 4 → parseFieldDescriptor (TX1 k).2.2.1 = some (tyX1 k) := by decide +kernel
set_option maxRecDepth 8000 in
theorem uw_X1 : ∀ w ∈ u_ws RX1 TX1 4, w ∈ pq_G := by
  show ∀ w ∈ [u_lay RX1 TX1 0, u_lay RX1 TX1 1, u_lay RX1 TX1 2, u_lay RX1 TX1 3], w ∈ pq_G
  exact List.forall_mem_cons.mpr ⟨pq_t1 74 rfl rfl, List.forall_mem_cons.mpr ⟨pq_t1 76 rfl rfl, List.forall_mem_cons.mpr ⟨pq_t1 78 rfl rfl, List.forall_mem_cons.mpr ⟨pq_t1 80 rfl rfl, fun _ z => absurd z List.not_mem_nil⟩⟩⟩⟩
def TX2 : u_T := fun k => match k with
  | 0 => ("FormsAboveNought$FormReader", "power", "[I", true)
  | 1 => ("FormsAboveNought$FormReader", "letters", "LFormsAboveNought$Letters;", false)
  | 2 => ("FormsAboveNought$FormReader", "place", "I", false)
  | 3 => ("FormsAboveNought$FormReader", "degree", "I", false)
  | _ => ("FormsAboveNought$FormReader", "firstDegree", "I", false)
def tyX2 : Nat → FieldType := fun k => match k with
  | 0 => .array .int
  | 1 => .object "FormsAboveNought$Letters"
  | 2 => .int
  | 3 => .int
  | _ => .int
set_option maxRecDepth 8000 in
theorem nmX2 : ∀ a, a < 5 → ∀ b, b < 5 → a ≠ b → (TX2 a).2.1 ≠ (TX2 b).2.1 := by decide +kernel
set_option maxRecDepth 8000 in
theorem tyX2_ok : ∀ k, k < 5 → parseFieldDescriptor (TX2 k).2.2.1 = some (tyX2 k) := by decide +kernel
set_option maxRecDepth 8000 in
theorem uw_X2 : ∀ w ∈ u_ws RX2 TX2 5, w ∈ pq_G := by
  show ∀ w ∈ [u_lay RX2 TX2 0, u_lay RX2 TX2 1, u_lay RX2 TX2 2, u_lay RX2 TX2 3, u_lay RX2 TX2 4], w ∈ pq_G
  exact List.forall_mem_cons.mpr ⟨pq_t1 134 rfl rfl, List.forall_mem_cons.mpr ⟨pq_t1 136 rfl rfl, List.forall_mem_cons.mpr ⟨pq_t1 138 rfl rfl, List.forall_mem_cons.mpr ⟨pq_t1 140 rfl rfl, List.forall_mem_cons.mpr ⟨pq_t1 142 rfl rfl, fun _ z => absurd z List.not_mem_nil⟩⟩⟩⟩⟩
def TX3 : u_T := fun k => match k with
  | 0 => ("FormsAboveNought$Letters", "row", "[I", true)
  | _ => ("FormsAboveNought$Letters", "size", "I", false)
def tyX3 : Nat → FieldType := fun k => match k with
  | 0 => .array .int
  | _ => .int
set_option maxRecDepth 8000 in
theorem nmX3 : ∀ a, a < 2 → ∀ b, b < 2 → a ≠ b → (TX3 a).2.1 ≠ (TX3 b).2.1 := by decide +kernel
set_option maxRecDepth 8000 in
theorem tyX3_ok : ∀ k, k < 2 → parseFieldDescriptor (TX3 k).2.2.1 = some (tyX3 k) := by decide +kernel
set_option maxRecDepth 8000 in
theorem uw_X3 : ∀ w ∈ u_ws RX3 TX3 2, w ∈ pq_G := by
  show ∀ w ∈ [u_lay RX3 TX3 0, u_lay RX3 TX3 1], w ∈ pq_G
  exact List.forall_mem_cons.mpr ⟨pq_t1 118 rfl rfl, List.forall_mem_cons.mpr ⟨pq_t1 120 rfl rfl, fun _ z => absurd z List.not_mem_nil⟩⟩
def TX4 : u_T := fun k => match k with
  | 0 => ("FormsAboveNought$Lists", "row", "[[I", true)
  | _ => ("FormsAboveNought$Lists", "size", "[I", true)
def tyX4 : Nat → FieldType := fun k => match k with
  | 0 => .array (.array .int)
  | _ => .array .int
set_option maxRecDepth 8000 in
theorem nmX4 : ∀ a, a < 2 → ∀ b, b < 2 → a ≠ b → (TX4 a).2.1 ≠ (TX4 b).2.1 := by decide +kernel
set_option maxRecDepth 8000 in
theorem tyX4_ok : ∀ k, k < 2 → parseFieldDescriptor (TX4 k).2.2.1 = some (tyX4 k) := by decide +kernel
set_option maxRecDepth 8000 in
theorem uw_X4 : ∀ w ∈ u_ws RX4 TX4 2, w ∈ pq_G := by
  show ∀ w ∈ [u_lay RX4 TX4 0, u_lay RX4 TX4 1], w ∈ pq_G
  exact List.forall_mem_cons.mpr ⟨pq_t2 16 rfl rfl, List.forall_mem_cons.mpr ⟨pq_t2 18 rfl rfl, fun _ z => absurd z List.not_mem_nil⟩⟩
def TX5 : u_T := fun k => match k with
  | 0 => ("FormsAboveNought$Maker", "cell", "[[J", true)
  | 1 => ("FormsAboveNought$Maker", "leads", "[I", true)
  | 2 => ("FormsAboveNought$Maker", "rows", "I", false)
  | _ => ("FormsAboveNought$Maker", "columns", "I", false)
def tyX5 : Nat → FieldType := fun k => match k with
  | 0 => .array (.array .long)
  | 1 => .array .int
  | 2 => .int
  | _ => .int
set_option maxRecDepth 8000 in
theorem nmX5 : ∀ a, a < 4 → ∀ b, b < 4 → a ≠ b → (TX5 a).2.1 ≠ (TX5 b).2.1 := by decide +kernel
set_option maxRecDepth 8000 in
theorem tyX5_ok : ∀ k, k < 4 → parseFieldDescriptor (TX5 k).2.2.1 = some (tyX5 k) := by decide +kernel
set_option maxRecDepth 8000 in
theorem uw_X5 : ∀ w ∈ u_ws RX5 TX5 4, w ∈ pq_G := by
  show ∀ w ∈ [u_lay RX5 TX5 0, u_lay RX5 TX5 1, u_lay RX5 TX5 2, u_lay RX5 TX5 3], w ∈ pq_G
  exact List.forall_mem_cons.mpr ⟨pq_t1 209 rfl rfl, List.forall_mem_cons.mpr ⟨pq_t1 211 rfl rfl, List.forall_mem_cons.mpr ⟨pq_t1 213 rfl rfl, List.forall_mem_cons.mpr ⟨pq_t1 215 rfl rfl, fun _ z => absurd z List.not_mem_nil⟩⟩⟩⟩
def TX6 : u_T := fun k => match k with
  | 0 => ("FormsAboveNought$Shelf", "forms", "[LFormsAboveNought$Form;", true)
  | 1 => ("FormsAboveNought$Shelf", "kept", "[LFormsAboveNought$Form;", true)
  | 2 => ("FormsAboveNought$Shelf", "work", "LFormsAboveNought$Work;", true)
  | 3 => ("FormsAboveNought$Shelf", "size", "I", false)
  | _ => ("FormsAboveNought$Shelf", "keptSize", "I", false)
def tyX6 : Nat → FieldType := fun k => match k with
  | 0 => .array (.object "FormsAboveNought$Form")
  | 1 => .array (.object "FormsAboveNought$Form")
  | 2 => .object "FormsAboveNought$Work"
  | 3 => .int
  | _ => .int
set_option maxRecDepth 8000 in
theorem nmX6 : ∀ a, a < 5 → ∀ b, b < 5 → a ≠ b → (TX6 a).2.1 ≠ (TX6 b).2.1 := by decide +kernel
set_option maxRecDepth 8000 in
theorem tyX6_ok : ∀ k, k < 5 → parseFieldDescriptor (TX6 k).2.2.1 = some (tyX6 k) := by decide +kernel
set_option maxRecDepth 8000 in
theorem uw_X6 : ∀ w ∈ u_ws RX6 TX6 5, w ∈ pq_G := by
  show ∀ w ∈ [u_lay RX6 TX6 0, u_lay RX6 TX6 1, u_lay RX6 TX6 2, u_lay RX6 TX6 3, u_lay RX6 TX6 4], w ∈ pq_G
  exact List.forall_mem_cons.mpr ⟨pq_t1 96 rfl rfl, List.forall_mem_cons.mpr ⟨pq_t1 98 rfl rfl, List.forall_mem_cons.mpr ⟨pq_t1 100 rfl rfl, List.forall_mem_cons.mpr ⟨pq_t1 102 rfl rfl, List.forall_mem_cons.mpr ⟨pq_t1 104 rfl rfl, fun _ z => absurd z List.not_mem_nil⟩⟩⟩⟩⟩
def TX7 : u_T := fun k => match k with
  | 0 => ("FormsAboveNought$Speller", "length", "I", false)
  | 1 => ("FormsAboveNought$Speller", "found", "I", false)
  | _ => ("FormsAboveNought$Speller", "wanted", "I", false)
def tyX7 : Nat → FieldType := fun k => match k with
  | 0 => .int
  | 1 => .int
  | _ => .int
set_option maxRecDepth 8000 in
theorem nmX7 : ∀ a, a < 3 → ∀ b, b < 3 → a ≠ b → (TX7 a).2.1 ≠ (TX7 b).2.1 := by decide +kernel
set_option maxRecDepth 8000 in
theorem tyX7_ok : ∀ k, k < 3 → parseFieldDescriptor (TX7 k).2.2.1 = some (tyX7 k) := by decide +kernel
set_option maxRecDepth 8000 in
theorem uw_X7 : ∀ w ∈ u_ws RX7 TX7 3, w ∈ pq_G := by
  show ∀ w ∈ [u_lay RX7 TX7 0, u_lay RX7 TX7 1, u_lay RX7 TX7 2], w ∈ pq_G
  exact List.forall_mem_cons.mpr ⟨pq_t1 190 rfl rfl, List.forall_mem_cons.mpr ⟨pq_t1 192 rfl rfl, List.forall_mem_cons.mpr ⟨pq_t1 194 rfl rfl, fun _ z => absurd z List.not_mem_nil⟩⟩⟩
def TX8 : u_T := fun k => match k with
  | 0 => ("FormsAboveNought$UndoLog", "size", "I", false)
  | 1 => ("FormsAboveNought$UndoLog", "form", "[I", true)
  | 2 => ("FormsAboveNought$UndoLog", "term", "[I", true)
  | 3 => ("FormsAboveNought$UndoLog", "first", "[I", true)
  | 4 => ("FormsAboveNought$UndoLog", "second", "[I", true)
  | _ => ("FormsAboveNought$UndoLog", "next", "I", false)
def tyX8 : Nat → FieldType := fun k => match k with
  | 0 => .int
  | 1 => .array .int
  | 2 => .array .int
  | 3 => .array .int
  | 4 => .array .int
  | _ => .int
set_option maxRecDepth 8000 in
theorem nmX8 : ∀ a, a < 6 → ∀ b, b < 6 → a ≠ b → (TX8 a).2.1 ≠ (TX8 b).2.1 := by decide +kernel
set_option maxRecDepth 8000 in
theorem tyX8_ok : ∀ k, k < 6 → parseFieldDescriptor (TX8 k).2.2.1 = some (tyX8 k) := by decide +kernel
set_option maxRecDepth 8000 in
theorem uw_X8 : ∀ w ∈ u_ws RX8 TX8 6, w ∈ pq_G := by
  show ∀ w ∈ [u_lay RX8 TX8 0, u_lay RX8 TX8 1, u_lay RX8 TX8 2, u_lay RX8 TX8 3, u_lay RX8 TX8 4, u_lay RX8 TX8 5], w ∈ pq_G
  exact List.forall_mem_cons.mpr ⟨pq_t1 231 rfl rfl, List.forall_mem_cons.mpr ⟨pq_t1 233 rfl rfl, List.forall_mem_cons.mpr ⟨pq_t1 235 rfl rfl, List.forall_mem_cons.mpr ⟨pq_t1 237 rfl rfl, List.forall_mem_cons.mpr ⟨pq_t1 239 rfl rfl, List.forall_mem_cons.mpr ⟨pq_t2 1 rfl rfl, fun _ z => absurd z List.not_mem_nil⟩⟩⟩⟩⟩⟩
def TX9 : u_T := fun k => match k with
  | 0 => ("FormsAboveNought$Work", "cell", "[J", true)
  | _ => ("FormsAboveNought$Work", "degree", "I", false)
def tyX9 : Nat → FieldType := fun k => match k with
  | 0 => .array .long
  | _ => .int
set_option maxRecDepth 8000 in
theorem nmX9 : ∀ a, a < 2 → ∀ b, b < 2 → a ≠ b → (TX9 a).2.1 ≠ (TX9 b).2.1 := by decide +kernel
set_option maxRecDepth 8000 in
theorem tyX9_ok : ∀ k, k < 2 → parseFieldDescriptor (TX9 k).2.2.1 = some (tyX9 k) := by decide +kernel
set_option maxRecDepth 8000 in
theorem uw_X9 : ∀ w ∈ u_ws RX9 TX9 2, w ∈ pq_G := by
  show ∀ w ∈ [u_lay RX9 TX9 0, u_lay RX9 TX9 1], w ∈ pq_G
  exact List.forall_mem_cons.mpr ⟨pq_t1 45 rfl rfl, List.forall_mem_cons.mpr ⟨pq_t1 47 rfl rfl, fun _ z => absurd z List.not_mem_nil⟩⟩
def TX10 : u_T := fun k => match k with
  | 0 => ("FormsAboveNought", "shelf", "LFormsAboveNought$Shelf;", true)
  | 1 => ("FormsAboveNought", "letters", "LFormsAboveNought$Letters;", true)
  | 2 => ("FormsAboveNought", "formReader", "LFormsAboveNought$FormReader;", true)
  | 3 => ("FormsAboveNought", "actReader", "LFormsAboveNought$ActReader;", true)
  | 4 => ("FormsAboveNought", "speller", "LFormsAboveNought$Speller;", true)
  | 5 => ("FormsAboveNought", "maker", "LFormsAboveNought$Maker;", true)
  | 6 => ("FormsAboveNought", "log", "LFormsAboveNought$UndoLog;", true)
  | 7 => ("FormsAboveNought", "lists", "LFormsAboveNought$Lists;", true)
  | _ => ("FormsAboveNought", "refusals", "[I", true)
def tyX10 : Nat → FieldType := fun k => match k with
  | 0 => .object "FormsAboveNought$Shelf"
  | 1 => .object "FormsAboveNought$Letters"
  | 2 => .object "FormsAboveNought$FormReader"
  | 3 => .object "FormsAboveNought$ActReader"
  | 4 => .object "FormsAboveNought$Speller"
  | 5 => .object "FormsAboveNought$Maker"
  | 6 => .object "FormsAboveNought$UndoLog"
  | 7 => .object "FormsAboveNought$Lists"
  | _ => .array .int
set_option maxRecDepth 8000 in
theorem nmX10 : ∀ a, a < 9 → ∀ b, b < 9 → a ≠ b → (TX10 a).2.1 ≠ (TX10 b).2.1 := by decide +kernel
set_option maxRecDepth 8000 in
theorem tyX10_ok : ∀ k, k < 9 → parseFieldDescriptor (TX10 k).2.2.1 = some (tyX10 k) := by decide +kernel
set_option maxRecDepth 8000 in
theorem uw_X10 : ∀ w ∈ u_ws RX10 TX10 9, w ∈ pq_G := by
  show ∀ w ∈ [u_lay RX10 TX10 0, u_lay RX10 TX10 1, u_lay RX10 TX10 2, u_lay RX10 TX10 3, u_lay RX10 TX10 4, u_lay RX10 TX10 5, u_lay RX10 TX10 6, u_lay RX10 TX10 7, u_lay RX10 TX10 8], w ∈ pq_G
  exact List.forall_mem_cons.mpr ⟨pq_t2 30 rfl rfl, List.forall_mem_cons.mpr ⟨pq_t2 32 rfl rfl, List.forall_mem_cons.mpr ⟨pq_t2 34 rfl rfl, List.forall_mem_cons.mpr ⟨pq_t2 36 rfl rfl, List.forall_mem_cons.mpr ⟨pq_t2 38 rfl rfl, List.forall_mem_cons.mpr ⟨pq_t2 40 rfl rfl, List.forall_mem_cons.mpr ⟨pq_t2 42 rfl rfl, List.forall_mem_cons.mpr ⟨pq_t2 44 rfl rfl, List.forall_mem_cons.mpr ⟨pq_t2 46 rfl rfl, fun _ z => absurd z List.not_mem_nil⟩⟩⟩⟩⟩⟩⟩⟩⟩
def TX11 : u_T := fun k => match k with
  | 0 => ("FormsAboveNoughtModel", "refusals", "[I", true)
  | 1 => ("FormsAboveNoughtModel", "told", "[I", true)
  | 2 => ("FormsAboveNoughtModel", "kinds", "[I", true)
  | 3 => ("FormsAboveNoughtModel", "figures", "[I", true)
  | 4 => ("FormsAboveNoughtModel", "degrees", "[I", true)
  | 5 => ("FormsAboveNoughtModel", "forms", "I", false)
  | 6 => ("FormsAboveNoughtModel", "undoWhere", "[I", true)
  | 7 => ("FormsAboveNoughtModel", "undoWas", "[I", true)
  | 8 => ("FormsAboveNoughtModel", "undos", "I", false)
  | 9 => ("FormsAboveNoughtModel", "coming", "[J", true)
  | 10 => ("FormsAboveNoughtModel", "tape", "[I", true)
  | 11 => ("FormsAboveNoughtModel", "taped", "I", false)
  | 12 => ("FormsAboveNoughtModel", "at", "I", false)
  | 13 => ("FormsAboveNoughtModel", "powers", "[I", true)
  | 14 => ("FormsAboveNoughtModel", "actWord", "[I", true)
  | 15 => ("FormsAboveNoughtModel", "actPlace", "[I", true)
  | 16 => ("FormsAboveNoughtModel", "actOne", "[I", true)
  | 17 => ("FormsAboveNoughtModel", "actTwo", "[I", true)
  | 18 => ("FormsAboveNoughtModel", "actMany", "I", false)
  | 19 => ("FormsAboveNoughtModel", "now", "[J", true)
  | 20 => ("FormsAboveNoughtModel", "ahead", "[J", true)
  | 21 => ("FormsAboveNoughtModel", "deep", "I", false)
  | 22 => ("FormsAboveNoughtModel", "x", "I", false)
  | 23 => ("FormsAboveNoughtModel", "y", "I", false)
  | 24 => ("FormsAboveNoughtModel", "z", "I", false)
  | 25 => ("FormsAboveNoughtModel", "points", "I", false)
  | 26 => ("FormsAboveNoughtModel", "above", "I", false)
  | 27 => ("FormsAboveNoughtModel", "lowestAt", "I", false)
  | 28 => ("FormsAboveNoughtModel", "lowestValue", "J", false)
  | 29 => ("FormsAboveNoughtModel", "columns", "[I", true)
  | 30 => ("FormsAboveNoughtModel", "columnOf", "[I", true)
  | 31 => ("FormsAboveNoughtModel", "width", "I", false)
  | 32 => ("FormsAboveNoughtModel", "a", "I", false)
  | 33 => ("FormsAboveNoughtModel", "b", "I", false)
  | 34 => ("FormsAboveNoughtModel", "c", "I", false)
  | 35 => ("FormsAboveNoughtModel", "spelt", "[I", true)
  | 36 => ("FormsAboveNoughtModel", "signs", "I", false)
  | 37 => ("FormsAboveNoughtModel", "lot", "I", false)
  | 38 => ("FormsAboveNoughtModel", "sizes", "[I", true)
  | 39 => ("FormsAboveNoughtModel", "items", "[I", true)
  | 40 => ("FormsAboveNoughtModel", "kept", "[I", true)
  | 41 => ("FormsAboveNoughtModel", "cursor", "I", false)
  | 42 => ("FormsAboveNoughtModel", "imaged", "I", false)
  | _ => ("FormsAboveNoughtModel", "isKeeping", "Z", false)
def tyX11 : Nat → FieldType := fun k => match k with
  | 0 => .array .int
  | 1 => .array .int
  | 2 => .array .int
  | 3 => .array .int
  | 4 => .array .int
  | 5 => .int
  | 6 => .array .int
  | 7 => .array .int
  | 8 => .int
  | 9 => .array .long
  | 10 => .array .int
  | 11 => .int
  | 12 => .int
  | 13 => .array .int
  | 14 => .array .int
  | 15 => .array .int
  | 16 => .array .int
  | 17 => .array .int
  | 18 => .int
  | 19 => .array .long
  | 20 => .array .long
  | 21 => .int
  | 22 => .int
  | 23 => .int
  | 24 => .int
  | 25 => .int
  | 26 => .int
  | 27 => .int
  | 28 => .long
  | 29 => .array .int
  | 30 => .array .int
  | 31 => .int
  | 32 => .int
  | 33 => .int
  | 34 => .int
  | 35 => .array .int
  | 36 => .int
  | 37 => .int
  | 38 => .array .int
  | 39 => .array .int
  | 40 => .array .int
  | 41 => .int
  | 42 => .int
  | _ => .boolean
set_option maxRecDepth 8000 in
theorem nmX11 : ∀ a, a < 44 → ∀ b, b < 44 → a ≠ b → (TX11 a).2.1 ≠ (TX11 b).2.1 := by decide +kernel
set_option maxRecDepth 8000 in
theorem tyX11_ok : ∀ k, k < 44 → parseFieldDescriptor (TX11 k).2.2.1 = some (tyX11 k) := by decide +kernel
set_option maxRecDepth 8000 in
theorem uw_X11 : ∀ w ∈ u_ws RX11 TX11 44, w ∈ pq_G := by
  show ∀ w ∈ [u_lay RX11 TX11 0, u_lay RX11 TX11 1, u_lay RX11 TX11 2, u_lay RX11 TX11 3, u_lay RX11 TX11 4, u_lay RX11 TX11 5, u_lay RX11 TX11 6, u_lay RX11 TX11 7, u_lay RX11 TX11 8, u_lay RX11 TX11 9, u_lay RX11 TX11 10, u_lay RX11 TX11 11, u_lay RX11 TX11 12, u_lay RX11 TX11 13, u_lay RX11 TX11 14, u_lay RX11 TX11 15, u_lay RX11 TX11 16, u_lay RX11 TX11 17, u_lay RX11 TX11 18, u_lay RX11 TX11 19, u_lay RX11 TX11 20, u_lay RX11 TX11 21, u_lay RX11 TX11 22, u_lay RX11 TX11 23, u_lay RX11 TX11 24, u_lay RX11 TX11 25, u_lay RX11 TX11 26, u_lay RX11 TX11 27, u_lay RX11 TX11 28, u_lay RX11 TX11 29, u_lay RX11 TX11 30, u_lay RX11 TX11 31, u_lay RX11 TX11 32, u_lay RX11 TX11 33, u_lay RX11 TX11 34, u_lay RX11 TX11 35, u_lay RX11 TX11 36, u_lay RX11 TX11 37, u_lay RX11 TX11 38, u_lay RX11 TX11 39, u_lay RX11 TX11 40, u_lay RX11 TX11 41, u_lay RX11 TX11 42, u_lay RX11 TX11 43], w ∈ pq_G
  exact List.forall_mem_cons.mpr ⟨pq_t5 4 rfl rfl, List.forall_mem_cons.mpr ⟨pq_t5 6 rfl rfl, List.forall_mem_cons.mpr ⟨pq_t5 8 rfl rfl, List.forall_mem_cons.mpr ⟨pq_t5 10 rfl rfl, List.forall_mem_cons.mpr ⟨pq_t5 12 rfl rfl, List.forall_mem_cons.mpr ⟨pq_t5 14 rfl rfl, List.forall_mem_cons.mpr ⟨pq_t5 16 rfl rfl, List.forall_mem_cons.mpr ⟨pq_t5 18 rfl rfl, List.forall_mem_cons.mpr ⟨pq_t5 20 rfl rfl, List.forall_mem_cons.mpr ⟨pq_t5 22 rfl rfl, List.forall_mem_cons.mpr ⟨pq_t5 24 rfl rfl, List.forall_mem_cons.mpr ⟨pq_t5 26 rfl rfl, List.forall_mem_cons.mpr ⟨pq_t5 28 rfl rfl, List.forall_mem_cons.mpr ⟨pq_t5 30 rfl rfl, List.forall_mem_cons.mpr ⟨pq_t5 32 rfl rfl, List.forall_mem_cons.mpr ⟨pq_t5 34 rfl rfl, List.forall_mem_cons.mpr ⟨pq_t5 36 rfl rfl, List.forall_mem_cons.mpr ⟨pq_t5 38 rfl rfl, List.forall_mem_cons.mpr ⟨pq_t5 40 rfl rfl, List.forall_mem_cons.mpr ⟨pq_t5 42 rfl rfl, List.forall_mem_cons.mpr ⟨pq_t5 44 rfl rfl, List.forall_mem_cons.mpr ⟨pq_t5 46 rfl rfl, List.forall_mem_cons.mpr ⟨pq_t5 48 rfl rfl, List.forall_mem_cons.mpr ⟨pq_t5 50 rfl rfl, List.forall_mem_cons.mpr ⟨pq_t5 52 rfl rfl, List.forall_mem_cons.mpr ⟨pq_t5 54 rfl rfl, List.forall_mem_cons.mpr ⟨pq_t5 56 rfl rfl, List.forall_mem_cons.mpr ⟨pq_t5 58 rfl rfl, List.forall_mem_cons.mpr ⟨pq_t5 60 rfl rfl, List.forall_mem_cons.mpr ⟨pq_t5 62 rfl rfl, List.forall_mem_cons.mpr ⟨pq_t5 64 rfl rfl, List.forall_mem_cons.mpr ⟨pq_t5 66 rfl rfl, List.forall_mem_cons.mpr ⟨pq_t5 68 rfl rfl, List.forall_mem_cons.mpr ⟨pq_t5 70 rfl rfl, List.forall_mem_cons.mpr ⟨pq_t5 72 rfl rfl, List.forall_mem_cons.mpr ⟨pq_t5 74 rfl rfl, List.forall_mem_cons.mpr ⟨pq_t5 76 rfl rfl, List.forall_mem_cons.mpr ⟨pq_t5 78 rfl rfl, List.forall_mem_cons.mpr ⟨pq_t5 80 rfl rfl, List.forall_mem_cons.mpr ⟨pq_t5 82 rfl rfl, List.forall_mem_cons.mpr ⟨pq_t5 84 rfl rfl, List.forall_mem_cons.mpr ⟨pq_t5 86 rfl rfl, List.forall_mem_cons.mpr ⟨pq_t5 88 rfl rfl, List.forall_mem_cons.mpr ⟨pq_t5 90 rfl rfl, fun _ z => absurd z List.not_mem_nil⟩⟩⟩⟩⟩⟩⟩⟩⟩⟩⟩⟩⟩⟩⟩⟩⟩⟩⟩⟩⟩⟩⟩⟩⟩⟩⟩⟩⟩⟩⟩⟩⟩⟩⟩⟩⟩⟩⟩⟩⟩⟩⟩⟩
abbrev vwCl : List vw_C := [(RX0, TX0, 7), (RX1, TX1, 4), (RX2, TX2, 5), (RX3, TX3, 2), (RX4, TX4, 2), (RX5, TX5, 4), (RX6, TX6, 5), (RX7, TX7, 3), (RX8, TX8, 6), (RX9, TX9, 2), (RX10, TX10, 9), (RX11, TX11, 44)]
abbrev cX0_init : ByteArray := prog_2_method_1_code
def yX0_init : MethodName := ⟨RX0, "<init>", "()V"⟩
abbrev cX0_read : ByteArray := prog_2_method_2_code
def yX0_read : MethodName := ⟨RX0, "read", "(LFormsAboveNought$Letters;)I"⟩
abbrev cX0_readAct : ByteArray := prog_2_method_3_code
def yX0_readAct : MethodName := ⟨RX0, "readAct", "()Z"⟩
abbrev cX0_readNumber : ByteArray := prog_2_method_4_code
def yX0_readNumber : MethodName := ⟨RX0, "readNumber", "()I"⟩
abbrev cX0_wordAt : ByteArray := prog_2_method_5_code
def yX0_wordAt : MethodName := ⟨RX0, "wordAt", "(I)I"⟩
abbrev cX0_textOf : ByteArray := prog_2_method_6_code
def yX0_textOf : MethodName := ⟨RX0, "textOf", "(I)Ljava/lang/String;"⟩
abbrev cX1_init : ByteArray := prog_3_method_1_code
def yX1_init : MethodName := ⟨RX1, "<init>", "()V"⟩
abbrev cX1_makeNought : ByteArray := prog_3_method_2_code
def yX1_makeNought : MethodName := ⟨RX1, "makeNought", "()V"⟩
abbrev cX1_copyOf : ByteArray := prog_3_method_3_code
def yX1_copyOf : MethodName := ⟨RX1, "copyOf", "(LFormsAboveNought$Form;)V"⟩
abbrev cX1_has : ByteArray := prog_3_method_4_code
def yX1_has : MethodName := ⟨RX1, "has", "(III)I"⟩
abbrev cX1_at : ByteArray := prog_3_method_5_code
def yX1_at : MethodName := ⟨RX1, "at", "(I)I"⟩
abbrev cX1_howMany : ByteArray := prog_3_method_6_code
def yX1_howMany : MethodName := ⟨RX1, "howMany", "(Z)I"⟩
abbrev cX2_init : ByteArray := prog_4_method_1_code
def yX2_init : MethodName := ⟨RX2, "<init>", "()V"⟩
abbrev cX2_read : ByteArray := prog_4_method_2_code
def yX2_read : MethodName := ⟨RX2, "read", "(LFormsAboveNought$Letters;LFormsAboveNought$Form;)I"⟩
abbrev cX2_readMember : ByteArray := prog_4_method_3_code
def yX2_readMember : MethodName := ⟨RX2, "readMember", "(LFormsAboveNought$Form;Z)Z"⟩
abbrev cX2_readNumber : ByteArray := prog_4_method_4_code
def yX2_readNumber : MethodName := ⟨RX2, "readNumber", "()I"⟩
abbrev cX2_readPower : ByteArray := prog_4_method_5_code
def yX2_readPower : MethodName := ⟨RX2, "readPower", "(I)Z"⟩
abbrev cX2_fits : ByteArray := prog_4_method_6_code
def yX2_fits : MethodName := ⟨RX2, "fits", "(I)Z"⟩
abbrev cX3_init : ByteArray := prog_5_method_1_code
def yX3_init : MethodName := ⟨RX3, "<init>", "()V"⟩
abbrev cX3_add : ByteArray := prog_5_method_2_code
def yX3_add : MethodName := ⟨RX3, "add", "(I)V"⟩
abbrev cX3_at : ByteArray := prog_5_method_3_code
def yX3_at : MethodName := ⟨RX3, "at", "(I)I"⟩
abbrev cX3_hasDigit : ByteArray := prog_5_method_4_code
def yX3_hasDigit : MethodName := ⟨RX3, "hasDigit", "(I)Z"⟩
abbrev cX3_hasSmall : ByteArray := prog_5_method_5_code
def yX3_hasSmall : MethodName := ⟨RX3, "hasSmall", "(I)Z"⟩
abbrev cX3_hasText : ByteArray := prog_5_method_6_code
def yX3_hasText : MethodName := ⟨RX3, "hasText", "(Ljava/lang/String;I)Z"⟩
abbrev cX4_init : ByteArray := prog_6_method_1_code
def yX4_init : MethodName := ⟨RX4, "<init>", "()V"⟩
abbrev cX4_misses : ByteArray := prog_6_method_2_code
def yX4_misses : MethodName := ⟨RX4, "misses", "(I)Z"⟩
abbrev cX4_renew : ByteArray := prog_6_method_3_code
def yX4_renew : MethodName := ⟨RX4, "renew", "(II)V"⟩
abbrev cX4_isPolynomial : ByteArray := prog_6_method_4_code
def yX4_isPolynomial : MethodName := ⟨RX4, "isPolynomial", "(I)Z"⟩
abbrev cX4_wall : ByteArray := prog_6_method_5_code
def yX4_wall : MethodName := ⟨RX4, "wall", "(III)J"⟩
abbrev cX4_wallsClear : ByteArray := prog_6_method_6_code
def yX4_wallsClear : MethodName := ⟨RX4, "wallsClear", "(III)Z"⟩
abbrev cX4_ways : ByteArray := prog_6_method_7_code
def yX4_ways : MethodName := ⟨RX4, "ways", "(II)J"⟩
abbrev cX5_init : ByteArray := prog_7_method_1_code
def yX5_init : MethodName := ⟨RX5, "<init>", "()V"⟩
abbrev cX5_makes : ByteArray := prog_7_method_2_code
def yX5_makes : MethodName := ⟨RX5, "makes", "(LFormsAboveNought$Shelf;II)Z"⟩
abbrev cX5_fill : ByteArray := prog_7_method_3_code
def yX5_fill : MethodName := ⟨RX5, "fill", "(ILFormsAboveNought$Form;)V"⟩
abbrev cX5_lead : ByteArray := prog_7_method_4_code
def yX5_lead : MethodName := ⟨RX5, "lead", "(II)I"⟩
abbrev cX5_leader : ByteArray := prog_7_method_5_code
def yX5_leader : MethodName := ⟨RX5, "leader", "(II)I"⟩
abbrev cX5_takeAway : ByteArray := prog_7_method_6_code
def yX5_takeAway : MethodName := ⟨RX5, "takeAway", "(III)V"⟩
abbrev cX5_fraction : ByteArray := prog_7_method_7_code
def yX5_fraction : MethodName := ⟨RX5, "fraction", "(III)J"⟩
abbrev cX6_init : ByteArray := prog_8_method_1_code
def yX6_init : MethodName := ⟨RX6, "<init>", "()V"⟩
abbrev cX6_isFull : ByteArray := prog_8_method_2_code
def yX6_isFull : MethodName := ⟨RX6, "isFull", "()Z"⟩
abbrev cX6_lacks : ByteArray := prog_8_method_3_code
def yX6_lacks : MethodName := ⟨RX6, "lacks", "(I)Z"⟩
abbrev cX6_lacksOf : ByteArray := prog_8_method_4_code
def yX6_lacksOf : MethodName := ⟨RX6, "lacksOf", "(I)Z"⟩
abbrev cX6_keepImage : ByteArray := prog_8_method_5_code
def yX6_keepImage : MethodName := ⟨RX6, "keepImage", "()V"⟩
abbrev cX6_restoreImage : ByteArray := prog_8_method_6_code
def yX6_restoreImage : MethodName := ⟨RX6, "restoreImage", "()V"⟩
abbrev cX6_termsOfAll : ByteArray := prog_8_method_7_code
def yX6_termsOfAll : MethodName := ⟨RX6, "termsOfAll", "()I"⟩
abbrev cX6_clearForms : ByteArray := prog_8_method_8_code
def yX6_clearForms : MethodName := ⟨RX6, "clearForms", "()I"⟩
abbrev cX6_canMake : ByteArray := prog_8_method_9_code
def yX6_canMake : MethodName := ⟨RX6, "canMake", "(II)Z"⟩
abbrev cX6_isSmall : ByteArray := prog_8_method_10_code
def yX6_isSmall : MethodName := ⟨RX6, "isSmall", "(LFormsAboveNought$Form;)Z"⟩
abbrev cX6_perform : ByteArray := prog_8_method_11_code
def yX6_perform : MethodName := ⟨RX6, "perform", "(LFormsAboveNought$ActReader;)I"⟩
abbrev cX6_performOne : ByteArray := prog_8_method_12_code
def yX6_performOne : MethodName := ⟨RX6, "performOne", "(III)Z"⟩
abbrev cX6_bringSum : ByteArray := prog_8_method_13_code
def yX6_bringSum : MethodName := ⟨RX6, "bringSum", "(II)Z"⟩
abbrev cX6_bringProduct : ByteArray := prog_8_method_14_code
def yX6_bringProduct : MethodName := ⟨RX6, "bringProduct", "(II)Z"⟩
abbrev cX6_addTimes : ByteArray := prog_8_method_15_code
def yX6_addTimes : MethodName := ⟨RX6, "addTimes", "(JIILFormsAboveNought$Form;)V"⟩
abbrev cX6_bringLift : ByteArray := prog_8_method_16_code
def yX6_bringLift : MethodName := ⟨RX6, "bringLift", "(II)Z"⟩
abbrev cX6_bringNegative : ByteArray := prog_8_method_17_code
def yX6_bringNegative : MethodName := ⟨RX6, "bringNegative", "(I)Z"⟩
abbrev cX6_bringOn : ByteArray := prog_8_method_18_code
def yX6_bringOn : MethodName := ⟨RX6, "bringOn", "(II)Z"⟩
abbrev cX6_settle : ByteArray := prog_8_method_19_code
def yX6_settle : MethodName := ⟨RX6, "settle", "()Z"⟩
abbrev cX7_init : ByteArray := prog_9_method_1_code
def yX7_init : MethodName := ⟨RX7, "<init>", "()V"⟩
abbrev cX7_spell : ByteArray := prog_9_method_2_code
def yX7_spell : MethodName := ⟨RX7, "spell", "(LFormsAboveNought$Form;I)V"⟩
abbrev cX7_spellTerm : ByteArray := prog_9_method_3_code
def yX7_spellTerm : MethodName := ⟨RX7, "spellTerm", "(LFormsAboveNought$Form;III)V"⟩
abbrev cX7_spellNumber : ByteArray := prog_9_method_4_code
def yX7_spellNumber : MethodName := ⟨RX7, "spellNumber", "(I)V"⟩
abbrev cX7_spellPower : ByteArray := prog_9_method_5_code
def yX7_spellPower : MethodName := ⟨RX7, "spellPower", "(II)V"⟩
abbrev cX7_add : ByteArray := prog_9_method_6_code
def yX7_add : MethodName := ⟨RX7, "add", "(I)V"⟩
abbrev cX8_init : ByteArray := prog_10_method_1_code
def yX8_init : MethodName := ⟨RX8, "<init>", "()V"⟩
abbrev cX8_add : ByteArray := prog_10_method_2_code
def yX8_add : MethodName := ⟨RX8, "add", "(IIII)V"⟩
abbrev cX8_takeBack : ByteArray := prog_10_method_3_code
def yX8_takeBack : MethodName := ⟨RX8, "takeBack", "(LFormsAboveNought$Shelf;)V"⟩
abbrev cX9_init : ByteArray := prog_11_method_1_code
def yX9_init : MethodName := ⟨RX9, "<init>", "()V"⟩
abbrev cX9_makeNought : ByteArray := prog_11_method_2_code
def yX9_makeNought : MethodName := ⟨RX9, "makeNought", "(I)V"⟩
abbrev cX9_takeOn : ByteArray := prog_11_method_3_code
def yX9_takeOn : MethodName := ⟨RX9, "takeOn", "(LFormsAboveNought$Form;I)V"⟩
abbrev cX9_raise : ByteArray := prog_11_method_4_code
def yX9_raise : MethodName := ⟨RX9, "raise", "(II)V"⟩
abbrev cX9_raiseOnce : ByteArray := prog_11_method_5_code
def yX9_raiseOnce : MethodName := ⟨RX9, "raiseOnce", "(I)V"⟩
abbrev cX9_among : ByteArray := prog_11_method_6_code
def yX9_among : MethodName := ⟨RX9, "among", "(II)J"⟩
abbrev cX9_firstFault : ByteArray := prog_11_method_7_code
def yX9_firstFault : MethodName := ⟨RX9, "firstFault", "(II)I"⟩
abbrev cX9_leastLift : ByteArray := prog_11_method_8_code
def yX9_leastLift : MethodName := ⟨RX9, "leastLift", "(II)I"⟩
abbrev cX9_worth : ByteArray := prog_11_method_9_code
def yX9_worth : MethodName := ⟨RX9, "worth", "(III)J"⟩
abbrev cX9_worthAt : ByteArray := prog_11_method_10_code
def yX9_worthAt : MethodName := ⟨RX9, "worthAt", "(III)J"⟩
abbrev cX9_failingSize : ByteArray := prog_11_method_11_code
def yX9_failingSize : MethodName := ⟨RX9, "failingSize", "(II)I"⟩
abbrev cX9_failingPoint : ByteArray := prog_11_method_12_code
def yX9_failingPoint : MethodName := ⟨RX9, "failingPoint", "(III)I"⟩
abbrev cX9_lowestPoint : ByteArray := prog_11_method_13_code
def yX9_lowestPoint : MethodName := ⟨RX9, "lowestPoint", "(II)I"⟩
abbrev cX9_pointsAbove : ByteArray := prog_11_method_14_code
def yX9_pointsAbove : MethodName := ⟨RX9, "pointsAbove", "(II)I"⟩
abbrev cX10_init : ByteArray := prog_1_method_1_code
def yX10_init : MethodName := ⟨RX10, "<init>", "()V"⟩
abbrev cX10_letter : ByteArray := prog_1_method_2_code
def yX10_letter : MethodName := ⟨RX10, "letter", "(I)I"⟩
abbrev cX10_form : ByteArray := prog_1_method_3_code
def yX10_form : MethodName := ⟨RX10, "form", "()I"⟩
abbrev cX10_acts : ByteArray := prog_1_method_4_code
def yX10_acts : MethodName := ⟨RX10, "acts", "()I"⟩
abbrev cX10_drop : ByteArray := prog_1_method_5_code
def yX10_drop : MethodName := ⟨RX10, "drop", "()I"⟩
abbrev cX10_change : ByteArray := prog_1_method_6_code
def yX10_change : MethodName := ⟨RX10, "change", "(III)I"⟩
abbrev cX10_turn : ByteArray := prog_1_method_7_code
def yX10_turn : MethodName := ⟨RX10, "turn", "(III)I"⟩
abbrev cX10_of : ByteArray := prog_1_method_8_code
def yX10_of : MethodName := ⟨RX10, "of", "(II)I"⟩
abbrev cX10_taken : ByteArray := prog_1_method_9_code
def yX10_taken : MethodName := ⟨RX10, "taken", "(II)I"⟩
abbrev cX10_coefficient : ByteArray := prog_1_method_10_code
def yX10_coefficient : MethodName := ⟨RX10, "coefficient", "(II)I"⟩
abbrev cX10_value : ByteArray := prog_1_method_11_code
def yX10_value : MethodName := ⟨RX10, "value", "(IIII)J"⟩
abbrev cX10_lifted : ByteArray := prog_1_method_12_code
def yX10_lifted : MethodName := ⟨RX10, "lifted", "(IIII)J"⟩
abbrev cX10_fault : ByteArray := prog_1_method_13_code
def yX10_fault : MethodName := ⟨RX10, "fault", "(IIII)I"⟩
abbrev cX10_least : ByteArray := prog_1_method_14_code
def yX10_least : MethodName := ⟨RX10, "least", "(III)I"⟩
abbrev cX10_failing : ByteArray := prog_1_method_15_code
def yX10_failing : MethodName := ⟨RX10, "failing", "(IIII)I"⟩
abbrev cX10_lowest : ByteArray := prog_1_method_16_code
def yX10_lowest : MethodName := ⟨RX10, "lowest", "(IIII)J"⟩
abbrev cX10_share : ByteArray := prog_1_method_17_code
def yX10_share : MethodName := ⟨RX10, "share", "(IIII)J"⟩
abbrev cX10_proof : ByteArray := prog_1_method_18_code
def yX10_proof : MethodName := ⟨RX10, "proof", "(II)I"⟩
abbrev cX10_walls : ByteArray := prog_1_method_19_code
def yX10_walls : MethodName := ⟨RX10, "walls", "(III)J"⟩
abbrev cX10_wallsLeast : ByteArray := prog_1_method_20_code
def yX10_wallsLeast : MethodName := ⟨RX10, "wallsLeast", "(II)I"⟩
abbrev cX10_made : ByteArray := prog_1_method_21_code
def yX10_made : MethodName := ⟨RX10, "made", "(IIII)J"⟩
abbrev cX10_sum : ByteArray := prog_1_method_22_code
def yX10_sum : MethodName := ⟨RX10, "sum", "(II)I"⟩
abbrev cX10_product : ByteArray := prog_1_method_23_code
def yX10_product : MethodName := ⟨RX10, "product", "(II)I"⟩
abbrev cX10_lift : ByteArray := prog_1_method_24_code
def yX10_lift : MethodName := ⟨RX10, "lift", "(II)I"⟩
abbrev cX10_negative : ByteArray := prog_1_method_25_code
def yX10_negative : MethodName := ⟨RX10, "negative", "(I)I"⟩
abbrev cX10_on : ByteArray := prog_1_method_26_code
def yX10_on : MethodName := ⟨RX10, "on", "(II)I"⟩
abbrev cX10_spelled : ByteArray := prog_1_method_27_code
def yX10_spelled : MethodName := ⟨RX10, "spelled", "(II)I"⟩
abbrev cX10_lots : ByteArray := prog_1_method_28_code
def yX10_lots : MethodName := ⟨RX10, "lots", "(IIII)I"⟩
abbrev cX10_list : ByteArray := prog_1_method_29_code
def yX10_list : MethodName := ⟨RX10, "list", "(II)I"⟩
abbrev cX10_put : ByteArray := prog_1_method_30_code
def yX10_put : MethodName := ⟨RX10, "put", "(III)I"⟩
abbrev cX10_look : ByteArray := prog_1_method_31_code
def yX10_look : MethodName := ⟨RX10, "look", "(II)J"⟩
abbrev cX10_lays : ByteArray := prog_1_method_32_code
def yX10_lays : MethodName := ⟨RX10, "lays", "(III)I"⟩
abbrev cX10_judge : ByteArray := prog_1_method_33_code
def yX10_judge : MethodName := ⟨RX10, "judge", "(II)I"⟩
abbrev cX10_undo : ByteArray := prog_1_method_34_code
def yX10_undo : MethodName := ⟨RX10, "undo", "()I"⟩
abbrev cX10_image : ByteArray := prog_1_method_35_code
def yX10_image : MethodName := ⟨RX10, "image", "()I"⟩
abbrev cX10_back : ByteArray := prog_1_method_36_code
def yX10_back : MethodName := ⟨RX10, "back", "()I"⟩
abbrev cX10_count : ByteArray := prog_1_method_37_code
def yX10_count : MethodName := ⟨RX10, "count", "(I)I"⟩
abbrev cX10_refuse : ByteArray := prog_1_method_38_code
def yX10_refuse : MethodName := ⟨RX10, "refuse", "(I)I"⟩
abbrev cX10_refuseFarInt : ByteArray := prog_1_method_39_code
def yX10_refuseFarInt : MethodName := ⟨RX10, "refuseFarInt", "(I)I"⟩
abbrev cX10_refuseFar : ByteArray := prog_1_method_40_code
def yX10_refuseFar : MethodName := ⟨RX10, "refuseFar", "(I)J"⟩
abbrev cX10_pointsRefused : ByteArray := prog_1_method_41_code
def yX10_pointsRefused : MethodName := ⟨RX10, "pointsRefused", "(IIII)I"⟩
abbrev cX10_cameOr : ByteArray := prog_1_method_42_code
def yX10_cameOr : MethodName := ⟨RX10, "cameOr", "(Z)I"⟩
abbrev cX10_lacksTerm : ByteArray := prog_1_method_43_code
def yX10_lacksTerm : MethodName := ⟨RX10, "lacksTerm", "(II)Z"⟩
abbrev cX10_workOn : ByteArray := prog_1_method_44_code
def yX10_workOn : MethodName := ⟨RX10, "workOn", "(II)LFormsAboveNought$Work;"⟩
abbrev cX10_notBelow : ByteArray := prog_1_method_45_code
def yX10_notBelow : MethodName := ⟨RX10, "notBelow", "(II)Z"⟩
abbrev cX10_termsOf : ByteArray := prog_1_method_46_code
def yX10_termsOf : MethodName := ⟨RX10, "termsOf", "(I)I"⟩
abbrev cX10_termOf : ByteArray := prog_1_method_47_code
def yX10_termOf : MethodName := ⟨RX10, "termOf", "(II)I"⟩
abbrev cX10_behindA : ByteArray := prog_1_method_48_code
def yX10_behindA : MethodName := ⟨RX10, "behindA", "(I)I"⟩
abbrev cX10_isUnder : ByteArray := prog_1_method_49_code
def yX10_isUnder : MethodName := ⟨RX10, "isUnder", "(II)Z"⟩
abbrev cX10_isSide : ByteArray := prog_1_method_50_code
def yX10_isSide : MethodName := ⟨RX10, "isSide", "(I)Z"⟩
abbrev cX10_standsOn : ByteArray := prog_1_method_51_code
def yX10_standsOn : MethodName := ⟨RX10, "standsOn", "(IIII)Z"⟩
abbrev cX10_placesOn : ByteArray := prog_1_method_52_code
def yX10_placesOn : MethodName := ⟨RX10, "placesOn", "(II)I"⟩
abbrev cX10_numberOn : ByteArray := prog_1_method_53_code
def yX10_numberOn : MethodName := ⟨RX10, "numberOn", "(III)I"⟩
abbrev cX10_fails : ByteArray := prog_1_method_54_code
def yX10_fails : MethodName := ⟨RX10, "fails", "(JI)Z"⟩
abbrev cX10_partOf : ByteArray := prog_1_method_55_code
def yX10_partOf : MethodName := ⟨RX10, "partOf", "(JJI)J"⟩
abbrev cX10_commonOf : ByteArray := prog_1_method_56_code
def yX10_commonOf : MethodName := ⟨RX10, "commonOf", "(JJ)J"⟩
abbrev cX10_drawLots : ByteArray := prog_1_method_57_code
def yX10_drawLots : MethodName := ⟨RX10, "drawLots", "(LFormsAboveNought$Work;III)I"⟩
abbrev cX10_nextSeed : ByteArray := prog_1_method_58_code
def yX10_nextSeed : MethodName := ⟨RX10, "nextSeed", "(I)I"⟩
abbrev cX10_drawOf : ByteArray := prog_1_method_59_code
def yX10_drawOf : MethodName := ⟨RX10, "drawOf", "(I)I"⟩
abbrev cX11_no : ByteArray := prog_13_method_1_code
def yX11_no : MethodName := ⟨RX11, "no", "(I)I"⟩
abbrev cX11_far : ByteArray := prog_13_method_2_code
def yX11_far : MethodName := ⟨RX11, "far", "(I)I"⟩
abbrev cX11_lower : ByteArray := prog_13_method_3_code
def yX11_lower : MethodName := ⟨RX11, "lower", "(I)J"⟩
abbrev cX11_isIn : ByteArray := prog_13_method_4_code
def yX11_isIn : MethodName := ⟨RX11, "isIn", "(III)Z"⟩
abbrev cX11_bound : ByteArray := prog_13_method_5_code
def yX11_bound : MethodName := ⟨RX11, "bound", "(III)I"⟩
abbrev cX11_termsOf : ByteArray := prog_13_method_6_code
def yX11_termsOf : MethodName := ⟨RX11, "termsOf", "(I)I"⟩
abbrev cX11_termOf : ByteArray := prog_13_method_7_code
def yX11_termOf : MethodName := ⟨RX11, "termOf", "(III)I"⟩
abbrev cX11_restOf : ByteArray := prog_13_method_8_code
def yX11_restOf : MethodName := ⟨RX11, "restOf", "(I)I"⟩
abbrev cX11_powerIn : ByteArray := prog_13_method_9_code
def yX11_powerIn : MethodName := ⟨RX11, "powerIn", "(III)I"⟩
abbrev cX11_isOn : ByteArray := prog_13_method_10_code
def yX11_isOn : MethodName := ⟨RX11, "isOn", "(III)Z"⟩
abbrev cX11_init : ByteArray := prog_13_method_11_code
def yX11_init : MethodName := ⟨RX11, "<init>", "()V"⟩
abbrev cX11_isForm : ByteArray := prog_13_method_12_code
def yX11_isForm : MethodName := ⟨RX11, "isForm", "(I)Z"⟩
abbrev cX11_isSide : ByteArray := prog_13_method_13_code
def yX11_isSide : MethodName := ⟨RX11, "isSide", "(I)Z"⟩
abbrev cX11_isSort : ByteArray := prog_13_method_14_code
def yX11_isSort : MethodName := ⟨RX11, "isSort", "(I)Z"⟩
abbrev cX11_isTerm : ByteArray := prog_13_method_15_code
def yX11_isTerm : MethodName := ⟨RX11, "isTerm", "(II)Z"⟩
abbrev cX11_toldAt : ByteArray := prog_13_method_16_code
def yX11_toldAt : MethodName := ⟨RX11, "toldAt", "(III)I"⟩
abbrev cX11_coefficientOf : ByteArray := prog_13_method_17_code
def yX11_coefficientOf : MethodName := ⟨RX11, "coefficientOf", "(II)I"⟩
abbrev cX11_many : ByteArray := prog_13_method_18_code
def yX11_many : MethodName := ⟨RX11, "many", "(II)I"⟩
abbrev cX11_notes : ByteArray := prog_13_method_19_code
def yX11_notes : MethodName := ⟨RX11, "notes", "(II)V"⟩
abbrev cX11_undo : ByteArray := prog_13_method_20_code
def yX11_undo : MethodName := ⟨RX11, "undo", "()I"⟩
abbrev cX11_canCome : ByteArray := prog_13_method_21_code
def yX11_canCome : MethodName := ⟨RX11, "canCome", "(I)Z"⟩
abbrev cX11_comes : ByteArray := prog_13_method_22_code
def yX11_comes : MethodName := ⟨RX11, "comes", "(I)I"⟩
abbrev cX11_comesIf : ByteArray := prog_13_method_23_code
def yX11_comesIf : MethodName := ⟨RX11, "comesIf", "(I)I"⟩
abbrev cX11_sums : ByteArray := prog_13_method_24_code
def yX11_sums : MethodName := ⟨RX11, "sums", "(II)I"⟩
abbrev cX11_multiplies : ByteArray := prog_13_method_25_code
def yX11_multiplies : MethodName := ⟨RX11, "multiplies", "(II)I"⟩
abbrev cX11_lifts : ByteArray := prog_13_method_26_code
def yX11_lifts : MethodName := ⟨RX11, "lifts", "(II)I"⟩
abbrev cX11_turnsBelow : ByteArray := prog_13_method_27_code
def yX11_turnsBelow : MethodName := ⟨RX11, "turnsBelow", "(I)I"⟩
abbrev cX11_staysOn : ByteArray := prog_13_method_28_code
def yX11_staysOn : MethodName := ⟨RX11, "staysOn", "(II)I"⟩
abbrev cX11_told : ByteArray := prog_13_method_29_code
def yX11_told : MethodName := ⟨RX11, "told", "(I)I"⟩
abbrev cX11_sum : ByteArray := prog_13_method_30_code
def yX11_sum : MethodName := ⟨RX11, "sum", "(II)I"⟩
abbrev cX11_product : ByteArray := prog_13_method_31_code
def yX11_product : MethodName := ⟨RX11, "product", "(II)I"⟩
abbrev cX11_lift : ByteArray := prog_13_method_32_code
def yX11_lift : MethodName := ⟨RX11, "lift", "(II)I"⟩
abbrev cX11_negative : ByteArray := prog_13_method_33_code
def yX11_negative : MethodName := ⟨RX11, "negative", "(I)I"⟩
abbrev cX11_on : ByteArray := prog_13_method_34_code
def yX11_on : MethodName := ⟨RX11, "on", "(II)I"⟩
abbrev cX11_letter : ByteArray := prog_13_method_35_code
def yX11_letter : MethodName := ⟨RX11, "letter", "(I)I"⟩
abbrev cX11_next : ByteArray := prog_13_method_36_code
def yX11_next : MethodName := ⟨RX11, "next", "()I"⟩
abbrev cX11_isDigit : ByteArray := prog_13_method_37_code
def yX11_isDigit : MethodName := ⟨RX11, "isDigit", "()Z"⟩
abbrev cX11_readsPower : ByteArray := prog_13_method_38_code
def yX11_readsPower : MethodName := ⟨RX11, "readsPower", "(II)Z"⟩
abbrev cX11_readsMember : ByteArray := prog_13_method_39_code
def yX11_readsMember : MethodName := ⟨RX11, "readsMember", "(ZI)I"⟩
abbrev cX11_readsForm : ByteArray := prog_13_method_40_code
def yX11_readsForm : MethodName := ⟨RX11, "readsForm", "()I"⟩
abbrev cX11_form : ByteArray := prog_13_method_41_code
def yX11_form : MethodName := ⟨RX11, "form", "()I"⟩
abbrev cX11_isWord : ByteArray := prog_13_method_42_code
def yX11_isWord : MethodName := ⟨RX11, "isWord", "(IIIIII)Z"⟩
abbrev cX11_readsWord : ByteArray := prog_13_method_43_code
def yX11_readsWord : MethodName := ⟨RX11, "readsWord", "()I"⟩
abbrev cX11_readsNumber : ByteArray := prog_13_method_44_code
def yX11_readsNumber : MethodName := ⟨RX11, "readsNumber", "()I"⟩
abbrev cX11_readsAct : ByteArray := prog_13_method_45_code
def yX11_readsAct : MethodName := ⟨RX11, "readsAct", "()Z"⟩
abbrev cX11_readsActs : ByteArray := prog_13_method_46_code
def yX11_readsActs : MethodName := ⟨RX11, "readsActs", "()Z"⟩
abbrev cX11_does : ByteArray := prog_13_method_47_code
def yX11_does : MethodName := ⟨RX11, "does", "(I)I"⟩
abbrev cX11_acts : ByteArray := prog_13_method_48_code
def yX11_acts : MethodName := ⟨RX11, "acts", "()I"⟩
abbrev cX11_drop : ByteArray := prog_13_method_49_code
def yX11_drop : MethodName := ⟨RX11, "drop", "()I"⟩
abbrev cX11_change : ByteArray := prog_13_method_50_code
def yX11_change : MethodName := ⟨RX11, "change", "(III)I"⟩
abbrev cX11_turn : ByteArray := prog_13_method_51_code
def yX11_turn : MethodName := ⟨RX11, "turn", "(III)I"⟩
abbrev cX11_of : ByteArray := prog_13_method_52_code
def yX11_of : MethodName := ⟨RX11, "of", "(II)I"⟩
abbrev cX11_taken : ByteArray := prog_13_method_53_code
def yX11_taken : MethodName := ⟨RX11, "taken", "(II)I"⟩
abbrev cX11_coefficient : ByteArray := prog_13_method_54_code
def yX11_coefficient : MethodName := ⟨RX11, "coefficient", "(II)I"⟩
abbrev cX11_power : ByteArray := prog_13_method_55_code
def yX11_power : MethodName := ⟨RX11, "power", "(II)J"⟩
abbrev cX11_valueAt : ByteArray := prog_13_method_56_code
def yX11_valueAt : MethodName := ⟨RX11, "valueAt", "(IIII)J"⟩
abbrev cX11_value : ByteArray := prog_13_method_57_code
def yX11_value : MethodName := ⟨RX11, "value", "(IIII)J"⟩
abbrev cX11_takes : ByteArray := prog_13_method_58_code
def yX11_takes : MethodName := ⟨RX11, "takes", "(III)V"⟩
abbrev cX11_rises : ByteArray := prog_13_method_59_code
def yX11_rises : MethodName := ⟨RX11, "rises", "(I)V"⟩
abbrev cX11_firstFault : ByteArray := prog_13_method_60_code
def yX11_firstFault : MethodName := ⟨RX11, "firstFault", "(II)I"⟩
abbrev cX11_notSide : ByteArray := prog_13_method_61_code
def yX11_notSide : MethodName := ⟨RX11, "notSide", "(II)I"⟩
abbrev cX11_lifted : ByteArray := prog_13_method_62_code
def yX11_lifted : MethodName := ⟨RX11, "lifted", "(IIII)J"⟩
abbrev cX11_fault : ByteArray := prog_13_method_63_code
def yX11_fault : MethodName := ⟨RX11, "fault", "(IIII)I"⟩
abbrev cX11_leastOf : ByteArray := prog_13_method_64_code
def yX11_leastOf : MethodName := ⟨RX11, "leastOf", "(III)I"⟩
abbrev cX11_least : ByteArray := prog_13_method_65_code
def yX11_least : MethodName := ⟨RX11, "least", "(III)I"⟩
abbrev cX11_firstPoint : ByteArray := prog_13_method_66_code
def yX11_firstPoint : MethodName := ⟨RX11, "firstPoint", "(I)V"⟩
abbrev cX11_nextPoint : ByteArray := prog_13_method_67_code
def yX11_nextPoint : MethodName := ⟨RX11, "nextPoint", "(I)Z"⟩
abbrev cX11_isPointOn : ByteArray := prog_13_method_68_code
def yX11_isPointOn : MethodName := ⟨RX11, "isPointOn", "(I)Z"⟩
abbrev cX11_looks : ByteArray := prog_13_method_69_code
def yX11_looks : MethodName := ⟨RX11, "looks", "(IIII)I"⟩
abbrev cX11_failsAt : ByteArray := prog_13_method_70_code
def yX11_failsAt : MethodName := ⟨RX11, "failsAt", "(IIII)I"⟩
abbrev cX11_failing : ByteArray := prog_13_method_71_code
def yX11_failing : MethodName := ⟨RX11, "failing", "(IIII)I"⟩
abbrev cX11_notLooked : ByteArray := prog_13_method_72_code
def yX11_notLooked : MethodName := ⟨RX11, "notLooked", "(IIII)I"⟩
abbrev cX11_lowest : ByteArray := prog_13_method_73_code
def yX11_lowest : MethodName := ⟨RX11, "lowest", "(IIII)J"⟩
abbrev cX11_divisor : ByteArray := prog_13_method_74_code
def yX11_divisor : MethodName := ⟨RX11, "divisor", "(JJ)J"⟩
abbrev cX11_partOf : ByteArray := prog_13_method_75_code
def yX11_partOf : MethodName := ⟨RX11, "partOf", "(JJI)J"⟩
abbrev cX11_share : ByteArray := prog_13_method_76_code
def yX11_share : MethodName := ⟨RX11, "share", "(IIII)J"⟩
abbrev cX11_proof : ByteArray := prog_13_method_77_code
def yX11_proof : MethodName := ⟨RX11, "proof", "(II)I"⟩
abbrev cX11_ways : ByteArray := prog_13_method_78_code
def yX11_ways : MethodName := ⟨RX11, "ways", "(II)J"⟩
abbrev cX11_wallOf : ByteArray := prog_13_method_79_code
def yX11_wallOf : MethodName := ⟨RX11, "wallOf", "(III)J"⟩
abbrev cX11_isTold : ByteArray := prog_13_method_80_code
def yX11_isTold : MethodName := ⟨RX11, "isTold", "(I)Z"⟩
abbrev cX11_walls : ByteArray := prog_13_method_81_code
def yX11_walls : MethodName := ⟨RX11, "walls", "(III)J"⟩
abbrev cX11_wallsLeast : ByteArray := prog_13_method_82_code
def yX11_wallsLeast : MethodName := ⟨RX11, "wallsLeast", "(II)I"⟩
abbrev cX11_laysColumn : ByteArray := prog_13_method_83_code
def yX11_laysColumn : MethodName := ⟨RX11, "laysColumn", "(II)V"⟩
abbrev cX11_at : ByteArray := prog_13_method_84_code
def yX11_at : MethodName := ⟨RX11, "at", "(II)J"⟩
abbrev cX11_two : ByteArray := prog_13_method_85_code
def yX11_two : MethodName := ⟨RX11, "two", "(IIII)J"⟩
abbrev cX11_minor : ByteArray := prog_13_method_86_code
def yX11_minor : MethodName := ⟨RX11, "minor", "(IIII)J"⟩
abbrev cX11_findsRows : ByteArray := prog_13_method_87_code
def yX11_findsRows : MethodName := ⟨RX11, "findsRows", "(IIII)Z"⟩
abbrev cX11_isNew : ByteArray := prog_13_method_88_code
def yX11_isNew : MethodName := ⟨RX11, "isNew", "()Z"⟩
abbrev cX11_fillsColumns : ByteArray := prog_13_method_89_code
def yX11_fillsColumns : MethodName := ⟨RX11, "fillsColumns", "(I)V"⟩
abbrev cX11_upOf : ByteArray := prog_13_method_90_code
def yX11_upOf : MethodName := ⟨RX11, "upOf", "(I)J"⟩
abbrev cX11_isMade : ByteArray := prog_13_method_91_code
def yX11_isMade : MethodName := ⟨RX11, "isMade", "()Z"⟩
abbrev cX11_isSmall : ByteArray := prog_13_method_92_code
def yX11_isSmall : MethodName := ⟨RX11, "isSmall", "(I)Z"⟩
abbrev cX11_isSetOf : ByteArray := prog_13_method_93_code
def yX11_isSetOf : MethodName := ⟨RX11, "isSetOf", "(II)Z"⟩
abbrev cX11_made : ByteArray := prog_13_method_94_code
def yX11_made : MethodName := ⟨RX11, "made", "(IIII)J"⟩
abbrev cX11_puts : ByteArray := prog_13_method_95_code
def yX11_puts : MethodName := ⟨RX11, "puts", "(I)V"⟩
abbrev cX11_putsNumber : ByteArray := prog_13_method_96_code
def yX11_putsNumber : MethodName := ⟨RX11, "putsNumber", "(I)V"⟩
abbrev cX11_spells : ByteArray := prog_13_method_97_code
def yX11_spells : MethodName := ⟨RX11, "spells", "(I)V"⟩
abbrev cX11_spelled : ByteArray := prog_13_method_98_code
def yX11_spelled : MethodName := ⟨RX11, "spelled", "(II)I"⟩
abbrev cX11_draw : ByteArray := prog_13_method_99_code
def yX11_draw : MethodName := ⟨RX11, "draw", "(I)I"⟩
abbrev cX11_lots : ByteArray := prog_13_method_100_code
def yX11_lots : MethodName := ⟨RX11, "lots", "(IIII)I"⟩
abbrev cX11_isList : ByteArray := prog_13_method_101_code
def yX11_isList : MethodName := ⟨RX11, "isList", "(I)Z"⟩
abbrev cX11_list : ByteArray := prog_13_method_102_code
def yX11_list : MethodName := ⟨RX11, "list", "(II)I"⟩
abbrev cX11_notPlace : ByteArray := prog_13_method_103_code
def yX11_notPlace : MethodName := ⟨RX11, "notPlace", "(II)I"⟩
abbrev cX11_put : ByteArray := prog_13_method_104_code
def yX11_put : MethodName := ⟨RX11, "put", "(III)I"⟩
abbrev cX11_look : ByteArray := prog_13_method_105_code
def yX11_look : MethodName := ⟨RX11, "look", "(II)J"⟩
abbrev cX11_lays : ByteArray := prog_13_method_106_code
def yX11_lays : MethodName := ⟨RX11, "lays", "(III)I"⟩
abbrev cX11_judge : ByteArray := prog_13_method_107_code
def yX11_judge : MethodName := ⟨RX11, "judge", "(II)I"⟩
abbrev cX11_passOne : ByteArray := prog_13_method_108_code
def yX11_passOne : MethodName := ⟨RX11, "passOne", "(I)I"⟩
abbrev cX11_passesAll : ByteArray := prog_13_method_109_code
def yX11_passesAll : MethodName := ⟨RX11, "passesAll", "(Z)V"⟩
abbrev cX11_image : ByteArray := prog_13_method_110_code
def yX11_image : MethodName := ⟨RX11, "image", "()I"⟩
abbrev cX11_back : ByteArray := prog_13_method_111_code
def yX11_back : MethodName := ⟨RX11, "back", "()I"⟩
abbrev cX11_clearOnes : ByteArray := prog_13_method_112_code
def yX11_clearOnes : MethodName := ⟨RX11, "clearOnes", "()I"⟩
abbrev cX11_allTerms : ByteArray := prog_13_method_113_code
def yX11_allTerms : MethodName := ⟨RX11, "allTerms", "()I"⟩
abbrev cX11_count : ByteArray := prog_13_method_114_code
def yX11_count : MethodName := ⟨RX11, "count", "(I)I"⟩
abbrev cJ6_bitCount_0f7a4 : ByteArray := prog_14_method_49_code
def yJ6_bitCount_0f7a4 : MethodName := ⟨RJ6, "bitCount", "(I)I"⟩
abbrev cJ9_abs_0f7a4 : ByteArray := prog_15_method_59_code
def yJ9_abs_0f7a4 : MethodName := ⟨RJ9, "abs", "(I)I"⟩
abbrev cJ9_abs_067f4 : ByteArray := prog_15_method_61_code
def yJ9_abs_067f4 : MethodName := ⟨RJ9, "abs", "(J)J"⟩
abbrev cJ9_max_7cf53 : ByteArray := prog_15_method_65_code
def yJ9_max_7cf53 : MethodName := ⟨RJ9, "max", "(II)I"⟩
abbrev cJ9_min_7cf53 : ByteArray := prog_15_method_69_code
def yJ9_min_7cf53 : MethodName := ⟨RJ9, "min", "(II)I"⟩
abbrev cJ0_length_8abf5 : ByteArray := prog_16_method_54_code
def yJ0_length_8abf5 : MethodName := ⟨RJ0, "length", "()I"⟩
abbrev cJ0_charAt_5068e : ByteArray := prog_16_method_56_code
def yJ0_charAt_5068e : MethodName := ⟨RJ0, "charAt", "(I)C"⟩
abbrev cJ0_coder_7d493 : ByteArray := prog_16_method_152_code
def yJ0_coder_7d493 : MethodName := ⟨RJ0, "coder", "()B"⟩
abbrev cJ0_isLatin1_aae02 : ByteArray := prog_16_method_154_code
def yJ0_isLatin1_aae02 : MethodName := ⟨RJ0, "isLatin1", "()Z"⟩
abbrev cJ0_checkIndex_df160 : ByteArray := prog_16_method_155_code
def yJ0_checkIndex_df160 : MethodName := ⟨RJ0, "checkIndex", "(II)V"⟩
abbrev cJ1_charAt_3b067 : ByteArray := prog_17_method_2_code
def yJ1_charAt_3b067 : MethodName := ⟨RJ1, "charAt", "([BI)C"⟩
abbrev cJ2_getChar_3b067 : ByteArray := prog_18_method_5_code
def yJ2_getChar_3b067 : MethodName := ⟨RJ2, "getChar", "([BI)C"⟩
abbrev cJ2_length_9d52b : ByteArray := prog_18_method_6_code
def yJ2_length_9d52b : MethodName := ⟨RJ2, "length", "([B)I"⟩
abbrev cJ2_charAt_3b067 : ByteArray := prog_18_method_83_code
def yJ2_charAt_3b067 : MethodName := ⟨RJ2, "charAt", "([BI)C"⟩
abbrev cJ2_checkIndex_2214a : ByteArray := prog_18_method_91_code
def yJ2_checkIndex_2214a : MethodName := ⟨RJ2, "checkIndex", "(I[B)V"⟩
abbrev cJ3_checkIndex_8e157 : ByteArray := prog_19_method_11_code
def yJ3_checkIndex_8e157 : MethodName := ⟨RJ3, "checkIndex", "(IILjava/util/function/BiFunction;)I"⟩
/-- addresses, layouts, array classes, what lies beside: a static row, five texts -/
abbrev pq_g : Type := (Nat → Nat) × va_G × (Nat → ClassId) × (Nat × (Nat → Nat) × (Nat → Nat))
def cellS (g : pq_g) (i : Nat → Int32) (j : Nat → Int64) (r : Nat → Option Nat) : List va_E := [.inr (10, [.ref (g.1 56), .ref (g.1 61), .ref (g.1 63), .ref (g.1 65), .ref (g.1 70), .ref (g.1 71), .ref (g.1 74), .ref (g.1 79), .ref (g.1 82)]),
  .inr (6, [.ref (g.1 57), .ref (g.1 58), .ref (g.1 59), .int (i 3), .int (i 4)]),
  .inl (g.2.2.1 2, 6, .inr (.inr (.inr (.inr (fun t => if t < 6 then some (g.1 t) else none))))),
  .inl (g.2.2.1 2, 6, .inr (.inr (.inr (.inr (fun t => if t < 6 then some (g.1 (6 + t)) else none))))),
  .inr (9, [.ref (g.1 60), .int (i 1)]),
  .inl (g.2.2.1 1, 190, .inr (.inl j)),
  .inr (3, [.ref (g.1 62), .int (i 1)]),
  .inl (g.2.2.1 0, 72, .inl i),
  .inr (2, [.ref (g.1 64), va_rf ((r 1).map g.1), .int (i 2), .int (i 3), .int (i 4)]),
  .inl (g.2.2.1 0, 3, .inl i),
  .inr (0, [.ref (g.1 66), .ref (g.1 67), .ref (g.1 68), .ref (g.1 69), .int (i 4), va_rf ((r 5).map g.1), .int (i 6)]),
  .inl (g.2.2.1 0, 9, .inl i),
  .inl (g.2.2.1 0, 9, .inl i),
  .inl (g.2.2.1 0, 9, .inl i),
  .inl (g.2.2.1 0, 9, .inl i),
  .inr (7, [.int (i 0), .int (i 1), .int (i 2)]),
  .inr (5, [.ref (g.1 72), .ref (g.1 73), .int (i 2), .int (i 3)]),
  .inl (g.2.2.1 4, 28, .inr (.inr (.inr (.inr (fun t => (r t).map g.1))))),
  .inl (g.2.2.1 0, 3, .inl i),
  .inr (8, [.int (i 0), .ref (g.1 75), .ref (g.1 76), .ref (g.1 77), .ref (g.1 78), .int (i 5)]),
  .inl (g.2.2.1 0, 16, .inl i),
  .inl (g.2.2.1 0, 16, .inl i),
  .inl (g.2.2.1 0, 16, .inl i),
  .inl (g.2.2.1 0, 16, .inl i),
  .inr (4, [.ref (g.1 80), .ref (g.1 81)]),
  .inl (g.2.2.1 3, 3, .inr (.inr (.inr (.inr (fun t => if t < 3 then some (g.1 (52 + t)) else none))))),
  .inl (g.2.2.1 0, 3, .inl i),
  .inl (g.2.2.1 0, 7, .inl i)]
def cellC (g : pq_g) : pq_C := fun p i j r => if p < 12 then .inr (1, [.ref (g.1 (p + 12)), .int (i 1), .int (i 2), .int (i 3)]) else if p < 24 then .inl (g.2.2.1 0, 28, .inl i) else if p < 52 then .inl (g.2.2.1 1, 4, .inr (.inl j)) else if p < 55 then .inl (g.2.2.1 0, 40, .inl i) else (cellS g i j r).getD (p - 55) (.inr (0, []))
def cellM (g : pq_g) : pq_C := fun p i j r => ([.inr (11, [.ref (g.1 1), .ref (g.1 2), .ref (g.1 3), .ref (g.1 4), .ref (g.1 5), .int (i 5), .ref (g.1 6), .ref (g.1 7), .int (i 8), .ref (g.1 8), .ref (g.1 9), .int (i 11), .int (i 12), .ref (g.1 10), .ref (g.1 11), .ref (g.1 12), .ref (g.1 13), .ref (g.1 14), .int (i 18), .ref (g.1 15), .ref (g.1 16), .int (i 21), .int (i 22), .int (i 23), .int (i 24), .int (i 25), .int (i 26), .int (i 27), .long (j 28), .ref (g.1 17), .ref (g.1 18), .int (i 31), .int (i 32), .int (i 33), .int (i 34), .ref (g.1 19), .int (i 36), .int (i 37), .ref (g.1 20), .ref (g.1 21), .ref (g.1 22), .int (i 41), .int (i 42), .int (i 43)]),
  .inl (g.2.2.1 0, 7, .inl i),
  .inl (g.2.2.1 0, 168, .inl i),
  .inl (g.2.2.1 0, 6, .inl i),
  .inl (g.2.2.1 0, 6, .inl i),
  .inl (g.2.2.1 0, 6, .inl i),
  .inl (g.2.2.1 0, 16, .inl i),
  .inl (g.2.2.1 0, 16, .inl i),
  .inl (g.2.2.1 1, 28, .inr (.inl j)),
  .inl (g.2.2.1 0, 72, .inl i),
  .inl (g.2.2.1 0, 3, .inl i),
  .inl (g.2.2.1 0, 16, .inl i),
  .inl (g.2.2.1 0, 16, .inl i),
  .inl (g.2.2.1 0, 16, .inl i),
  .inl (g.2.2.1 0, 16, .inl i),
  .inl (g.2.2.1 1, 190, .inr (.inl j)),
  .inl (g.2.2.1 1, 190, .inr (.inl j)),
  .inl (g.2.2.1 0, 112, .inl i),
  .inl (g.2.2.1 0, 3, .inl i),
  .inl (g.2.2.1 0, 500, .inl i),
  .inl (g.2.2.1 0, 3, .inl i),
  .inl (g.2.2.1 0, 120, .inl i),
  .inl (g.2.2.1 0, 190, .inl i)] : List va_E).getD p (.inr (0, []))
abbrev pq_tys (g : pq_g) : List (ClassId × FieldType) := [(g.2.2.1 0, .int), (g.2.2.1 1, .long), (g.2.2.1 2, .object "FormsAboveNought$Form"), (g.2.2.1 3, .array .int), (g.2.2.1 4, .array .long)]
def kA : Nat → Int32 := fun k => ([-1, 0, 0, 0, 1, 2] : List Int32).getD k 0
def txL : List Nat := [3, 5, 4, 5, 4]
def txB : List (List Int32) := [[115, 117, 109], [116, 105, 109, 101, 115], [108, 105, 102, 116], [109, 105, 110, 117, 115], [115, 105, 100, 101]]
-- texts: [('FormsAboveNought.ActReader', 73, 'sum'), ('FormsAboveNought.ActReader', 75, 'times'), ('FormsAboveNought.ActReader', 77, 'lift'), ('FormsAboveNought.ActReader', 79, 'minus'), ('FormsAboveNought.ActReader', 81, 'side')]
def nestL : List (String × Nat × MethodName × String) := [(RX1, 25, yX10_termOf, "FormsAboveNought"), (RX1, 29, yX10_behindA, "FormsAboveNought"), (RX1, 37, yX10_termsOf, "FormsAboveNought"), (RX2, 59, yX10_termOf, "FormsAboveNought"), (RX3, 19, yX10_notBelow, "FormsAboveNought"), (RX4, 30, yX10_fails, "FormsAboveNought"), (RX5, 32, yX10_termsOf, "FormsAboveNought"), (RX5, 68, yX10_partOf, "FormsAboveNought"), (RX6, 35, yX10_notBelow, "FormsAboveNought"), (RX6, 46, yX10_termsOf, "FormsAboveNought"), (RX6, 107, yX10_isSide, "FormsAboveNought"), (RX6, 138, yX10_termOf, "FormsAboveNought"), (RX9, 19, yX10_termsOf, "FormsAboveNought"), (RX9, 26, yX10_termOf, "FormsAboveNought"), (RX9, 30, yX10_standsOn, "FormsAboveNought"), (RX9, 42, yX10_numberOn, "FormsAboveNought"), (RX9, 45, yX10_placesOn, "FormsAboveNought"), (RX9, 52, yX10_fails, "FormsAboveNought"), (RX9, 59, yX10_behindA, "FormsAboveNought")]
/-- what lies beside the class's cells: the row of kinds above, the five words, String's own switch -/
def envC (g : pq_g) : (Nat → Prop) → State → Heap → Prop := fun A U H => va_Z "FormsAboveNought" "KIND_ABOVE" "[I" (.ref g.2.2.2.1) A U H ∧ va_T .int g.2.2.2.1 6 (fun k => .int (kA k)) A U H ∧ va_Z "java/lang/String" "COMPACT_STRINGS" "Z" (.int 1) A U H ∧ vk_S 5 txL txB g.2.2.2.2.1 g.2.2.2.2.2 A U H ∧ (∀ q ∈ nestL, va_Nw (Cond.methodLinkNest q.1 q.2.1 q.2.2.1 q.2.2.2) U) ∧ (∃ kA kv : Class, U.vm.classes[g.2.2.1 4]? = some kA ∧ kA.kind = .array (g.2.2.1 1) (.array .long) ∧ U.vm.classes[g.2.2.1 1]? = some kv) ∧ va_Zq "jdk/internal/util/Preconditions" "SIOOBE_FORMATTER" "Ljava/util/function/BiFunction;" A U H ∧ vk_R RX0 73 "sum" (g.2.2.2.2.1 0) U ∧ vk_R RX0 75 "times" (g.2.2.2.2.1 1) U ∧ vk_R RX0 77 "lift" (g.2.2.2.2.1 2) U ∧ vk_R RX0 79 "minus" (g.2.2.2.2.1 3) U ∧ vk_R RX0 81 "side" (g.2.2.2.2.1 4) U
def SC (g : pq_g) : pq_S := ((83, g.1, cellC g), (g.2.1, vwCl, pq_tys g), envC g)
def SM (g : pq_g) : pq_S := ((23, g.1, cellM g), (g.2.1, vwCl, pq_tys g), fun _ _ _ => True)
set_option maxRecDepth 8000 in
theorem envC_kind {g : pq_g} {A : Nat → Prop} {U : State} {H : Heap} (h : (SC g).2.2 A U H) : va_Z "FormsAboveNought" "KIND_ABOVE" "[I" (.ref g.2.2.2.1) A U H := (show envC g A U H from h).1
set_option maxRecDepth 8000 in
theorem envC_row {g : pq_g} {A : Nat → Prop} {U : State} {H : Heap} (h : (SC g).2.2 A U H) : va_T .int g.2.2.2.1 6 (fun k => .int (kA k)) A U H := (show envC g A U H from h).2.1
set_option maxRecDepth 8000 in
theorem envC_comp {g : pq_g} {A : Nat → Prop} {U : State} {H : Heap} (h : (SC g).2.2 A U H) : va_Z "java/lang/String" "COMPACT_STRINGS" "Z" (.int 1) A U H := (show envC g A U H from h).2.2.1
set_option maxRecDepth 8000 in
theorem envC_str {g : pq_g} {A : Nat → Prop} {U : State} {H : Heap} (h : (SC g).2.2 A U H) : vk_S 5 txL txB g.2.2.2.2.1 g.2.2.2.2.2 A U H := (show envC g A U H from h).2.2.2.1
set_option maxRecDepth 8000 in
theorem envC_jj {g : pq_g} {A : Nat → Prop} {U : State} {H : Heap} (h : (SC g).2.2 A U H) : ∃ kA kv : Class, U.vm.classes[g.2.2.1 4]? = some kA ∧ kA.kind = .array (g.2.2.1 1) (.array .long) ∧ U.vm.classes[g.2.2.1 1]? = some kv := (show envC g A U H from h).2.2.2.2.2.1
set_option maxRecDepth 8000 in
theorem envC_sio {g : pq_g} {A : Nat → Prop} {U : State} {H : Heap} (h : (SC g).2.2 A U H) : va_Zq "jdk/internal/util/Preconditions" "SIOOBE_FORMATTER" "Ljava/util/function/BiFunction;" A U H := (show envC g A U H from h).2.2.2.2.2.2.1
set_option maxRecDepth 8000 in
theorem envC_t0 {g : pq_g} {A : Nat → Prop} {U : State} {H : Heap} (h : (SC g).2.2 A U H) : vk_R RX0 73 "sum" (g.2.2.2.2.1 0) U := (show envC g A U H from h).2.2.2.2.2.2.2.1
set_option maxRecDepth 8000 in
theorem envC_t1 {g : pq_g} {A : Nat → Prop} {U : State} {H : Heap} (h : (SC g).2.2 A U H) : vk_R RX0 75 "times" (g.2.2.2.2.1 1) U := (show envC g A U H from h).2.2.2.2.2.2.2.2.1
set_option maxRecDepth 8000 in
theorem envC_t2 {g : pq_g} {A : Nat → Prop} {U : State} {H : Heap} (h : (SC g).2.2 A U H) : vk_R RX0 77 "lift" (g.2.2.2.2.1 2) U := (show envC g A U H from h).2.2.2.2.2.2.2.2.2.1
set_option maxRecDepth 8000 in
theorem envC_t3 {g : pq_g} {A : Nat → Prop} {U : State} {H : Heap} (h : (SC g).2.2 A U H) : vk_R RX0 79 "minus" (g.2.2.2.2.1 3) U := (show envC g A U H from h).2.2.2.2.2.2.2.2.2.2.1
set_option maxRecDepth 8000 in
theorem envC_t4 {g : pq_g} {A : Nat → Prop} {U : State} {H : Heap} (h : (SC g).2.2 A U H) : vk_R RX0 81 "side" (g.2.2.2.2.1 4) U := (show envC g A U H from h).2.2.2.2.2.2.2.2.2.2.2
set_option maxRecDepth 8000 in
theorem envC_nest {g : pq_g} {A : Nat → Prop} {U : State} {H : Heap} (h : (SC g).2.2 A U H) : ∀ q ∈ nestL, va_Nw (Cond.methodLinkNest q.1 q.2.1 q.2.2.1 q.2.2.2) U := (show envC g A U H from h).2.2.2.2.1
set_option maxRecDepth 8000 in
theorem nk_X1_25 (g : pq_g) : ∀ A U H, (SC g).2.2 A U H → va_Nw (Cond.methodLinkNest RX1 25 yX10_termOf "FormsAboveNought") U := fun _ _ _ h => envC_nest h (RX1, 25, yX10_termOf, "FormsAboveNought") (List.mem_of_getElem? (i := 0) rfl)
set_option maxRecDepth 8000 in
theorem nk_X1_29 (g : pq_g) : ∀ A U H, (SC g).2.2 A U H → va_Nw (Cond.methodLinkNest RX1 29 yX10_behindA "FormsAboveNought") U := fun _ _ _ h => envC_nest h (RX1, 29, yX10_behindA, "FormsAboveNought") (List.mem_of_getElem? (i := 1) rfl)
set_option maxRecDepth 8000 in
theorem nk_X1_37 (g : pq_g) : ∀ A U H, (SC g).2.2 A U H → va_Nw (Cond.methodLinkNest RX1 37 yX10_termsOf "FormsAboveNought") U := fun _ _ _ h => envC_nest h (RX1, 37, yX10_termsOf, "FormsAboveNought") (List.mem_of_getElem? (i := 2) rfl)
set_option maxRecDepth 8000 in
theorem nk_X2_59 (g : pq_g) : ∀ A U H, (SC g).2.2 A U H → va_Nw (Cond.methodLinkNest RX2 59 yX10_termOf "FormsAboveNought") U := fun _ _ _ h => envC_nest h (RX2, 59, yX10_termOf, "FormsAboveNought") (List.mem_of_getElem? (i := 3) rfl)
set_option maxRecDepth 8000 in
theorem nk_X3_19 (g : pq_g) : ∀ A U H, (SC g).2.2 A U H → va_Nw (Cond.methodLinkNest RX3 19 yX10_notBelow "FormsAboveNought") U := fun _ _ _ h => envC_nest h (RX3, 19, yX10_notBelow, "FormsAboveNought") (List.mem_of_getElem? (i := 4) rfl)
set_option maxRecDepth 8000 in
theorem nk_X4_30 (g : pq_g) : ∀ A U H, (SC g).2.2 A U H → va_Nw (Cond.methodLinkNest RX4 30 yX10_fails "FormsAboveNought") U := fun _ _ _ h => envC_nest h (RX4, 30, yX10_fails, "FormsAboveNought") (List.mem_of_getElem? (i := 5) rfl)
set_option maxRecDepth 8000 in
theorem nk_X5_32 (g : pq_g) : ∀ A U H, (SC g).2.2 A U H → va_Nw (Cond.methodLinkNest RX5 32 yX10_termsOf "FormsAboveNought") U := fun _ _ _ h => envC_nest h (RX5, 32, yX10_termsOf, "FormsAboveNought") (List.mem_of_getElem? (i := 6) rfl)
set_option maxRecDepth 8000 in
theorem nk_X5_68 (g : pq_g) : ∀ A U H, (SC g).2.2 A U H → va_Nw (Cond.methodLinkNest RX5 68 yX10_partOf "FormsAboveNought") U := fun _ _ _ h => envC_nest h (RX5, 68, yX10_partOf, "FormsAboveNought") (List.mem_of_getElem? (i := 7) rfl)
set_option maxRecDepth 8000 in
theorem nk_X6_35 (g : pq_g) : ∀ A U H, (SC g).2.2 A U H → va_Nw (Cond.methodLinkNest RX6 35 yX10_notBelow "FormsAboveNought") U := fun _ _ _ h => envC_nest h (RX6, 35, yX10_notBelow, "FormsAboveNought") (List.mem_of_getElem? (i := 8) rfl)
set_option maxRecDepth 8000 in
theorem nk_X6_46 (g : pq_g) : ∀ A U H, (SC g).2.2 A U H → va_Nw (Cond.methodLinkNest RX6 46 yX10_termsOf "FormsAboveNought") U := fun _ _ _ h => envC_nest h (RX6, 46, yX10_termsOf, "FormsAboveNought") (List.mem_of_getElem? (i := 9) rfl)
set_option maxRecDepth 8000 in
theorem nk_X6_107 (g : pq_g) : ∀ A U H, (SC g).2.2 A U H → va_Nw (Cond.methodLinkNest RX6 107 yX10_isSide "FormsAboveNought") U := fun _ _ _ h => envC_nest h (RX6, 107, yX10_isSide, "FormsAboveNought") (List.mem_of_getElem? (i := 10) rfl)
set_option maxRecDepth 8000 in
theorem nk_X6_138 (g : pq_g) : ∀ A U H, (SC g).2.2 A U H → va_Nw (Cond.methodLinkNest RX6 138 yX10_termOf "FormsAboveNought") U := fun _ _ _ h => envC_nest h (RX6, 138, yX10_termOf, "FormsAboveNought") (List.mem_of_getElem? (i := 11) rfl)
set_option maxRecDepth 8000 in
theorem nk_X9_19 (g : pq_g) : ∀ A U H, (SC g).2.2 A U H → va_Nw (Cond.methodLinkNest RX9 19 yX10_termsOf "FormsAboveNought") U := fun _ _ _ h => envC_nest h (RX9, 19, yX10_termsOf, "FormsAboveNought") (List.mem_of_getElem? (i := 12) rfl)
set_option maxRecDepth 8000 in
theorem nk_X9_26 (g : pq_g) : ∀ A U H, (SC g).2.2 A U H → va_Nw (Cond.methodLinkNest RX9 26 yX10_termOf "FormsAboveNought") U := fun _ _ _ h => envC_nest h (RX9, 26, yX10_termOf, "FormsAboveNought") (List.mem_of_getElem? (i := 13) rfl)
set_option maxRecDepth 8000 in
theorem nk_X9_30 (g : pq_g) : ∀ A U H, (SC g).2.2 A U H → va_Nw (Cond.methodLinkNest RX9 30 yX10_standsOn "FormsAboveNought") U := fun _ _ _ h => envC_nest h (RX9, 30, yX10_standsOn, "FormsAboveNought") (List.mem_of_getElem? (i := 14) rfl)
set_option maxRecDepth 8000 in
theorem nk_X9_42 (g : pq_g) : ∀ A U H, (SC g).2.2 A U H → va_Nw (Cond.methodLinkNest RX9 42 yX10_numberOn "FormsAboveNought") U := fun _ _ _ h => envC_nest h (RX9, 42, yX10_numberOn, "FormsAboveNought") (List.mem_of_getElem? (i := 15) rfl)
set_option maxRecDepth 8000 in
theorem nk_X9_45 (g : pq_g) : ∀ A U H, (SC g).2.2 A U H → va_Nw (Cond.methodLinkNest RX9 45 yX10_placesOn "FormsAboveNought") U := fun _ _ _ h => envC_nest h (RX9, 45, yX10_placesOn, "FormsAboveNought") (List.mem_of_getElem? (i := 16) rfl)
set_option maxRecDepth 8000 in
theorem nk_X9_52 (g : pq_g) : ∀ A U H, (SC g).2.2 A U H → va_Nw (Cond.methodLinkNest RX9 52 yX10_fails "FormsAboveNought") U := fun _ _ _ h => envC_nest h (RX9, 52, yX10_fails, "FormsAboveNought") (List.mem_of_getElem? (i := 17) rfl)
set_option maxRecDepth 8000 in
theorem nk_X9_59 (g : pq_g) : ∀ A U H, (SC g).2.2 A U H → va_Nw (Cond.methodLinkNest RX9 59 yX10_behindA "FormsAboveNought") U := fun _ _ _ h => envC_nest h (RX9, 59, yX10_behindA, "FormsAboveNought") (List.mem_of_getElem? (i := 18) rfl)
set_option maxRecDepth 8000 in
theorem cC_form (g : pq_g) {f : Nat} (hf : f < 12) (i : Nat → Int32) (j : Nat → Int64) (r : Nat → Option Nat) : (SC g).1.2.2 f i j r = .inr (1, [.ref (g.1 (f + 12)), .int (i 1), .int (i 2), .int (i 3)]) := if_pos hf
set_option maxRecDepth 8000 in
theorem cC_told (g : pq_g) {f : Nat} (hf : f < 12) (i : Nat → Int32) (j : Nat → Int64) (r : Nat → Option Nat) : (SC g).1.2.2 (f + 12) i j r = .inl (g.2.2.1 0, 28, .inl i) := by
  show cellC g (f + 12) i j r = _
  unfold cellC
  rw [if_neg (by omega), if_pos (by omega)]
set_option maxRecDepth 8000 in
theorem cC_mrow (g : pq_g) {q : Nat} (h1 : 24 ≤ q) (h2 : q < 52) (i : Nat → Int32) (j : Nat → Int64) (r : Nat → Option Nat) : (SC g).1.2.2 q i j r = .inl (g.2.2.1 1, 4, .inr (.inl j)) := by
  show cellC g q i j r = _
  unfold cellC
  rw [if_neg (by omega), if_neg (by omega), if_pos h2]
set_option maxRecDepth 8000 in
theorem cC_lrow (g : pq_g) {q : Nat} (h1 : q < 3) (i : Nat → Int32) (j : Nat → Int64) (r : Nat → Option Nat) : (SC g).1.2.2 (52 + q) i j r = .inl (g.2.2.1 0, 40, .inl i) := by
  show cellC g (52 + q) i j r = _
  unfold cellC
  rw [if_neg (by omega), if_neg (by omega), if_neg (by omega), if_pos (by omega)]
set_option maxRecDepth 8000 in
theorem o_Form (g : pq_g) (f : Nat) (hf : f < 12) : pq_o (SC g) f 1 RX1 := ⟨(show f < 83 by omega), ⟨_, fun i j r => cC_form g hf i j r⟩, TX1, 4, rfl⟩
set_option maxRecDepth 8000 in
theorem cI_Form_1 (g : pq_g) (f : Nat) (hf : f < 12) : pq_cI (SC g) f 1 1 := ⟨(show f < 83 by omega), _, fun i j r => cC_form g hf i j r, fun _ _ _ => rfl, fun _ _ _ _ => rfl⟩
set_option maxRecDepth 8000 in
theorem cI_Form_2 (g : pq_g) (f : Nat) (hf : f < 12) : pq_cI (SC g) f 1 2 := ⟨(show f < 83 by omega), _, fun i j r => cC_form g hf i j r, fun _ _ _ => rfl, fun _ _ _ _ => rfl⟩
set_option maxRecDepth 8000 in
theorem cI_Form_3 (g : pq_g) (f : Nat) (hf : f < 12) : pq_cI (SC g) f 1 3 := ⟨(show f < 83 by omega), _, fun i j r => cC_form g hf i j r, fun _ _ _ => rfl, fun _ _ _ _ => rfl⟩
set_option maxRecDepth 8000 in
theorem cA_Form_0 (g : pq_g) (f : Nat) (hf : f < 12) : pq_cA (SC g) f 1 0 (f + 12) := ⟨(show f < 83 by omega), _, fun i j r => cC_form g hf i j r, fun _ _ _ => rfl⟩
set_option maxRecDepth 8000 in
theorem aI_told (g : pq_g) (f : Nat) (hf : f < 12) : pq_aI (SC g) (f + 12) 28 := ⟨(show f + 12 < 83 by omega), g.2.2.1 0, 0, fun i j r => cC_told g hf i j r, rfl⟩
set_option maxRecDepth 8000 in
theorem aJ_mrow (g : pq_g) (q : Nat) (h1 : 24 ≤ q) (h2 : q < 52) : pq_aJ (SC g) q 4 := ⟨(show q < 83 by omega), g.2.2.1 1, 1, fun i j r => cC_mrow g h1 h2 i j r, rfl⟩
set_option maxRecDepth 8000 in
theorem aI_lrow (g : pq_g) (q : Nat) (h1 : q < 3) : pq_aI (SC g) (52 + q) 40 := ⟨(show 52 + q < 83 by omega), g.2.2.1 0, 0, fun i j r => cC_lrow g h1 i j r, rfl⟩
set_option maxRecDepth 8000 in
theorem oC_55 (g : pq_g) : pq_o (SC g) 55 10 RX10 := ⟨(show 55 < 83 by decide), ⟨_, fun i j r => rfl⟩, TX10, 9, rfl⟩
set_option maxRecDepth 8000 in
theorem cCA_55_0 (g : pq_g) : pq_cA (SC g) 55 10 0 56 := ⟨(show 55 < 83 by decide), _, fun i j r => rfl, fun _ _ _ => rfl⟩
set_option maxRecDepth 8000 in
theorem cCA_55_1 (g : pq_g) : pq_cA (SC g) 55 10 1 61 := ⟨(show 55 < 83 by decide), _, fun i j r => rfl, fun _ _ _ => rfl⟩
set_option maxRecDepth 8000 in
theorem cCA_55_2 (g : pq_g) : pq_cA (SC g) 55 10 2 63 := ⟨(show 55 < 83 by decide), _, fun i j r => rfl, fun _ _ _ => rfl⟩
set_option maxRecDepth 8000 in
theorem cCA_55_3 (g : pq_g) : pq_cA (SC g) 55 10 3 65 := ⟨(show 55 < 83 by decide), _, fun i j r => rfl, fun _ _ _ => rfl⟩
set_option maxRecDepth 8000 in
theorem cCA_55_4 (g : pq_g) : pq_cA (SC g) 55 10 4 70 := ⟨(show 55 < 83 by decide), _, fun i j r => rfl, fun _ _ _ => rfl⟩
set_option maxRecDepth 8000 in
theorem cCA_55_5 (g : pq_g) : pq_cA (SC g) 55 10 5 71 := ⟨(show 55 < 83 by decide), _, fun i j r => rfl, fun _ _ _ => rfl⟩
set_option maxRecDepth 8000 in
theorem cCA_55_6 (g : pq_g) : pq_cA (SC g) 55 10 6 74 := ⟨(show 55 < 83 by decide), _, fun i j r => rfl, fun _ _ _ => rfl⟩
set_option maxRecDepth 8000 in
theorem cCA_55_7 (g : pq_g) : pq_cA (SC g) 55 10 7 79 := ⟨(show 55 < 83 by decide), _, fun i j r => rfl, fun _ _ _ => rfl⟩
set_option maxRecDepth 8000 in
theorem cCA_55_8 (g : pq_g) : pq_cA (SC g) 55 10 8 82 := ⟨(show 55 < 83 by decide), _, fun i j r => rfl, fun _ _ _ => rfl⟩
set_option maxRecDepth 8000 in
theorem oC_56 (g : pq_g) : pq_o (SC g) 56 6 RX6 := ⟨(show 56 < 83 by decide), ⟨_, fun i j r => rfl⟩, TX6, 5, rfl⟩
set_option maxRecDepth 8000 in
theorem cCA_56_0 (g : pq_g) : pq_cA (SC g) 56 6 0 57 := ⟨(show 56 < 83 by decide), _, fun i j r => rfl, fun _ _ _ => rfl⟩
set_option maxRecDepth 8000 in
theorem cCA_56_1 (g : pq_g) : pq_cA (SC g) 56 6 1 58 := ⟨(show 56 < 83 by decide), _, fun i j r => rfl, fun _ _ _ => rfl⟩
set_option maxRecDepth 8000 in
theorem cCA_56_2 (g : pq_g) : pq_cA (SC g) 56 6 2 59 := ⟨(show 56 < 83 by decide), _, fun i j r => rfl, fun _ _ _ => rfl⟩
set_option maxRecDepth 8000 in
theorem cCI_56_3 (g : pq_g) : pq_cI (SC g) 56 6 3 := ⟨(show 56 < 83 by decide), _, fun i j r => rfl, fun _ _ _ => rfl, fun _ _ _ _ => rfl⟩
set_option maxRecDepth 8000 in
theorem cCI_56_4 (g : pq_g) : pq_cI (SC g) 56 6 4 := ⟨(show 56 < 83 by decide), _, fun i j r => rfl, fun _ _ _ => rfl, fun _ _ _ _ => rfl⟩
set_option maxRecDepth 8000 in
theorem oC_59 (g : pq_g) : pq_o (SC g) 59 9 RX9 := ⟨(show 59 < 83 by decide), ⟨_, fun i j r => rfl⟩, TX9, 2, rfl⟩
set_option maxRecDepth 8000 in
theorem cCA_59_0 (g : pq_g) : pq_cA (SC g) 59 9 0 60 := ⟨(show 59 < 83 by decide), _, fun i j r => rfl, fun _ _ _ => rfl⟩
set_option maxRecDepth 8000 in
theorem cCI_59_1 (g : pq_g) : pq_cI (SC g) 59 9 1 := ⟨(show 59 < 83 by decide), _, fun i j r => rfl, fun _ _ _ => rfl, fun _ _ _ _ => rfl⟩
set_option maxRecDepth 8000 in
theorem oC_61 (g : pq_g) : pq_o (SC g) 61 3 RX3 := ⟨(show 61 < 83 by decide), ⟨_, fun i j r => rfl⟩, TX3, 2, rfl⟩
set_option maxRecDepth 8000 in
theorem cCA_61_0 (g : pq_g) : pq_cA (SC g) 61 3 0 62 := ⟨(show 61 < 83 by decide), _, fun i j r => rfl, fun _ _ _ => rfl⟩
set_option maxRecDepth 8000 in
theorem cCI_61_1 (g : pq_g) : pq_cI (SC g) 61 3 1 := ⟨(show 61 < 83 by decide), _, fun i j r => rfl, fun _ _ _ => rfl, fun _ _ _ _ => rfl⟩
set_option maxRecDepth 8000 in
theorem oC_63 (g : pq_g) : pq_o (SC g) 63 2 RX2 := ⟨(show 63 < 83 by decide), ⟨_, fun i j r => rfl⟩, TX2, 5, rfl⟩
set_option maxRecDepth 8000 in
theorem cCA_63_0 (g : pq_g) : pq_cA (SC g) 63 2 0 64 := ⟨(show 63 < 83 by decide), _, fun i j r => rfl, fun _ _ _ => rfl⟩
set_option maxRecDepth 8000 in
theorem cCR_63_1 (g : pq_g) : pq_cR (SC g) 63 2 1 := ⟨(show 63 < 83 by decide), _, fun i j r => rfl, fun _ _ _ => rfl, fun _ _ _ _ => rfl⟩
set_option maxRecDepth 8000 in
theorem cCI_63_2 (g : pq_g) : pq_cI (SC g) 63 2 2 := ⟨(show 63 < 83 by decide), _, fun i j r => rfl, fun _ _ _ => rfl, fun _ _ _ _ => rfl⟩
set_option maxRecDepth 8000 in
theorem cCI_63_3 (g : pq_g) : pq_cI (SC g) 63 2 3 := ⟨(show 63 < 83 by decide), _, fun i j r => rfl, fun _ _ _ => rfl, fun _ _ _ _ => rfl⟩
set_option maxRecDepth 8000 in
theorem cCI_63_4 (g : pq_g) : pq_cI (SC g) 63 2 4 := ⟨(show 63 < 83 by decide), _, fun i j r => rfl, fun _ _ _ => rfl, fun _ _ _ _ => rfl⟩
set_option maxRecDepth 8000 in
theorem oC_65 (g : pq_g) : pq_o (SC g) 65 0 RX0 := ⟨(show 65 < 83 by decide), ⟨_, fun i j r => rfl⟩, TX0, 7, rfl⟩
set_option maxRecDepth 8000 in
theorem cCA_65_0 (g : pq_g) : pq_cA (SC g) 65 0 0 66 := ⟨(show 65 < 83 by decide), _, fun i j r => rfl, fun _ _ _ => rfl⟩
set_option maxRecDepth 8000 in
theorem cCA_65_1 (g : pq_g) : pq_cA (SC g) 65 0 1 67 := ⟨(show 65 < 83 by decide), _, fun i j r => rfl, fun _ _ _ => rfl⟩
set_option maxRecDepth 8000 in
theorem cCA_65_2 (g : pq_g) : pq_cA (SC g) 65 0 2 68 := ⟨(show 65 < 83 by decide), _, fun i j r => rfl, fun _ _ _ => rfl⟩
set_option maxRecDepth 8000 in
theorem cCA_65_3 (g : pq_g) : pq_cA (SC g) 65 0 3 69 := ⟨(show 65 < 83 by decide), _, fun i j r => rfl, fun _ _ _ => rfl⟩
set_option maxRecDepth 8000 in
theorem cCI_65_4 (g : pq_g) : pq_cI (SC g) 65 0 4 := ⟨(show 65 < 83 by decide), _, fun i j r => rfl, fun _ _ _ => rfl, fun _ _ _ _ => rfl⟩
set_option maxRecDepth 8000 in
theorem cCR_65_5 (g : pq_g) : pq_cR (SC g) 65 0 5 := ⟨(show 65 < 83 by decide), _, fun i j r => rfl, fun _ _ _ => rfl, fun _ _ _ _ => rfl⟩
set_option maxRecDepth 8000 in
theorem cCI_65_6 (g : pq_g) : pq_cI (SC g) 65 0 6 := ⟨(show 65 < 83 by decide), _, fun i j r => rfl, fun _ _ _ => rfl, fun _ _ _ _ => rfl⟩
set_option maxRecDepth 8000 in
theorem oC_70 (g : pq_g) : pq_o (SC g) 70 7 RX7 := ⟨(show 70 < 83 by decide), ⟨_, fun i j r => rfl⟩, TX7, 3, rfl⟩
set_option maxRecDepth 8000 in
theorem cCI_70_0 (g : pq_g) : pq_cI (SC g) 70 7 0 := ⟨(show 70 < 83 by decide), _, fun i j r => rfl, fun _ _ _ => rfl, fun _ _ _ _ => rfl⟩
set_option maxRecDepth 8000 in
theorem cCI_70_1 (g : pq_g) : pq_cI (SC g) 70 7 1 := ⟨(show 70 < 83 by decide), _, fun i j r => rfl, fun _ _ _ => rfl, fun _ _ _ _ => rfl⟩
set_option maxRecDepth 8000 in
theorem cCI_70_2 (g : pq_g) : pq_cI (SC g) 70 7 2 := ⟨(show 70 < 83 by decide), _, fun i j r => rfl, fun _ _ _ => rfl, fun _ _ _ _ => rfl⟩
set_option maxRecDepth 8000 in
theorem oC_71 (g : pq_g) : pq_o (SC g) 71 5 RX5 := ⟨(show 71 < 83 by decide), ⟨_, fun i j r => rfl⟩, TX5, 4, rfl⟩
set_option maxRecDepth 8000 in
theorem cCA_71_0 (g : pq_g) : pq_cA (SC g) 71 5 0 72 := ⟨(show 71 < 83 by decide), _, fun i j r => rfl, fun _ _ _ => rfl⟩
set_option maxRecDepth 8000 in
theorem cCA_71_1 (g : pq_g) : pq_cA (SC g) 71 5 1 73 := ⟨(show 71 < 83 by decide), _, fun i j r => rfl, fun _ _ _ => rfl⟩
set_option maxRecDepth 8000 in
theorem cCI_71_2 (g : pq_g) : pq_cI (SC g) 71 5 2 := ⟨(show 71 < 83 by decide), _, fun i j r => rfl, fun _ _ _ => rfl, fun _ _ _ _ => rfl⟩
set_option maxRecDepth 8000 in
theorem cCI_71_3 (g : pq_g) : pq_cI (SC g) 71 5 3 := ⟨(show 71 < 83 by decide), _, fun i j r => rfl, fun _ _ _ => rfl, fun _ _ _ _ => rfl⟩
set_option maxRecDepth 8000 in
theorem oC_74 (g : pq_g) : pq_o (SC g) 74 8 RX8 := ⟨(show 74 < 83 by decide), ⟨_, fun i j r => rfl⟩, TX8, 6, rfl⟩
set_option maxRecDepth 8000 in
theorem cCI_74_0 (g : pq_g) : pq_cI (SC g) 74 8 0 := ⟨(show 74 < 83 by decide), _, fun i j r => rfl, fun _ _ _ => rfl, fun _ _ _ _ => rfl⟩
set_option maxRecDepth 8000 in
theorem cCA_74_1 (g : pq_g) : pq_cA (SC g) 74 8 1 75 := ⟨(show 74 < 83 by decide), _, fun i j r => rfl, fun _ _ _ => rfl⟩
set_option maxRecDepth 8000 in
theorem cCA_74_2 (g : pq_g) : pq_cA (SC g) 74 8 2 76 := ⟨(show 74 < 83 by decide), _, fun i j r => rfl, fun _ _ _ => rfl⟩
set_option maxRecDepth 8000 in
theorem cCA_74_3 (g : pq_g) : pq_cA (SC g) 74 8 3 77 := ⟨(show 74 < 83 by decide), _, fun i j r => rfl, fun _ _ _ => rfl⟩
set_option maxRecDepth 8000 in
theorem cCA_74_4 (g : pq_g) : pq_cA (SC g) 74 8 4 78 := ⟨(show 74 < 83 by decide), _, fun i j r => rfl, fun _ _ _ => rfl⟩
set_option maxRecDepth 8000 in
theorem cCI_74_5 (g : pq_g) : pq_cI (SC g) 74 8 5 := ⟨(show 74 < 83 by decide), _, fun i j r => rfl, fun _ _ _ => rfl, fun _ _ _ _ => rfl⟩
set_option maxRecDepth 8000 in
theorem oC_79 (g : pq_g) : pq_o (SC g) 79 4 RX4 := ⟨(show 79 < 83 by decide), ⟨_, fun i j r => rfl⟩, TX4, 2, rfl⟩
set_option maxRecDepth 8000 in
theorem cCA_79_0 (g : pq_g) : pq_cA (SC g) 79 4 0 80 := ⟨(show 79 < 83 by decide), _, fun i j r => rfl, fun _ _ _ => rfl⟩
set_option maxRecDepth 8000 in
theorem cCA_79_1 (g : pq_g) : pq_cA (SC g) 79 4 1 81 := ⟨(show 79 < 83 by decide), _, fun i j r => rfl, fun _ _ _ => rfl⟩
set_option maxRecDepth 8000 in
theorem aCJ_60 (g : pq_g) : pq_aJ (SC g) 60 190 := ⟨(show 60 < 83 by decide), g.2.2.1 1, 1, fun i j r => rfl, rfl⟩
set_option maxRecDepth 8000 in
theorem aCI_62 (g : pq_g) : pq_aI (SC g) 62 72 := ⟨(show 62 < 83 by decide), g.2.2.1 0, 0, fun i j r => rfl, rfl⟩
set_option maxRecDepth 8000 in
theorem aCI_64 (g : pq_g) : pq_aI (SC g) 64 3 := ⟨(show 64 < 83 by decide), g.2.2.1 0, 0, fun i j r => rfl, rfl⟩
set_option maxRecDepth 8000 in
theorem aCI_66 (g : pq_g) : pq_aI (SC g) 66 9 := ⟨(show 66 < 83 by decide), g.2.2.1 0, 0, fun i j r => rfl, rfl⟩
set_option maxRecDepth 8000 in
theorem aCI_67 (g : pq_g) : pq_aI (SC g) 67 9 := ⟨(show 67 < 83 by decide), g.2.2.1 0, 0, fun i j r => rfl, rfl⟩
set_option maxRecDepth 8000 in
theorem aCI_68 (g : pq_g) : pq_aI (SC g) 68 9 := ⟨(show 68 < 83 by decide), g.2.2.1 0, 0, fun i j r => rfl, rfl⟩
set_option maxRecDepth 8000 in
theorem aCI_69 (g : pq_g) : pq_aI (SC g) 69 9 := ⟨(show 69 < 83 by decide), g.2.2.1 0, 0, fun i j r => rfl, rfl⟩
set_option maxRecDepth 8000 in
theorem aCI_73 (g : pq_g) : pq_aI (SC g) 73 3 := ⟨(show 73 < 83 by decide), g.2.2.1 0, 0, fun i j r => rfl, rfl⟩
set_option maxRecDepth 8000 in
theorem aCI_75 (g : pq_g) : pq_aI (SC g) 75 16 := ⟨(show 75 < 83 by decide), g.2.2.1 0, 0, fun i j r => rfl, rfl⟩
set_option maxRecDepth 8000 in
theorem aCI_76 (g : pq_g) : pq_aI (SC g) 76 16 := ⟨(show 76 < 83 by decide), g.2.2.1 0, 0, fun i j r => rfl, rfl⟩
set_option maxRecDepth 8000 in
theorem aCI_77 (g : pq_g) : pq_aI (SC g) 77 16 := ⟨(show 77 < 83 by decide), g.2.2.1 0, 0, fun i j r => rfl, rfl⟩
set_option maxRecDepth 8000 in
theorem aCI_78 (g : pq_g) : pq_aI (SC g) 78 16 := ⟨(show 78 < 83 by decide), g.2.2.1 0, 0, fun i j r => rfl, rfl⟩
set_option maxRecDepth 8000 in
theorem aCI_81 (g : pq_g) : pq_aI (SC g) 81 3 := ⟨(show 81 < 83 by decide), g.2.2.1 0, 0, fun i j r => rfl, rfl⟩
set_option maxRecDepth 8000 in
theorem aCI_82 (g : pq_g) : pq_aI (SC g) 82 7 := ⟨(show 82 < 83 by decide), g.2.2.1 0, 0, fun i j r => rfl, rfl⟩
set_option maxRecDepth 8000 in
theorem oM_0 (g : pq_g) : pq_o (SM g) 0 11 RX11 := ⟨(show 0 < 23 by decide), ⟨_, fun i j r => rfl⟩, TX11, 44, rfl⟩
set_option maxRecDepth 8000 in
theorem cMA_0_0 (g : pq_g) : pq_cA (SM g) 0 11 0 1 := ⟨(show 0 < 23 by decide), _, fun i j r => rfl, fun _ _ _ => rfl⟩
set_option maxRecDepth 8000 in
theorem cMA_0_1 (g : pq_g) : pq_cA (SM g) 0 11 1 2 := ⟨(show 0 < 23 by decide), _, fun i j r => rfl, fun _ _ _ => rfl⟩
set_option maxRecDepth 8000 in
theorem cMA_0_2 (g : pq_g) : pq_cA (SM g) 0 11 2 3 := ⟨(show 0 < 23 by decide), _, fun i j r => rfl, fun _ _ _ => rfl⟩
set_option maxRecDepth 8000 in
theorem cMA_0_3 (g : pq_g) : pq_cA (SM g) 0 11 3 4 := ⟨(show 0 < 23 by decide), _, fun i j r => rfl, fun _ _ _ => rfl⟩
set_option maxRecDepth 8000 in
theorem cMA_0_4 (g : pq_g) : pq_cA (SM g) 0 11 4 5 := ⟨(show 0 < 23 by decide), _, fun i j r => rfl, fun _ _ _ => rfl⟩
set_option maxRecDepth 8000 in
theorem cMI_0_5 (g : pq_g) : pq_cI (SM g) 0 11 5 := ⟨(show 0 < 23 by decide), _, fun i j r => rfl, fun _ _ _ => rfl, fun _ _ _ _ => rfl⟩
set_option maxRecDepth 8000 in
theorem cMA_0_6 (g : pq_g) : pq_cA (SM g) 0 11 6 6 := ⟨(show 0 < 23 by decide), _, fun i j r => rfl, fun _ _ _ => rfl⟩
set_option maxRecDepth 8000 in
theorem cMA_0_7 (g : pq_g) : pq_cA (SM g) 0 11 7 7 := ⟨(show 0 < 23 by decide), _, fun i j r => rfl, fun _ _ _ => rfl⟩
set_option maxRecDepth 8000 in
theorem cMI_0_8 (g : pq_g) : pq_cI (SM g) 0 11 8 := ⟨(show 0 < 23 by decide), _, fun i j r => rfl, fun _ _ _ => rfl, fun _ _ _ _ => rfl⟩
set_option maxRecDepth 8000 in
theorem cMA_0_9 (g : pq_g) : pq_cA (SM g) 0 11 9 8 := ⟨(show 0 < 23 by decide), _, fun i j r => rfl, fun _ _ _ => rfl⟩
set_option maxRecDepth 8000 in
theorem cMA_0_10 (g : pq_g) : pq_cA (SM g) 0 11 10 9 := ⟨(show 0 < 23 by decide), _, fun i j r => rfl, fun _ _ _ => rfl⟩
set_option maxRecDepth 8000 in
theorem cMI_0_11 (g : pq_g) : pq_cI (SM g) 0 11 11 := ⟨(show 0 < 23 by decide), _, fun i j r => rfl, fun _ _ _ => rfl, fun _ _ _ _ => rfl⟩
set_option maxRecDepth 8000 in
theorem cMI_0_12 (g : pq_g) : pq_cI (SM g) 0 11 12 := ⟨(show 0 < 23 by decide), _, fun i j r => rfl, fun _ _ _ => rfl, fun _ _ _ _ => rfl⟩
set_option maxRecDepth 8000 in
theorem cMA_0_13 (g : pq_g) : pq_cA (SM g) 0 11 13 10 := ⟨(show 0 < 23 by decide), _, fun i j r => rfl, fun _ _ _ => rfl⟩
set_option maxRecDepth 8000 in
theorem cMA_0_14 (g : pq_g) : pq_cA (SM g) 0 11 14 11 := ⟨(show 0 < 23 by decide), _, fun i j r => rfl, fun _ _ _ => rfl⟩
set_option maxRecDepth 8000 in
theorem cMA_0_15 (g : pq_g) : pq_cA (SM g) 0 11 15 12 := ⟨(show 0 < 23 by decide), _, fun i j r => rfl, fun _ _ _ => rfl⟩
set_option maxRecDepth 8000 in
theorem cMA_0_16 (g : pq_g) : pq_cA (SM g) 0 11 16 13 := ⟨(show 0 < 23 by decide), _, fun i j r => rfl, fun _ _ _ => rfl⟩
set_option maxRecDepth 8000 in
theorem cMA_0_17 (g : pq_g) : pq_cA (SM g) 0 11 17 14 := ⟨(show 0 < 23 by decide), _, fun i j r => rfl, fun _ _ _ => rfl⟩
set_option maxRecDepth 8000 in
theorem cMI_0_18 (g : pq_g) : pq_cI (SM g) 0 11 18 := ⟨(show 0 < 23 by decide), _, fun i j r => rfl, fun _ _ _ => rfl, fun _ _ _ _ => rfl⟩
set_option maxRecDepth 8000 in
theorem cMA_0_19 (g : pq_g) : pq_cA (SM g) 0 11 19 15 := ⟨(show 0 < 23 by decide), _, fun i j r => rfl, fun _ _ _ => rfl⟩
set_option maxRecDepth 8000 in
theorem cMA_0_20 (g : pq_g) : pq_cA (SM g) 0 11 20 16 := ⟨(show 0 < 23 by decide), _, fun i j r => rfl, fun _ _ _ => rfl⟩
set_option maxRecDepth 8000 in
theorem cMI_0_21 (g : pq_g) : pq_cI (SM g) 0 11 21 := ⟨(show 0 < 23 by decide), _, fun i j r => rfl, fun _ _ _ => rfl, fun _ _ _ _ => rfl⟩
set_option maxRecDepth 8000 in
theorem cMI_0_22 (g : pq_g) : pq_cI (SM g) 0 11 22 := ⟨(show 0 < 23 by decide), _, fun i j r => rfl, fun _ _ _ => rfl, fun _ _ _ _ => rfl⟩
set_option maxRecDepth 8000 in
theorem cMI_0_23 (g : pq_g) : pq_cI (SM g) 0 11 23 := ⟨(show 0 < 23 by decide), _, fun i j r => rfl, fun _ _ _ => rfl, fun _ _ _ _ => rfl⟩
set_option maxRecDepth 8000 in
theorem cMI_0_24 (g : pq_g) : pq_cI (SM g) 0 11 24 := ⟨(show 0 < 23 by decide), _, fun i j r => rfl, fun _ _ _ => rfl, fun _ _ _ _ => rfl⟩
set_option maxRecDepth 8000 in
theorem cMI_0_25 (g : pq_g) : pq_cI (SM g) 0 11 25 := ⟨(show 0 < 23 by decide), _, fun i j r => rfl, fun _ _ _ => rfl, fun _ _ _ _ => rfl⟩
set_option maxRecDepth 8000 in
theorem cMI_0_26 (g : pq_g) : pq_cI (SM g) 0 11 26 := ⟨(show 0 < 23 by decide), _, fun i j r => rfl, fun _ _ _ => rfl, fun _ _ _ _ => rfl⟩
set_option maxRecDepth 8000 in
theorem cMI_0_27 (g : pq_g) : pq_cI (SM g) 0 11 27 := ⟨(show 0 < 23 by decide), _, fun i j r => rfl, fun _ _ _ => rfl, fun _ _ _ _ => rfl⟩
set_option maxRecDepth 8000 in
theorem cMJ_0_28 (g : pq_g) : pq_cJ (SM g) 0 11 28 := ⟨(show 0 < 23 by decide), _, fun i j r => rfl, fun _ _ _ => rfl, fun _ _ _ _ => rfl⟩
set_option maxRecDepth 8000 in
theorem cMA_0_29 (g : pq_g) : pq_cA (SM g) 0 11 29 17 := ⟨(show 0 < 23 by decide), _, fun i j r => rfl, fun _ _ _ => rfl⟩
set_option maxRecDepth 8000 in
theorem cMA_0_30 (g : pq_g) : pq_cA (SM g) 0 11 30 18 := ⟨(show 0 < 23 by decide), _, fun i j r => rfl, fun _ _ _ => rfl⟩
set_option maxRecDepth 8000 in
theorem cMI_0_31 (g : pq_g) : pq_cI (SM g) 0 11 31 := ⟨(show 0 < 23 by decide), _, fun i j r => rfl, fun _ _ _ => rfl, fun _ _ _ _ => rfl⟩
set_option maxRecDepth 8000 in
theorem cMI_0_32 (g : pq_g) : pq_cI (SM g) 0 11 32 := ⟨(show 0 < 23 by decide), _, fun i j r => rfl, fun _ _ _ => rfl, fun _ _ _ _ => rfl⟩
set_option maxRecDepth 8000 in
theorem cMI_0_33 (g : pq_g) : pq_cI (SM g) 0 11 33 := ⟨(show 0 < 23 by decide), _, fun i j r => rfl, fun _ _ _ => rfl, fun _ _ _ _ => rfl⟩
set_option maxRecDepth 8000 in
theorem cMI_0_34 (g : pq_g) : pq_cI (SM g) 0 11 34 := ⟨(show 0 < 23 by decide), _, fun i j r => rfl, fun _ _ _ => rfl, fun _ _ _ _ => rfl⟩
set_option maxRecDepth 8000 in
theorem cMA_0_35 (g : pq_g) : pq_cA (SM g) 0 11 35 19 := ⟨(show 0 < 23 by decide), _, fun i j r => rfl, fun _ _ _ => rfl⟩
set_option maxRecDepth 8000 in
theorem cMI_0_36 (g : pq_g) : pq_cI (SM g) 0 11 36 := ⟨(show 0 < 23 by decide), _, fun i j r => rfl, fun _ _ _ => rfl, fun _ _ _ _ => rfl⟩
set_option maxRecDepth 8000 in
theorem cMI_0_37 (g : pq_g) : pq_cI (SM g) 0 11 37 := ⟨(show 0 < 23 by decide), _, fun i j r => rfl, fun _ _ _ => rfl, fun _ _ _ _ => rfl⟩
set_option maxRecDepth 8000 in
theorem cMA_0_38 (g : pq_g) : pq_cA (SM g) 0 11 38 20 := ⟨(show 0 < 23 by decide), _, fun i j r => rfl, fun _ _ _ => rfl⟩
set_option maxRecDepth 8000 in
theorem cMA_0_39 (g : pq_g) : pq_cA (SM g) 0 11 39 21 := ⟨(show 0 < 23 by decide), _, fun i j r => rfl, fun _ _ _ => rfl⟩
set_option maxRecDepth 8000 in
theorem cMA_0_40 (g : pq_g) : pq_cA (SM g) 0 11 40 22 := ⟨(show 0 < 23 by decide), _, fun i j r => rfl, fun _ _ _ => rfl⟩
set_option maxRecDepth 8000 in
theorem cMI_0_41 (g : pq_g) : pq_cI (SM g) 0 11 41 := ⟨(show 0 < 23 by decide), _, fun i j r => rfl, fun _ _ _ => rfl, fun _ _ _ _ => rfl⟩
set_option maxRecDepth 8000 in
theorem cMI_0_42 (g : pq_g) : pq_cI (SM g) 0 11 42 := ⟨(show 0 < 23 by decide), _, fun i j r => rfl, fun _ _ _ => rfl, fun _ _ _ _ => rfl⟩
set_option maxRecDepth 8000 in
theorem cMI_0_43 (g : pq_g) : pq_cI (SM g) 0 11 43 := ⟨(show 0 < 23 by decide), _, fun i j r => rfl, fun _ _ _ => rfl, fun _ _ _ _ => rfl⟩
set_option maxRecDepth 8000 in
theorem aMI_1 (g : pq_g) : pq_aI (SM g) 1 7 := ⟨(show 1 < 23 by decide), g.2.2.1 0, 0, fun i j r => rfl, rfl⟩
set_option maxRecDepth 8000 in
theorem aMI_2 (g : pq_g) : pq_aI (SM g) 2 168 := ⟨(show 2 < 23 by decide), g.2.2.1 0, 0, fun i j r => rfl, rfl⟩
set_option maxRecDepth 8000 in
theorem aMI_3 (g : pq_g) : pq_aI (SM g) 3 6 := ⟨(show 3 < 23 by decide), g.2.2.1 0, 0, fun i j r => rfl, rfl⟩
set_option maxRecDepth 8000 in
theorem aMI_4 (g : pq_g) : pq_aI (SM g) 4 6 := ⟨(show 4 < 23 by decide), g.2.2.1 0, 0, fun i j r => rfl, rfl⟩
set_option maxRecDepth 8000 in
theorem aMI_5 (g : pq_g) : pq_aI (SM g) 5 6 := ⟨(show 5 < 23 by decide), g.2.2.1 0, 0, fun i j r => rfl, rfl⟩
set_option maxRecDepth 8000 in
theorem aMI_6 (g : pq_g) : pq_aI (SM g) 6 16 := ⟨(show 6 < 23 by decide), g.2.2.1 0, 0, fun i j r => rfl, rfl⟩
set_option maxRecDepth 8000 in
theorem aMI_7 (g : pq_g) : pq_aI (SM g) 7 16 := ⟨(show 7 < 23 by decide), g.2.2.1 0, 0, fun i j r => rfl, rfl⟩
set_option maxRecDepth 8000 in
theorem aMJ_8 (g : pq_g) : pq_aJ (SM g) 8 28 := ⟨(show 8 < 23 by decide), g.2.2.1 1, 1, fun i j r => rfl, rfl⟩
set_option maxRecDepth 8000 in
theorem aMI_9 (g : pq_g) : pq_aI (SM g) 9 72 := ⟨(show 9 < 23 by decide), g.2.2.1 0, 0, fun i j r => rfl, rfl⟩
set_option maxRecDepth 8000 in
theorem aMI_10 (g : pq_g) : pq_aI (SM g) 10 3 := ⟨(show 10 < 23 by decide), g.2.2.1 0, 0, fun i j r => rfl, rfl⟩
set_option maxRecDepth 8000 in
theorem aMI_11 (g : pq_g) : pq_aI (SM g) 11 16 := ⟨(show 11 < 23 by decide), g.2.2.1 0, 0, fun i j r => rfl, rfl⟩
set_option maxRecDepth 8000 in
theorem aMI_12 (g : pq_g) : pq_aI (SM g) 12 16 := ⟨(show 12 < 23 by decide), g.2.2.1 0, 0, fun i j r => rfl, rfl⟩
set_option maxRecDepth 8000 in
theorem aMI_13 (g : pq_g) : pq_aI (SM g) 13 16 := ⟨(show 13 < 23 by decide), g.2.2.1 0, 0, fun i j r => rfl, rfl⟩
set_option maxRecDepth 8000 in
theorem aMI_14 (g : pq_g) : pq_aI (SM g) 14 16 := ⟨(show 14 < 23 by decide), g.2.2.1 0, 0, fun i j r => rfl, rfl⟩
set_option maxRecDepth 8000 in
theorem aMJ_15 (g : pq_g) : pq_aJ (SM g) 15 190 := ⟨(show 15 < 23 by decide), g.2.2.1 1, 1, fun i j r => rfl, rfl⟩
set_option maxRecDepth 8000 in
theorem aMJ_16 (g : pq_g) : pq_aJ (SM g) 16 190 := ⟨(show 16 < 23 by decide), g.2.2.1 1, 1, fun i j r => rfl, rfl⟩
set_option maxRecDepth 8000 in
theorem aMI_17 (g : pq_g) : pq_aI (SM g) 17 112 := ⟨(show 17 < 23 by decide), g.2.2.1 0, 0, fun i j r => rfl, rfl⟩
set_option maxRecDepth 8000 in
theorem aMI_18 (g : pq_g) : pq_aI (SM g) 18 3 := ⟨(show 18 < 23 by decide), g.2.2.1 0, 0, fun i j r => rfl, rfl⟩
set_option maxRecDepth 8000 in
theorem aMI_19 (g : pq_g) : pq_aI (SM g) 19 500 := ⟨(show 19 < 23 by decide), g.2.2.1 0, 0, fun i j r => rfl, rfl⟩
set_option maxRecDepth 8000 in
theorem aMI_20 (g : pq_g) : pq_aI (SM g) 20 3 := ⟨(show 20 < 23 by decide), g.2.2.1 0, 0, fun i j r => rfl, rfl⟩
set_option maxRecDepth 8000 in
theorem aMI_21 (g : pq_g) : pq_aI (SM g) 21 120 := ⟨(show 21 < 23 by decide), g.2.2.1 0, 0, fun i j r => rfl, rfl⟩
set_option maxRecDepth 8000 in
theorem aMI_22 (g : pq_g) : pq_aI (SM g) 22 190 := ⟨(show 22 < 23 by decide), g.2.2.1 0, 0, fun i j r => rfl, rfl⟩
set_option maxRecDepth 8000 in
theorem aA_57 (g : pq_g) : pq_aA (SC g) 57 6 (fun t => t) := ⟨(show 57 < 83 by decide), g.2.2.1 2, 2, _, fun i j r => rfl, rfl, rfl⟩
set_option maxRecDepth 8000 in
theorem aA_58 (g : pq_g) : pq_aA (SC g) 58 6 (fun t => 6 + t) := ⟨(show 58 < 83 by decide), g.2.2.1 2, 2, _, fun i j r => rfl, rfl, rfl⟩
set_option maxRecDepth 8000 in
theorem aA_80 (g : pq_g) : pq_aA (SC g) 80 3 (fun t => 52 + t) := ⟨(show 80 < 83 by decide), g.2.2.1 3, 3, _, fun i j r => rfl, rfl, rfl⟩
set_option maxRecDepth 8000 in
theorem aR_72 (g : pq_g) : pq_aR (SC g) 72 28 := ⟨(show 72 < 83 by decide), g.2.2.1 4, 4, _, fun i j r => rfl, rfl, rfl⟩
set_option maxRecDepth 8000 in
theorem lt6_12 {q : Nat} (h : q < 6) : q < 12 := Nat.lt_of_lt_of_le h (by decide)
set_option maxRecDepth 8000 in
theorem lt6_k {q : Nat} (h : q < 6) : 6 + q < 12 := by omega
set_option maxRecDepth 8000 in
theorem v_aa57 {X : pq_X} {g : pq_g} {α : Type} {res : α} {nL pc : Nat} {L : List (Nat × Value)} {st : List Value} {h : pq_H} {F : Option α} {b : ByteArray} {own : String} {i : Int32} (hB : pq_B X b nL own) (hK : pq_K X (SC g)) (d : decode b pc = .ok (.aaload, 1)) (kk : i.toNatClampNeg < 6 → V X (SC g) res nL (pc + 1) L (.ref ((SC g).1.2.1 i.toNatClampNeg) :: st) h F) : V X (SC g) res nL pc L (.int i :: .ref ((SC g).1.2.1 57) :: st) h (gd (inb i 6) F) := v_aald hB hK (aA_57 g) d kk
set_option maxRecDepth 8000 in
theorem v_aa58 {X : pq_X} {g : pq_g} {α : Type} {res : α} {nL pc : Nat} {L : List (Nat × Value)} {st : List Value} {h : pq_H} {F : Option α} {b : ByteArray} {own : String} {i : Int32} (hB : pq_B X b nL own) (hK : pq_K X (SC g)) (d : decode b pc = .ok (.aaload, 1)) (kk : i.toNatClampNeg < 6 → V X (SC g) res nL (pc + 1) L (.ref ((SC g).1.2.1 (6 + i.toNatClampNeg)) :: st) h F) : V X (SC g) res nL pc L (.int i :: .ref ((SC g).1.2.1 58) :: st) h (gd (inb i 6) F) := v_aald hB hK (aA_58 g) d kk
set_option maxRecDepth 8000 in
theorem v_aa80 {X : pq_X} {g : pq_g} {α : Type} {res : α} {nL pc : Nat} {L : List (Nat × Value)} {st : List Value} {h : pq_H} {F : Option α} {b : ByteArray} {own : String} {i : Int32} (hB : pq_B X b nL own) (hK : pq_K X (SC g)) (d : decode b pc = .ok (.aaload, 1)) (kk : i.toNatClampNeg < 3 → V X (SC g) res nL (pc + 1) L (.ref ((SC g).1.2.1 (52 + i.toNatClampNeg)) :: st) h F) : V X (SC g) res nL pc L (.int i :: .ref ((SC g).1.2.1 80) :: st) h (gd (inb i 3) F) := v_aald hB hK (aA_80 g) d kk
set_option maxRecDepth 8000 in
theorem fl_X10_10 (g : pq_g) : pq_F (SC g) RX10 10 10 0 (.object "FormsAboveNought$Shelf") := ⟨RX10, TX10, 9, tyX10, rfl, by decide, pq_t2 21 rfl rfl, uw_X10, tyX10_ok, nmX10, rfl⟩
set_option maxRecDepth 8000 in
theorem fl_X10_19 (g : pq_g) : pq_F (SC g) RX10 19 10 1 (.object "FormsAboveNought$Letters") := ⟨RX10, TX10, 9, tyX10, rfl, by decide, pq_t2 22 rfl rfl, uw_X10, tyX10_ok, nmX10, rfl⟩
set_option maxRecDepth 8000 in
theorem fl_X10_26 (g : pq_g) : pq_F (SC g) RX10 26 10 2 (.object "FormsAboveNought$FormReader") := ⟨RX10, TX10, 9, tyX10, rfl, by decide, pq_t2 23 rfl rfl, uw_X10, tyX10_ok, nmX10, rfl⟩
set_option maxRecDepth 8000 in
theorem fl_X10_33 (g : pq_g) : pq_F (SC g) RX10 33 10 3 (.object "FormsAboveNought$ActReader") := ⟨RX10, TX10, 9, tyX10, rfl, by decide, pq_t2 24 rfl rfl, uw_X10, tyX10_ok, nmX10, rfl⟩
set_option maxRecDepth 8000 in
theorem fl_X10_40 (g : pq_g) : pq_F (SC g) RX10 40 10 4 (.object "FormsAboveNought$Speller") := ⟨RX10, TX10, 9, tyX10, rfl, by decide, pq_t2 25 rfl rfl, uw_X10, tyX10_ok, nmX10, rfl⟩
set_option maxRecDepth 8000 in
theorem fl_X10_47 (g : pq_g) : pq_F (SC g) RX10 47 10 5 (.object "FormsAboveNought$Maker") := ⟨RX10, TX10, 9, tyX10, rfl, by decide, pq_t2 26 rfl rfl, uw_X10, tyX10_ok, nmX10, rfl⟩
set_option maxRecDepth 8000 in
theorem fl_X10_54 (g : pq_g) : pq_F (SC g) RX10 54 10 6 (.object "FormsAboveNought$UndoLog") := ⟨RX10, TX10, 9, tyX10, rfl, by decide, pq_t2 27 rfl rfl, uw_X10, tyX10_ok, nmX10, rfl⟩
set_option maxRecDepth 8000 in
theorem fl_X10_61 (g : pq_g) : pq_F (SC g) RX10 61 10 7 (.object "FormsAboveNought$Lists") := ⟨RX10, TX10, 9, tyX10, rfl, by decide, pq_t2 28 rfl rfl, uw_X10, tyX10_ok, nmX10, rfl⟩
set_option maxRecDepth 8000 in
theorem fl_X10_65 (g : pq_g) : pq_F (SC g) RX10 65 10 8 (.array .int) := ⟨RX10, TX10, 9, tyX10, rfl, by decide, pq_t2 29 rfl rfl, uw_X10, tyX10_ok, nmX10, rfl⟩
set_option maxRecDepth 8000 in
theorem fl_X10_73 (g : pq_g) : pq_F (SC g) RX10 73 3 1 .int := ⟨RX3, TX3, 2, tyX3, rfl, by decide, pq_t1 115 rfl rfl, uw_X3, tyX3_ok, nmX3, rfl⟩
set_option maxRecDepth 8000 in
theorem fl_X10_85 (g : pq_g) : pq_F (SC g) RX10 85 6 0 (.array (.object "FormsAboveNought$Form")) := ⟨RX6, TX6, 5, tyX6, rfl, by decide, pq_t1 86 rfl rfl, uw_X6, tyX6_ok, nmX6, rfl⟩
set_option maxRecDepth 8000 in
theorem fl_X10_89 (g : pq_g) : pq_F (SC g) RX10 89 6 3 .int := ⟨RX6, TX6, 5, tyX6, rfl, by decide, pq_t1 93 rfl rfl, uw_X6, tyX6_ok, nmX6, rfl⟩
set_option maxRecDepth 8000 in
theorem fl_X10_105 (g : pq_g) : pq_F (SC g) RX10 105 8 0 .int := ⟨RX8, TX8, 6, tyX8, rfl, by decide, pq_t1 225 rfl rfl, uw_X8, tyX8_ok, nmX8, rfl⟩
set_option maxRecDepth 8000 in
theorem fl_X10_106 (g : pq_g) : pq_F (SC g) RX10 106 0 4 .int := ⟨RX0, TX0, 7, tyX0, rfl, by decide, pq_t1 160 rfl rfl, uw_X0, tyX0_ok, nmX0, rfl⟩
set_option maxRecDepth 8000 in
theorem fl_X10_120 (g : pq_g) : pq_F (SC g) RX10 120 1 0 (.array .int) := ⟨RX1, TX1, 4, tyX1, rfl, by decide, pq_t1 59 rfl rfl, uw_X1, tyX1_ok, nmX1, rfl⟩
set_option maxRecDepth 8000 in
theorem fl_X10_131 (g : pq_g) : pq_F (SC g) RX10 131 1 1 .int := ⟨RX1, TX1, 4, tyX1, rfl, by decide, pq_t1 63 rfl rfl, uw_X1, tyX1_ok, nmX1, rfl⟩
set_option maxRecDepth 8000 in
theorem fl_X10_134 (g : pq_g) : pq_F (SC g) RX10 134 1 2 .int := ⟨RX1, TX1, 4, tyX1, rfl, by decide, pq_t1 66 rfl rfl, uw_X1, tyX1_ok, nmX1, rfl⟩
set_option maxRecDepth 8000 in
theorem fl_X10_137 (g : pq_g) : pq_F (SC g) RX10 137 1 3 .int := ⟨RX1, TX1, 4, tyX1, rfl, by decide, pq_t1 73 rfl rfl, uw_X1, tyX1_ok, nmX1, rfl⟩
set_option maxRecDepth 8000 in
theorem fl_X10_217 (g : pq_g) : pq_F (SC g) RX10 217 4 1 (.array .int) := ⟨RX4, TX4, 2, tyX4, rfl, by decide, pq_t2 15 rfl rfl, uw_X4, tyX4_ok, nmX4, rfl⟩
set_option maxRecDepth 8000 in
theorem fl_X10_263 (g : pq_g) : pq_F (SC g) RX10 263 7 0 .int := ⟨RX7, TX7, 3, tyX7, rfl, by decide, pq_t1 186 rfl rfl, uw_X7, tyX7_ok, nmX7, rfl⟩
set_option maxRecDepth 8000 in
theorem fl_X10_266 (g : pq_g) : pq_F (SC g) RX10 266 7 1 .int := ⟨RX7, TX7, 3, tyX7, rfl, by decide, pq_t1 188 rfl rfl, uw_X7, tyX7_ok, nmX7, rfl⟩
set_option maxRecDepth 8000 in
theorem fl_X10_276 (g : pq_g) : pq_F (SC g) RX10 276 4 0 (.array (.array .int)) := ⟨RX4, TX4, 2, tyX4, rfl, by decide, pq_t2 13 rfl rfl, uw_X4, tyX4_ok, nmX4, rfl⟩
set_option maxRecDepth 8000 in
theorem fl_X10_287 (g : pq_g) : pq_F (SC g) RX10 287 6 4 .int := ⟨RX6, TX6, 5, tyX6, rfl, by decide, pq_t1 95 rfl rfl, uw_X6, tyX6_ok, nmX6, rfl⟩
set_option maxRecDepth 8000 in
theorem fl_X10_303 (g : pq_g) : pq_F (SC g) RX10 303 6 2 (.object "FormsAboveNought$Work") := ⟨RX6, TX6, 5, tyX6, rfl, by decide, pq_t1 90 rfl rfl, uw_X6, tyX6_ok, nmX6, rfl⟩
set_option maxRecDepth 8000 in
theorem fl_X0_9 (g : pq_g) : pq_F (SC g) RX0 9 0 0 (.array .int) := ⟨RX0, TX0, 7, tyX0, rfl, by decide, pq_t1 151 rfl rfl, uw_X0, tyX0_ok, nmX0, rfl⟩
set_option maxRecDepth 8000 in
theorem fl_X0_15 (g : pq_g) : pq_F (SC g) RX0 15 0 1 (.array .int) := ⟨RX0, TX0, 7, tyX0, rfl, by decide, pq_t1 153 rfl rfl, uw_X0, tyX0_ok, nmX0, rfl⟩
set_option maxRecDepth 8000 in
theorem fl_X0_18 (g : pq_g) : pq_F (SC g) RX0 18 0 2 (.array .int) := ⟨RX0, TX0, 7, tyX0, rfl, by decide, pq_t1 155 rfl rfl, uw_X0, tyX0_ok, nmX0, rfl⟩
set_option maxRecDepth 8000 in
theorem fl_X0_21 (g : pq_g) : pq_F (SC g) RX0 21 0 3 (.array .int) := ⟨RX0, TX0, 7, tyX0, rfl, by decide, pq_t1 157 rfl rfl, uw_X0, tyX0_ok, nmX0, rfl⟩
set_option maxRecDepth 8000 in
theorem fl_X0_24 (g : pq_g) : pq_F (SC g) RX0 24 0 5 (.object "FormsAboveNought$Letters") := ⟨RX0, TX0, 7, tyX0, rfl, by decide, pq_t1 162 rfl rfl, uw_X0, tyX0_ok, nmX0, rfl⟩
set_option maxRecDepth 8000 in
theorem fl_X0_28 (g : pq_g) : pq_F (SC g) RX0 28 0 6 .int := ⟨RX0, TX0, 7, tyX0, rfl, by decide, pq_t1 163 rfl rfl, uw_X0, tyX0_ok, nmX0, rfl⟩
set_option maxRecDepth 8000 in
theorem fl_X0_32 (g : pq_g) : pq_F (SC g) RX0 32 0 4 .int := ⟨RX0, TX0, 7, tyX0, rfl, by decide, pq_t1 159 rfl rfl, uw_X0, tyX0_ok, nmX0, rfl⟩
set_option maxRecDepth 8000 in
theorem fl_X0_39 (g : pq_g) : pq_F (SC g) RX0 39 3 1 .int := ⟨RX3, TX3, 2, tyX3, rfl, by decide, pq_t1 116 rfl rfl, uw_X3, tyX3_ok, nmX3, rfl⟩
set_option maxRecDepth 8000 in
theorem fl_X1_9 (g : pq_g) : pq_F (SC g) RX1 9 1 0 (.array .int) := ⟨RX1, TX1, 4, tyX1, rfl, by decide, pq_t1 56 rfl rfl, uw_X1, tyX1_ok, nmX1, rfl⟩
set_option maxRecDepth 8000 in
theorem fl_X1_15 (g : pq_g) : pq_F (SC g) RX1 15 1 1 .int := ⟨RX1, TX1, 4, tyX1, rfl, by decide, pq_t1 61 rfl rfl, uw_X1, tyX1_ok, nmX1, rfl⟩
set_option maxRecDepth 8000 in
theorem fl_X1_19 (g : pq_g) : pq_F (SC g) RX1 19 1 2 .int := ⟨RX1, TX1, 4, tyX1, rfl, by decide, pq_t1 64 rfl rfl, uw_X1, tyX1_ok, nmX1, rfl⟩
set_option maxRecDepth 8000 in
theorem fl_X1_22 (g : pq_g) : pq_F (SC g) RX1 22 1 3 .int := ⟨RX1, TX1, 4, tyX1, rfl, by decide, pq_t1 68 rfl rfl, uw_X1, tyX1_ok, nmX1, rfl⟩
set_option maxRecDepth 8000 in
theorem fl_X2_9 (g : pq_g) : pq_F (SC g) RX2 9 2 0 (.array .int) := ⟨RX2, TX2, 5, tyX2, rfl, by decide, pq_t1 129 rfl rfl, uw_X2, tyX2_ok, nmX2, rfl⟩
set_option maxRecDepth 8000 in
theorem fl_X2_15 (g : pq_g) : pq_F (SC g) RX2 15 2 1 (.object "FormsAboveNought$Letters") := ⟨RX2, TX2, 5, tyX2, rfl, by decide, pq_t1 130 rfl rfl, uw_X2, tyX2_ok, nmX2, rfl⟩
set_option maxRecDepth 8000 in
theorem fl_X2_19 (g : pq_g) : pq_F (SC g) RX2 19 2 2 .int := ⟨RX2, TX2, 5, tyX2, rfl, by decide, pq_t1 131 rfl rfl, uw_X2, tyX2_ok, nmX2, rfl⟩
set_option maxRecDepth 8000 in
theorem fl_X2_23 (g : pq_g) : pq_F (SC g) RX2 23 2 4 .int := ⟨RX2, TX2, 5, tyX2, rfl, by decide, pq_t1 133 rfl rfl, uw_X2, tyX2_ok, nmX2, rfl⟩
set_option maxRecDepth 8000 in
theorem fl_X2_41 (g : pq_g) : pq_F (SC g) RX2 41 3 1 .int := ⟨RX3, TX3, 2, tyX3, rfl, by decide, pq_t1 117 rfl rfl, uw_X3, tyX3_ok, nmX3, rfl⟩
set_option maxRecDepth 8000 in
theorem fl_X2_44 (g : pq_g) : pq_F (SC g) RX2 44 1 3 .int := ⟨RX1, TX1, 4, tyX1, rfl, by decide, pq_t1 70 rfl rfl, uw_X1, tyX1_ok, nmX1, rfl⟩
set_option maxRecDepth 8000 in
theorem fl_X2_51 (g : pq_g) : pq_F (SC g) RX2 51 2 3 .int := ⟨RX2, TX2, 5, tyX2, rfl, by decide, pq_t1 132 rfl rfl, uw_X2, tyX2_ok, nmX2, rfl⟩
set_option maxRecDepth 8000 in
theorem fl_X2_56 (g : pq_g) : pq_F (SC g) RX2 56 1 0 (.array .int) := ⟨RX1, TX1, 4, tyX1, rfl, by decide, pq_t1 57 rfl rfl, uw_X1, tyX1_ok, nmX1, rfl⟩
set_option maxRecDepth 8000 in
theorem fl_X3_9 (g : pq_g) : pq_F (SC g) RX3 9 3 0 (.array .int) := ⟨RX3, TX3, 2, tyX3, rfl, by decide, pq_t1 113 rfl rfl, uw_X3, tyX3_ok, nmX3, rfl⟩
set_option maxRecDepth 8000 in
theorem fl_X3_15 (g : pq_g) : pq_F (SC g) RX3 15 3 1 .int := ⟨RX3, TX3, 2, tyX3, rfl, by decide, pq_t1 114 rfl rfl, uw_X3, tyX3_ok, nmX3, rfl⟩
set_option maxRecDepth 8000 in
theorem fl_X4_11 (g : pq_g) : pq_F (SC g) RX4 11 4 0 (.array (.array .int)) := ⟨RX4, TX4, 2, tyX4, rfl, by decide, pq_t2 12 rfl rfl, uw_X4, tyX4_ok, nmX4, rfl⟩
set_option maxRecDepth 8000 in
theorem fl_X4_16 (g : pq_g) : pq_F (SC g) RX4 16 4 1 (.array .int) := ⟨RX4, TX4, 2, tyX4, rfl, by decide, pq_t2 14 rfl rfl, uw_X4, tyX4_ok, nmX4, rfl⟩
set_option maxRecDepth 8000 in
theorem fl_X5_11 (g : pq_g) : pq_F (SC g) RX5 11 5 0 (.array (.array .long)) := ⟨RX5, TX5, 4, tyX5, rfl, by decide, pq_t1 205 rfl rfl, uw_X5, tyX5_ok, nmX5, rfl⟩
set_option maxRecDepth 8000 in
theorem fl_X5_16 (g : pq_g) : pq_F (SC g) RX5 16 5 1 (.array .int) := ⟨RX5, TX5, 4, tyX5, rfl, by decide, pq_t1 206 rfl rfl, uw_X5, tyX5_ok, nmX5, rfl⟩
set_option maxRecDepth 8000 in
theorem fl_X5_20 (g : pq_g) : pq_F (SC g) RX5 20 6 0 (.array (.object "FormsAboveNought$Form")) := ⟨RX6, TX6, 5, tyX6, rfl, by decide, pq_t1 85 rfl rfl, uw_X6, tyX6_ok, nmX6, rfl⟩
set_option maxRecDepth 8000 in
theorem fl_X5_26 (g : pq_g) : pq_F (SC g) RX5 26 1 3 .int := ⟨RX1, TX1, 4, tyX1, rfl, by decide, pq_t1 67 rfl rfl, uw_X1, tyX1_ok, nmX1, rfl⟩
set_option maxRecDepth 8000 in
theorem fl_X5_36 (g : pq_g) : pq_F (SC g) RX5 36 5 2 .int := ⟨RX5, TX5, 4, tyX5, rfl, by decide, pq_t1 207 rfl rfl, uw_X5, tyX5_ok, nmX5, rfl⟩
set_option maxRecDepth 8000 in
theorem fl_X5_39 (g : pq_g) : pq_F (SC g) RX5 39 5 3 .int := ⟨RX5, TX5, 4, tyX5, rfl, by decide, pq_t1 208 rfl rfl, uw_X5, tyX5_ok, nmX5, rfl⟩
set_option maxRecDepth 8000 in
theorem fl_X5_42 (g : pq_g) : pq_F (SC g) RX5 42 6 3 .int := ⟨RX6, TX6, 5, tyX6, rfl, by decide, pq_t1 92 rfl rfl, uw_X6, tyX6_ok, nmX6, rfl⟩
set_option maxRecDepth 8000 in
theorem fl_X6_11 (g : pq_g) : pq_F (SC g) RX6 11 6 0 (.array (.object "FormsAboveNought$Form")) := ⟨RX6, TX6, 5, tyX6, rfl, by decide, pq_t1 84 rfl rfl, uw_X6, tyX6_ok, nmX6, rfl⟩
set_option maxRecDepth 8000 in
theorem fl_X6_17 (g : pq_g) : pq_F (SC g) RX6 17 6 1 (.array (.object "FormsAboveNought$Form")) := ⟨RX6, TX6, 5, tyX6, rfl, by decide, pq_t1 88 rfl rfl, uw_X6, tyX6_ok, nmX6, rfl⟩
set_option maxRecDepth 8000 in
theorem fl_X6_23 (g : pq_g) : pq_F (SC g) RX6 23 6 2 (.object "FormsAboveNought$Work") := ⟨RX6, TX6, 5, tyX6, rfl, by decide, pq_t1 89 rfl rfl, uw_X6, tyX6_ok, nmX6, rfl⟩
set_option maxRecDepth 8000 in
theorem fl_X6_27 (g : pq_g) : pq_F (SC g) RX6 27 6 4 .int := ⟨RX6, TX6, 5, tyX6, rfl, by decide, pq_t1 94 rfl rfl, uw_X6, tyX6_ok, nmX6, rfl⟩
set_option maxRecDepth 8000 in
theorem fl_X6_32 (g : pq_g) : pq_F (SC g) RX6 32 6 3 .int := ⟨RX6, TX6, 5, tyX6, rfl, by decide, pq_t1 91 rfl rfl, uw_X6, tyX6_ok, nmX6, rfl⟩
set_option maxRecDepth 8000 in
theorem fl_X6_43 (g : pq_g) : pq_F (SC g) RX6 43 1 3 .int := ⟨RX1, TX1, 4, tyX1, rfl, by decide, pq_t1 72 rfl rfl, uw_X1, tyX1_ok, nmX1, rfl⟩
set_option maxRecDepth 8000 in
theorem fl_X6_71 (g : pq_g) : pq_F (SC g) RX6 71 0 4 .int := ⟨RX0, TX0, 7, tyX0, rfl, by decide, pq_t1 161 rfl rfl, uw_X0, tyX0_ok, nmX0, rfl⟩
set_option maxRecDepth 8000 in
theorem fl_X6_74 (g : pq_g) : pq_F (SC g) RX6 74 0 0 (.array .int) := ⟨RX0, TX0, 7, tyX0, rfl, by decide, pq_t1 152 rfl rfl, uw_X0, tyX0_ok, nmX0, rfl⟩
set_option maxRecDepth 8000 in
theorem fl_X6_78 (g : pq_g) : pq_F (SC g) RX6 78 0 2 (.array .int) := ⟨RX0, TX0, 7, tyX0, rfl, by decide, pq_t1 156 rfl rfl, uw_X0, tyX0_ok, nmX0, rfl⟩
set_option maxRecDepth 8000 in
theorem fl_X6_81 (g : pq_g) : pq_F (SC g) RX6 81 0 3 (.array .int) := ⟨RX0, TX0, 7, tyX0, rfl, by decide, pq_t1 158 rfl rfl, uw_X0, tyX0_ok, nmX0, rfl⟩
set_option maxRecDepth 8000 in
theorem fl_X6_88 (g : pq_g) : pq_F (SC g) RX6 88 0 1 (.array .int) := ⟨RX0, TX0, 7, tyX0, rfl, by decide, pq_t1 154 rfl rfl, uw_X0, tyX0_ok, nmX0, rfl⟩
set_option maxRecDepth 8000 in
theorem fl_X6_117 (g : pq_g) : pq_F (SC g) RX6 117 9 1 .int := ⟨RX9, TX9, 2, tyX9, rfl, by decide, pq_t1 44 rfl rfl, uw_X9, tyX9_ok, nmX9, rfl⟩
set_option maxRecDepth 8000 in
theorem fl_X6_118 (g : pq_g) : pq_F (SC g) RX6 118 9 0 (.array .long) := ⟨RX9, TX9, 2, tyX9, rfl, by decide, pq_t1 42 rfl rfl, uw_X9, tyX9_ok, nmX9, rfl⟩
set_option maxRecDepth 8000 in
theorem fl_X6_155 (g : pq_g) : pq_F (SC g) RX6 155 1 0 (.array .int) := ⟨RX1, TX1, 4, tyX1, rfl, by decide, pq_t1 60 rfl rfl, uw_X1, tyX1_ok, nmX1, rfl⟩
set_option maxRecDepth 8000 in
theorem fl_X7_9 (g : pq_g) : pq_F (SC g) RX7 9 7 0 .int := ⟨RX7, TX7, 3, tyX7, rfl, by decide, pq_t1 185 rfl rfl, uw_X7, tyX7_ok, nmX7, rfl⟩
set_option maxRecDepth 8000 in
theorem fl_X7_15 (g : pq_g) : pq_F (SC g) RX7 15 7 1 .int := ⟨RX7, TX7, 3, tyX7, rfl, by decide, pq_t1 187 rfl rfl, uw_X7, tyX7_ok, nmX7, rfl⟩
set_option maxRecDepth 8000 in
theorem fl_X7_18 (g : pq_g) : pq_F (SC g) RX7 18 7 2 .int := ⟨RX7, TX7, 3, tyX7, rfl, by decide, pq_t1 189 rfl rfl, uw_X7, tyX7_ok, nmX7, rfl⟩
set_option maxRecDepth 8000 in
theorem fl_X7_21 (g : pq_g) : pq_F (SC g) RX7 21 1 3 .int := ⟨RX1, TX1, 4, tyX1, rfl, by decide, pq_t1 69 rfl rfl, uw_X1, tyX1_ok, nmX1, rfl⟩
set_option maxRecDepth 8000 in
theorem fl_X8_9 (g : pq_g) : pq_F (SC g) RX8 9 8 1 (.array .int) := ⟨RX8, TX8, 6, tyX8, rfl, by decide, pq_t1 226 rfl rfl, uw_X8, tyX8_ok, nmX8, rfl⟩
set_option maxRecDepth 8000 in
theorem fl_X8_15 (g : pq_g) : pq_F (SC g) RX8 15 8 2 (.array .int) := ⟨RX8, TX8, 6, tyX8, rfl, by decide, pq_t1 227 rfl rfl, uw_X8, tyX8_ok, nmX8, rfl⟩
set_option maxRecDepth 8000 in
theorem fl_X8_18 (g : pq_g) : pq_F (SC g) RX8 18 8 3 (.array .int) := ⟨RX8, TX8, 6, tyX8, rfl, by decide, pq_t1 228 rfl rfl, uw_X8, tyX8_ok, nmX8, rfl⟩
set_option maxRecDepth 8000 in
theorem fl_X8_21 (g : pq_g) : pq_F (SC g) RX8 21 8 4 (.array .int) := ⟨RX8, TX8, 6, tyX8, rfl, by decide, pq_t1 229 rfl rfl, uw_X8, tyX8_ok, nmX8, rfl⟩
set_option maxRecDepth 8000 in
theorem fl_X8_24 (g : pq_g) : pq_F (SC g) RX8 24 8 5 .int := ⟨RX8, TX8, 6, tyX8, rfl, by decide, pq_t1 230 rfl rfl, uw_X8, tyX8_ok, nmX8, rfl⟩
set_option maxRecDepth 8000 in
theorem fl_X8_28 (g : pq_g) : pq_F (SC g) RX8 28 8 0 .int := ⟨RX8, TX8, 6, tyX8, rfl, by decide, pq_t1 224 rfl rfl, uw_X8, tyX8_ok, nmX8, rfl⟩
set_option maxRecDepth 8000 in
theorem fl_X8_43 (g : pq_g) : pq_F (SC g) RX8 43 6 0 (.array (.object "FormsAboveNought$Form")) := ⟨RX6, TX6, 5, tyX6, rfl, by decide, pq_t1 87 rfl rfl, uw_X6, tyX6_ok, nmX6, rfl⟩
set_option maxRecDepth 8000 in
theorem fl_X8_47 (g : pq_g) : pq_F (SC g) RX8 47 1 1 .int := ⟨RX1, TX1, 4, tyX1, rfl, by decide, pq_t1 62 rfl rfl, uw_X1, tyX1_ok, nmX1, rfl⟩
set_option maxRecDepth 8000 in
theorem fl_X8_52 (g : pq_g) : pq_F (SC g) RX8 52 1 2 .int := ⟨RX1, TX1, 4, tyX1, rfl, by decide, pq_t1 65 rfl rfl, uw_X1, tyX1_ok, nmX1, rfl⟩
set_option maxRecDepth 8000 in
theorem fl_X8_55 (g : pq_g) : pq_F (SC g) RX8 55 1 0 (.array .int) := ⟨RX1, TX1, 4, tyX1, rfl, by decide, pq_t1 58 rfl rfl, uw_X1, tyX1_ok, nmX1, rfl⟩
set_option maxRecDepth 8000 in
theorem fl_X9_9 (g : pq_g) : pq_F (SC g) RX9 9 9 0 (.array .long) := ⟨RX9, TX9, 2, tyX9, rfl, by decide, pq_t1 41 rfl rfl, uw_X9, tyX9_ok, nmX9, rfl⟩
set_option maxRecDepth 8000 in
theorem fl_X9_15 (g : pq_g) : pq_F (SC g) RX9 15 9 1 .int := ⟨RX9, TX9, 2, tyX9, rfl, by decide, pq_t1 43 rfl rfl, uw_X9, tyX9_ok, nmX9, rfl⟩
set_option maxRecDepth 8000 in
theorem fl_X9_23 (g : pq_g) : pq_F (SC g) RX9 23 1 3 .int := ⟨RX1, TX1, 4, tyX1, rfl, by decide, pq_t1 71 rfl rfl, uw_X1, tyX1_ok, nmX1, rfl⟩
set_option maxRecDepth 8000 in
theorem fl_X11_1 (g : pq_g) : pq_F (SM g) RX11 1 11 0 (.array .int) := ⟨RX11, TX11, 44, tyX11, rfl, by decide, pq_t4 200 rfl rfl, uw_X11, tyX11_ok, nmX11, rfl⟩
set_option maxRecDepth 8000 in
theorem fl_X11_27 (g : pq_g) : pq_F (SM g) RX11 27 11 1 (.array .int) := ⟨RX11, TX11, 44, tyX11, rfl, by decide, pq_t4 201 rfl rfl, uw_X11, tyX11_ok, nmX11, rfl⟩
set_option maxRecDepth 8000 in
theorem fl_X11_30 (g : pq_g) : pq_F (SM g) RX11 30 11 2 (.array .int) := ⟨RX11, TX11, 44, tyX11, rfl, by decide, pq_t4 202 rfl rfl, uw_X11, tyX11_ok, nmX11, rfl⟩
set_option maxRecDepth 8000 in
theorem fl_X11_33 (g : pq_g) : pq_F (SM g) RX11 33 11 3 (.array .int) := ⟨RX11, TX11, 44, tyX11, rfl, by decide, pq_t4 203 rfl rfl, uw_X11, tyX11_ok, nmX11, rfl⟩
set_option maxRecDepth 8000 in
theorem fl_X11_36 (g : pq_g) : pq_F (SM g) RX11 36 11 4 (.array .int) := ⟨RX11, TX11, 44, tyX11, rfl, by decide, pq_t4 204 rfl rfl, uw_X11, tyX11_ok, nmX11, rfl⟩
set_option maxRecDepth 8000 in
theorem fl_X11_39 (g : pq_g) : pq_F (SM g) RX11 39 11 6 (.array .int) := ⟨RX11, TX11, 44, tyX11, rfl, by decide, pq_t4 206 rfl rfl, uw_X11, tyX11_ok, nmX11, rfl⟩
set_option maxRecDepth 8000 in
theorem fl_X11_42 (g : pq_g) : pq_F (SM g) RX11 42 11 7 (.array .int) := ⟨RX11, TX11, 44, tyX11, rfl, by decide, pq_t4 207 rfl rfl, uw_X11, tyX11_ok, nmX11, rfl⟩
set_option maxRecDepth 8000 in
theorem fl_X11_45 (g : pq_g) : pq_F (SM g) RX11 45 11 9 (.array .long) := ⟨RX11, TX11, 44, tyX11, rfl, by decide, pq_t4 209 rfl rfl, uw_X11, tyX11_ok, nmX11, rfl⟩
set_option maxRecDepth 8000 in
theorem fl_X11_49 (g : pq_g) : pq_F (SM g) RX11 49 11 10 (.array .int) := ⟨RX11, TX11, 44, tyX11, rfl, by decide, pq_t4 210 rfl rfl, uw_X11, tyX11_ok, nmX11, rfl⟩
set_option maxRecDepth 8000 in
theorem fl_X11_52 (g : pq_g) : pq_F (SM g) RX11 52 11 13 (.array .int) := ⟨RX11, TX11, 44, tyX11, rfl, by decide, pq_t4 213 rfl rfl, uw_X11, tyX11_ok, nmX11, rfl⟩
set_option maxRecDepth 8000 in
theorem fl_X11_55 (g : pq_g) : pq_F (SM g) RX11 55 11 14 (.array .int) := ⟨RX11, TX11, 44, tyX11, rfl, by decide, pq_t4 214 rfl rfl, uw_X11, tyX11_ok, nmX11, rfl⟩
set_option maxRecDepth 8000 in
theorem fl_X11_58 (g : pq_g) : pq_F (SM g) RX11 58 11 15 (.array .int) := ⟨RX11, TX11, 44, tyX11, rfl, by decide, pq_t4 215 rfl rfl, uw_X11, tyX11_ok, nmX11, rfl⟩
set_option maxRecDepth 8000 in
theorem fl_X11_61 (g : pq_g) : pq_F (SM g) RX11 61 11 16 (.array .int) := ⟨RX11, TX11, 44, tyX11, rfl, by decide, pq_t4 216 rfl rfl, uw_X11, tyX11_ok, nmX11, rfl⟩
set_option maxRecDepth 8000 in
theorem fl_X11_64 (g : pq_g) : pq_F (SM g) RX11 64 11 17 (.array .int) := ⟨RX11, TX11, 44, tyX11, rfl, by decide, pq_t4 217 rfl rfl, uw_X11, tyX11_ok, nmX11, rfl⟩
set_option maxRecDepth 8000 in
theorem fl_X11_67 (g : pq_g) : pq_F (SM g) RX11 67 11 19 (.array .long) := ⟨RX11, TX11, 44, tyX11, rfl, by decide, pq_t4 219 rfl rfl, uw_X11, tyX11_ok, nmX11, rfl⟩
set_option maxRecDepth 8000 in
theorem fl_X11_70 (g : pq_g) : pq_F (SM g) RX11 70 11 20 (.array .long) := ⟨RX11, TX11, 44, tyX11, rfl, by decide, pq_t4 220 rfl rfl, uw_X11, tyX11_ok, nmX11, rfl⟩
set_option maxRecDepth 8000 in
theorem fl_X11_73 (g : pq_g) : pq_F (SM g) RX11 73 11 29 (.array .int) := ⟨RX11, TX11, 44, tyX11, rfl, by decide, pq_t4 229 rfl rfl, uw_X11, tyX11_ok, nmX11, rfl⟩
set_option maxRecDepth 8000 in
theorem fl_X11_76 (g : pq_g) : pq_F (SM g) RX11 76 11 30 (.array .int) := ⟨RX11, TX11, 44, tyX11, rfl, by decide, pq_t4 230 rfl rfl, uw_X11, tyX11_ok, nmX11, rfl⟩
set_option maxRecDepth 8000 in
theorem fl_X11_79 (g : pq_g) : pq_F (SM g) RX11 79 11 35 (.array .int) := ⟨RX11, TX11, 44, tyX11, rfl, by decide, pq_t4 235 rfl rfl, uw_X11, tyX11_ok, nmX11, rfl⟩
set_option maxRecDepth 8000 in
theorem fl_X11_82 (g : pq_g) : pq_F (SM g) RX11 82 11 38 (.array .int) := ⟨RX11, TX11, 44, tyX11, rfl, by decide, pq_t4 238 rfl rfl, uw_X11, tyX11_ok, nmX11, rfl⟩
set_option maxRecDepth 8000 in
theorem fl_X11_85 (g : pq_g) : pq_F (SM g) RX11 85 11 39 (.array .int) := ⟨RX11, TX11, 44, tyX11, rfl, by decide, pq_t4 239 rfl rfl, uw_X11, tyX11_ok, nmX11, rfl⟩
set_option maxRecDepth 8000 in
theorem fl_X11_88 (g : pq_g) : pq_F (SM g) RX11 88 11 40 (.array .int) := ⟨RX11, TX11, 44, tyX11, rfl, by decide, pq_t5 0 rfl rfl, uw_X11, tyX11_ok, nmX11, rfl⟩
set_option maxRecDepth 8000 in
theorem fl_X11_91 (g : pq_g) : pq_F (SM g) RX11 91 11 42 .int := ⟨RX11, TX11, 44, tyX11, rfl, by decide, pq_t5 2 rfl rfl, uw_X11, tyX11_ok, nmX11, rfl⟩
set_option maxRecDepth 8000 in
theorem fl_X11_95 (g : pq_g) : pq_F (SM g) RX11 95 11 5 .int := ⟨RX11, TX11, 44, tyX11, rfl, by decide, pq_t4 205 rfl rfl, uw_X11, tyX11_ok, nmX11, rfl⟩
set_option maxRecDepth 8000 in
theorem fl_X11_119 (g : pq_g) : pq_F (SM g) RX11 119 11 8 .int := ⟨RX11, TX11, 44, tyX11, rfl, by decide, pq_t4 208 rfl rfl, uw_X11, tyX11_ok, nmX11, rfl⟩
set_option maxRecDepth 8000 in
theorem fl_X11_169 (g : pq_g) : pq_F (SM g) RX11 169 11 11 .int := ⟨RX11, TX11, 44, tyX11, rfl, by decide, pq_t4 211 rfl rfl, uw_X11, tyX11_ok, nmX11, rfl⟩
set_option maxRecDepth 8000 in
theorem fl_X11_172 (g : pq_g) : pq_F (SM g) RX11 172 11 12 .int := ⟨RX11, TX11, 44, tyX11, rfl, by decide, pq_t4 212 rfl rfl, uw_X11, tyX11_ok, nmX11, rfl⟩
set_option maxRecDepth 8000 in
theorem fl_X11_203 (g : pq_g) : pq_F (SM g) RX11 203 11 18 .int := ⟨RX11, TX11, 44, tyX11, rfl, by decide, pq_t4 218 rfl rfl, uw_X11, tyX11_ok, nmX11, rfl⟩
set_option maxRecDepth 8000 in
theorem fl_X11_239 (g : pq_g) : pq_F (SM g) RX11 239 11 21 .int := ⟨RX11, TX11, 44, tyX11, rfl, by decide, pq_t4 221 rfl rfl, uw_X11, tyX11_ok, nmX11, rfl⟩
set_option maxRecDepth 8000 in
theorem fl_X11_258 (g : pq_g) : pq_F (SM g) RX11 258 11 22 .int := ⟨RX11, TX11, 44, tyX11, rfl, by decide, pq_t4 222 rfl rfl, uw_X11, tyX11_ok, nmX11, rfl⟩
set_option maxRecDepth 8000 in
theorem fl_X11_261 (g : pq_g) : pq_F (SM g) RX11 261 11 23 .int := ⟨RX11, TX11, 44, tyX11, rfl, by decide, pq_t4 223 rfl rfl, uw_X11, tyX11_ok, nmX11, rfl⟩
set_option maxRecDepth 8000 in
theorem fl_X11_264 (g : pq_g) : pq_F (SM g) RX11 264 11 24 .int := ⟨RX11, TX11, 44, tyX11, rfl, by decide, pq_t4 224 rfl rfl, uw_X11, tyX11_ok, nmX11, rfl⟩
set_option maxRecDepth 8000 in
theorem fl_X11_267 (g : pq_g) : pq_F (SM g) RX11 267 11 25 .int := ⟨RX11, TX11, 44, tyX11, rfl, by decide, pq_t4 225 rfl rfl, uw_X11, tyX11_ok, nmX11, rfl⟩
set_option maxRecDepth 8000 in
theorem fl_X11_270 (g : pq_g) : pq_F (SM g) RX11 270 11 26 .int := ⟨RX11, TX11, 44, tyX11, rfl, by decide, pq_t4 226 rfl rfl, uw_X11, tyX11_ok, nmX11, rfl⟩
set_option maxRecDepth 8000 in
theorem fl_X11_279 (g : pq_g) : pq_F (SM g) RX11 279 11 28 .long := ⟨RX11, TX11, 44, tyX11, rfl, by decide, pq_t4 228 rfl rfl, uw_X11, tyX11_ok, nmX11, rfl⟩
set_option maxRecDepth 8000 in
theorem fl_X11_283 (g : pq_g) : pq_F (SM g) RX11 283 11 27 .int := ⟨RX11, TX11, 44, tyX11, rfl, by decide, pq_t4 227 rfl rfl, uw_X11, tyX11_ok, nmX11, rfl⟩
set_option maxRecDepth 8000 in
theorem fl_X11_324 (g : pq_g) : pq_F (SM g) RX11 324 11 32 .int := ⟨RX11, TX11, 44, tyX11, rfl, by decide, pq_t4 232 rfl rfl, uw_X11, tyX11_ok, nmX11, rfl⟩
set_option maxRecDepth 8000 in
theorem fl_X11_327 (g : pq_g) : pq_F (SM g) RX11 327 11 33 .int := ⟨RX11, TX11, 44, tyX11, rfl, by decide, pq_t4 233 rfl rfl, uw_X11, tyX11_ok, nmX11, rfl⟩
set_option maxRecDepth 8000 in
theorem fl_X11_333 (g : pq_g) : pq_F (SM g) RX11 333 11 34 .int := ⟨RX11, TX11, 44, tyX11, rfl, by decide, pq_t4 234 rfl rfl, uw_X11, tyX11_ok, nmX11, rfl⟩
set_option maxRecDepth 8000 in
theorem fl_X11_339 (g : pq_g) : pq_F (SM g) RX11 339 11 31 .int := ⟨RX11, TX11, 44, tyX11, rfl, by decide, pq_t4 231 rfl rfl, uw_X11, tyX11_ok, nmX11, rfl⟩
set_option maxRecDepth 8000 in
theorem fl_X11_367 (g : pq_g) : pq_F (SM g) RX11 367 11 36 .int := ⟨RX11, TX11, 44, tyX11, rfl, by decide, pq_t4 236 rfl rfl, uw_X11, tyX11_ok, nmX11, rfl⟩
set_option maxRecDepth 8000 in
theorem fl_X11_379 (g : pq_g) : pq_F (SM g) RX11 379 11 37 .int := ⟨RX11, TX11, 44, tyX11, rfl, by decide, pq_t4 237 rfl rfl, uw_X11, tyX11_ok, nmX11, rfl⟩
set_option maxRecDepth 8000 in
theorem fl_X11_391 (g : pq_g) : pq_F (SM g) RX11 391 11 43 .boolean := ⟨RX11, TX11, 44, tyX11, rfl, by decide, pq_t5 3 rfl rfl, uw_X11, tyX11_ok, nmX11, rfl⟩
set_option maxRecDepth 8000 in
theorem fl_X11_395 (g : pq_g) : pq_F (SM g) RX11 395 11 41 .int := ⟨RX11, TX11, 44, tyX11, rfl, by decide, pq_t5 1 rfl rfl, uw_X11, tyX11_ok, nmX11, rfl⟩
set_option maxRecDepth 8000 in
theorem fin_X0_4 (g : pq_g) : pq_fin (SC g) 0 4 := ⟨RX0, TX0, 7, rfl, rfl⟩
set_option maxRecDepth 8000 in
theorem fin_X0_5 (g : pq_g) : pq_fin (SC g) 0 5 := ⟨RX0, TX0, 7, rfl, rfl⟩
set_option maxRecDepth 8000 in
theorem fin_X0_6 (g : pq_g) : pq_fin (SC g) 0 6 := ⟨RX0, TX0, 7, rfl, rfl⟩
set_option maxRecDepth 8000 in
theorem fin_X1_1 (g : pq_g) : pq_fin (SC g) 1 1 := ⟨RX1, TX1, 4, rfl, rfl⟩
set_option maxRecDepth 8000 in
theorem fin_X1_2 (g : pq_g) : pq_fin (SC g) 1 2 := ⟨RX1, TX1, 4, rfl, rfl⟩
set_option maxRecDepth 8000 in
theorem fin_X1_3 (g : pq_g) : pq_fin (SC g) 1 3 := ⟨RX1, TX1, 4, rfl, rfl⟩
set_option maxRecDepth 8000 in
theorem fin_X2_1 (g : pq_g) : pq_fin (SC g) 2 1 := ⟨RX2, TX2, 5, rfl, rfl⟩
set_option maxRecDepth 8000 in
theorem fin_X2_2 (g : pq_g) : pq_fin (SC g) 2 2 := ⟨RX2, TX2, 5, rfl, rfl⟩
set_option maxRecDepth 8000 in
theorem fin_X2_3 (g : pq_g) : pq_fin (SC g) 2 3 := ⟨RX2, TX2, 5, rfl, rfl⟩
set_option maxRecDepth 8000 in
theorem fin_X2_4 (g : pq_g) : pq_fin (SC g) 2 4 := ⟨RX2, TX2, 5, rfl, rfl⟩
set_option maxRecDepth 8000 in
theorem fin_X3_1 (g : pq_g) : pq_fin (SC g) 3 1 := ⟨RX3, TX3, 2, rfl, rfl⟩
set_option maxRecDepth 8000 in
theorem fin_X5_2 (g : pq_g) : pq_fin (SC g) 5 2 := ⟨RX5, TX5, 4, rfl, rfl⟩
set_option maxRecDepth 8000 in
theorem fin_X5_3 (g : pq_g) : pq_fin (SC g) 5 3 := ⟨RX5, TX5, 4, rfl, rfl⟩
set_option maxRecDepth 8000 in
theorem fin_X6_3 (g : pq_g) : pq_fin (SC g) 6 3 := ⟨RX6, TX6, 5, rfl, rfl⟩
set_option maxRecDepth 8000 in
theorem fin_X6_4 (g : pq_g) : pq_fin (SC g) 6 4 := ⟨RX6, TX6, 5, rfl, rfl⟩
set_option maxRecDepth 8000 in
theorem fin_X7_0 (g : pq_g) : pq_fin (SC g) 7 0 := ⟨RX7, TX7, 3, rfl, rfl⟩
set_option maxRecDepth 8000 in
theorem fin_X7_1 (g : pq_g) : pq_fin (SC g) 7 1 := ⟨RX7, TX7, 3, rfl, rfl⟩
set_option maxRecDepth 8000 in
theorem fin_X7_2 (g : pq_g) : pq_fin (SC g) 7 2 := ⟨RX7, TX7, 3, rfl, rfl⟩
set_option maxRecDepth 8000 in
theorem fin_X8_0 (g : pq_g) : pq_fin (SC g) 8 0 := ⟨RX8, TX8, 6, rfl, rfl⟩
set_option maxRecDepth 8000 in
theorem fin_X8_5 (g : pq_g) : pq_fin (SC g) 8 5 := ⟨RX8, TX8, 6, rfl, rfl⟩
set_option maxRecDepth 8000 in
theorem fin_X9_1 (g : pq_g) : pq_fin (SC g) 9 1 := ⟨RX9, TX9, 2, rfl, rfl⟩
set_option maxRecDepth 8000 in
theorem fin_X11_5 (g : pq_g) : pq_fin (SM g) 11 5 := ⟨RX11, TX11, 44, rfl, rfl⟩
set_option maxRecDepth 8000 in
theorem fin_X11_8 (g : pq_g) : pq_fin (SM g) 11 8 := ⟨RX11, TX11, 44, rfl, rfl⟩
set_option maxRecDepth 8000 in
theorem fin_X11_11 (g : pq_g) : pq_fin (SM g) 11 11 := ⟨RX11, TX11, 44, rfl, rfl⟩
set_option maxRecDepth 8000 in
theorem fin_X11_12 (g : pq_g) : pq_fin (SM g) 11 12 := ⟨RX11, TX11, 44, rfl, rfl⟩
set_option maxRecDepth 8000 in
theorem fin_X11_18 (g : pq_g) : pq_fin (SM g) 11 18 := ⟨RX11, TX11, 44, rfl, rfl⟩
set_option maxRecDepth 8000 in
theorem fin_X11_21 (g : pq_g) : pq_fin (SM g) 11 21 := ⟨RX11, TX11, 44, rfl, rfl⟩
set_option maxRecDepth 8000 in
theorem fin_X11_22 (g : pq_g) : pq_fin (SM g) 11 22 := ⟨RX11, TX11, 44, rfl, rfl⟩
set_option maxRecDepth 8000 in
theorem fin_X11_23 (g : pq_g) : pq_fin (SM g) 11 23 := ⟨RX11, TX11, 44, rfl, rfl⟩
set_option maxRecDepth 8000 in
theorem fin_X11_24 (g : pq_g) : pq_fin (SM g) 11 24 := ⟨RX11, TX11, 44, rfl, rfl⟩
set_option maxRecDepth 8000 in
theorem fin_X11_25 (g : pq_g) : pq_fin (SM g) 11 25 := ⟨RX11, TX11, 44, rfl, rfl⟩
set_option maxRecDepth 8000 in
theorem fin_X11_26 (g : pq_g) : pq_fin (SM g) 11 26 := ⟨RX11, TX11, 44, rfl, rfl⟩
set_option maxRecDepth 8000 in
theorem fin_X11_27 (g : pq_g) : pq_fin (SM g) 11 27 := ⟨RX11, TX11, 44, rfl, rfl⟩
set_option maxRecDepth 8000 in
theorem fin_X11_28 (g : pq_g) : pq_fin (SM g) 11 28 := ⟨RX11, TX11, 44, rfl, rfl⟩
set_option maxRecDepth 8000 in
theorem fin_X11_31 (g : pq_g) : pq_fin (SM g) 11 31 := ⟨RX11, TX11, 44, rfl, rfl⟩
set_option maxRecDepth 8000 in
theorem fin_X11_32 (g : pq_g) : pq_fin (SM g) 11 32 := ⟨RX11, TX11, 44, rfl, rfl⟩
set_option maxRecDepth 8000 in
theorem fin_X11_33 (g : pq_g) : pq_fin (SM g) 11 33 := ⟨RX11, TX11, 44, rfl, rfl⟩
set_option maxRecDepth 8000 in
theorem fin_X11_34 (g : pq_g) : pq_fin (SM g) 11 34 := ⟨RX11, TX11, 44, rfl, rfl⟩
set_option maxRecDepth 8000 in
theorem fin_X11_36 (g : pq_g) : pq_fin (SM g) 11 36 := ⟨RX11, TX11, 44, rfl, rfl⟩
set_option maxRecDepth 8000 in
theorem fin_X11_37 (g : pq_g) : pq_fin (SM g) 11 37 := ⟨RX11, TX11, 44, rfl, rfl⟩
set_option maxRecDepth 8000 in
theorem fin_X11_41 (g : pq_g) : pq_fin (SM g) 11 41 := ⟨RX11, TX11, 44, rfl, rfl⟩
set_option maxRecDepth 8000 in
theorem fin_X11_42 (g : pq_g) : pq_fin (SM g) 11 42 := ⟨RX11, TX11, 44, rfl, rfl⟩
set_option maxRecDepth 8000 in
theorem fin_X11_43 (g : pq_g) : pq_fin (SM g) 11 43 := ⟨RX11, TX11, 44, rfl, rfl⟩
set_option maxRecDepth 8000 in
theorem lv_X10_69 : Cond.methodLink RX10 69 yX10_refuse ∈ pq_G ∧ Cond.instanceMethod yX10_refuse ∈ pq_G ∧ Cond.selects yX10_refuse.cls yX10_refuse yX10_refuse ∈ pq_G := ⟨pq_t2 53 rfl rfl, pq_t2 55 rfl rfl, pq_t0 0 rfl rfl⟩
set_option maxRecDepth 8000 in
theorem lv_X10_77 : Cond.methodLink RX10 77 yX3_add ∈ pq_G ∧ Cond.instanceMethod yX3_add ∈ pq_G ∧ Cond.selects yX3_add.cls yX3_add yX3_add ∈ pq_G := ⟨pq_t2 57 rfl rfl, pq_t2 58 rfl rfl, pq_t2 59 rfl rfl⟩
set_option maxRecDepth 8000 in
theorem lv_X10_81 : Cond.methodLink RX10 81 yX6_isFull ∈ pq_G ∧ Cond.instanceMethod yX6_isFull ∈ pq_G ∧ Cond.selects yX6_isFull.cls yX6_isFull yX6_isFull ∈ pq_G := ⟨pq_t2 65 rfl rfl, pq_t2 66 rfl rfl, pq_t2 67 rfl rfl⟩
set_option maxRecDepth 8000 in
theorem lv_X10_90 : Cond.methodLink RX10 90 yX2_read ∈ pq_G ∧ Cond.instanceMethod yX2_read ∈ pq_G ∧ Cond.selects yX2_read.cls yX2_read yX2_read ∈ pq_G := ⟨pq_t2 69 rfl rfl, pq_t2 70 rfl rfl, pq_t2 71 rfl rfl⟩
set_option maxRecDepth 8000 in
theorem lv_X10_94 : Cond.methodLink RX10 94 yX10_cameOr ∈ pq_G ∧ Cond.instanceMethod yX10_cameOr ∈ pq_G ∧ Cond.selects yX10_cameOr.cls yX10_cameOr yX10_cameOr ∈ pq_G := ⟨pq_t2 108 rfl rfl, pq_t2 110 rfl rfl, pq_t0 5 rfl rfl⟩
set_option maxRecDepth 8000 in
theorem lv_X10_98 : Cond.methodLink RX10 98 yX0_read ∈ pq_G ∧ Cond.instanceMethod yX0_read ∈ pq_G ∧ Cond.selects yX0_read.cls yX0_read yX0_read ∈ pq_G := ⟨pq_t2 116 rfl rfl, pq_t2 117 rfl rfl, pq_t2 118 rfl rfl⟩
set_option maxRecDepth 8000 in
theorem lv_X10_101 : Cond.methodLink RX10 101 yX6_perform ∈ pq_G ∧ Cond.instanceMethod yX6_perform ∈ pq_G ∧ Cond.selects yX6_perform.cls yX6_perform yX6_perform ∈ pq_G := ⟨pq_t2 199 rfl rfl, pq_t2 200 rfl rfl, pq_t2 201 rfl rfl⟩
set_option maxRecDepth 8000 in
theorem lv_X10_107 : Cond.methodLink RX10 107 yX6_lacks ∈ pq_G ∧ Cond.instanceMethod yX6_lacks ∈ pq_G ∧ Cond.selects yX6_lacks.cls yX6_lacks yX6_lacks ∈ pq_G := ⟨pq_t3 56 rfl rfl, pq_t2 208 rfl rfl, pq_t2 209 rfl rfl⟩
set_option maxRecDepth 8000 in
theorem lv_X10_111 : Cond.methodLink RX10 111 yX10_lacksTerm ∈ pq_G ∧ Cond.instanceMethod yX10_lacksTerm ∈ pq_G ∧ Cond.selects yX10_lacksTerm.cls yX10_lacksTerm yX10_lacksTerm ∈ pq_G := ⟨pq_t3 57 rfl rfl, pq_t3 59 rfl rfl, pq_t0 13 rfl rfl⟩
set_option maxRecDepth 8000 in
theorem lv_X10_115 : Cond.methodLink RX10 115 yX10_refuseFarInt ∈ pq_G ∧ Cond.instanceMethod yX10_refuseFarInt ∈ pq_G ∧ Cond.selects yX10_refuseFarInt.cls yX10_refuseFarInt yX10_refuseFarInt ∈ pq_G := ⟨pq_t3 63 rfl rfl, pq_t3 65 rfl rfl, pq_t0 14 rfl rfl⟩
set_option maxRecDepth 8000 in
theorem lv_X10_125 : Cond.methodLink RX10 125 yX8_add ∈ pq_G ∧ Cond.instanceMethod yX8_add ∈ pq_G ∧ Cond.selects yX8_add.cls yX8_add yX8_add ∈ pq_G := ⟨pq_t3 70 rfl rfl, pq_t3 71 rfl rfl, pq_t3 72 rfl rfl⟩
set_option maxRecDepth 8000 in
theorem lv_X10_128 : Cond.methodLink RX10 128 yX10_notBelow ∈ pq_G ∧ Cond.static yX10_notBelow ∈ pq_G := ⟨pq_t3 62 rfl rfl, pq_t2 82 rfl rfl⟩
set_option maxRecDepth 8000 in
theorem lv_X10_140 : Cond.methodLink RX10 140 yX10_termsOf ∈ pq_G ∧ Cond.static yX10_termsOf ∈ pq_G := ⟨pq_t3 61 rfl rfl, pq_t2 230 rfl rfl⟩
set_option maxRecDepth 8000 in
theorem lv_X10_143 : Cond.methodLink RX10 143 yX1_howMany ∈ pq_G ∧ Cond.instanceMethod yX1_howMany ∈ pq_G ∧ Cond.selects yX1_howMany.cls yX1_howMany yX1_howMany ∈ pq_G := ⟨pq_t3 85 rfl rfl, pq_t3 86 rfl rfl, pq_t3 87 rfl rfl⟩
set_option maxRecDepth 8000 in
theorem lv_X10_146 : Cond.methodLink RX10 146 yX10_isUnder ∈ pq_G ∧ Cond.static yX10_isUnder ∈ pq_G := ⟨pq_t3 95 rfl rfl, pq_t3 96 rfl rfl⟩
set_option maxRecDepth 8000 in
theorem lv_X10_149 : Cond.methodLink RX10 149 yX1_at ∈ pq_G ∧ Cond.instanceMethod yX1_at ∈ pq_G ∧ Cond.selects yX1_at.cls yX1_at yX1_at ∈ pq_G := ⟨pq_t3 104 rfl rfl, pq_t2 233 rfl rfl, pq_t2 234 rfl rfl⟩
set_option maxRecDepth 8000 in
theorem lv_X10_152 : Cond.methodLink RX10 152 yX10_refuseFar ∈ pq_G ∧ Cond.instanceMethod yX10_refuseFar ∈ pq_G ∧ Cond.selects yX10_refuseFar.cls yX10_refuseFar yX10_refuseFar ∈ pq_G := ⟨pq_t3 109 rfl rfl, pq_t3 111 rfl rfl, pq_t0 15 rfl rfl⟩
set_option maxRecDepth 8000 in
theorem lv_X10_156 : Cond.methodLink RX10 156 yX10_workOn ∈ pq_G ∧ Cond.instanceMethod yX10_workOn ∈ pq_G ∧ Cond.selects yX10_workOn.cls yX10_workOn yX10_workOn ∈ pq_G := ⟨pq_t3 114 rfl rfl, pq_t3 116 rfl rfl, pq_t0 16 rfl rfl⟩
set_option maxRecDepth 8000 in
theorem lv_X10_160 : Cond.methodLink RX10 160 yX9_worth ∈ pq_G ∧ Cond.instanceMethod yX9_worth ∈ pq_G ∧ Cond.selects yX9_worth.cls yX9_worth yX9_worth ∈ pq_G := ⟨pq_t3 119 rfl rfl, pq_t3 120 rfl rfl, pq_t3 121 rfl rfl⟩
set_option maxRecDepth 8000 in
theorem lv_X10_166 : Cond.methodLink RX10 166 yX10_isSide ∈ pq_G ∧ Cond.static yX10_isSide ∈ pq_G := ⟨pq_t3 127 rfl rfl, pq_t3 41 rfl rfl⟩
set_option maxRecDepth 8000 in
theorem lv_X10_169 : Cond.methodLink RX10 169 yX10_placesOn ∈ pq_G ∧ Cond.static yX10_placesOn ∈ pq_G := ⟨pq_t3 128 rfl rfl, pq_t3 129 rfl rfl⟩
set_option maxRecDepth 8000 in
theorem lv_X10_173 : Cond.methodLink RX10 173 yX9_raise ∈ pq_G ∧ Cond.instanceMethod yX9_raise ∈ pq_G ∧ Cond.selects yX9_raise.cls yX9_raise yX9_raise ∈ pq_G := ⟨pq_t3 137 rfl rfl, pq_t3 29 rfl rfl, pq_t3 30 rfl rfl⟩
set_option maxRecDepth 8000 in
theorem lv_X10_177 : Cond.methodLink RX10 177 yX9_among ∈ pq_G ∧ Cond.instanceMethod yX9_among ∈ pq_G ∧ Cond.selects yX9_among.cls yX9_among yX9_among ∈ pq_G := ⟨pq_t3 138 rfl rfl, pq_t3 139 rfl rfl, pq_t3 140 rfl rfl⟩
set_option maxRecDepth 8000 in
theorem lv_X10_181 : Cond.methodLink RX10 181 yX9_firstFault ∈ pq_G ∧ Cond.instanceMethod yX9_firstFault ∈ pq_G ∧ Cond.selects yX9_firstFault.cls yX9_firstFault yX9_firstFault ∈ pq_G := ⟨pq_t3 149 rfl rfl, pq_t3 150 rfl rfl, pq_t3 151 rfl rfl⟩
set_option maxRecDepth 8000 in
theorem lv_X10_184 : Cond.methodLink RX10 184 yX9_leastLift ∈ pq_G ∧ Cond.instanceMethod yX9_leastLift ∈ pq_G ∧ Cond.selects yX9_leastLift.cls yX9_leastLift yX9_leastLift ∈ pq_G := ⟨pq_t3 162 rfl rfl, pq_t3 163 rfl rfl, pq_t3 164 rfl rfl⟩
set_option maxRecDepth 8000 in
theorem lv_X10_187 : Cond.methodLink RX10 187 yX9_failingSize ∈ pq_G ∧ Cond.instanceMethod yX9_failingSize ∈ pq_G ∧ Cond.selects yX9_failingSize.cls yX9_failingSize yX9_failingSize ∈ pq_G := ⟨pq_t3 171 rfl rfl, pq_t3 172 rfl rfl, pq_t3 173 rfl rfl⟩
set_option maxRecDepth 8000 in
theorem lv_X10_190 : Cond.methodLink RX10 190 yX9_failingPoint ∈ pq_G ∧ Cond.instanceMethod yX9_failingPoint ∈ pq_G ∧ Cond.selects yX9_failingPoint.cls yX9_failingPoint yX9_failingPoint ∈ pq_G := ⟨pq_t3 185 rfl rfl, pq_t3 176 rfl rfl, pq_t3 177 rfl rfl⟩
set_option maxRecDepth 8000 in
theorem lv_X10_194 : Cond.methodLink RX10 194 yX10_pointsRefused ∈ pq_G ∧ Cond.instanceMethod yX10_pointsRefused ∈ pq_G ∧ Cond.selects yX10_pointsRefused.cls yX10_pointsRefused yX10_pointsRefused ∈ pq_G := ⟨pq_t3 190 rfl rfl, pq_t3 192 rfl rfl, pq_t0 17 rfl rfl⟩
set_option maxRecDepth 8000 in
theorem lv_X10_198 : Cond.methodLink RX10 198 yX9_lowestPoint ∈ pq_G ∧ Cond.instanceMethod yX9_lowestPoint ∈ pq_G ∧ Cond.selects yX9_lowestPoint.cls yX9_lowestPoint yX9_lowestPoint ∈ pq_G := ⟨pq_t3 194 rfl rfl, pq_t3 195 rfl rfl, pq_t3 196 rfl rfl⟩
set_option maxRecDepth 8000 in
theorem lv_X10_201 : Cond.methodLink RX10 201 yX9_worthAt ∈ pq_G ∧ Cond.instanceMethod yX9_worthAt ∈ pq_G ∧ Cond.selects yX9_worthAt.cls yX9_worthAt yX9_worthAt ∈ pq_G := ⟨pq_t3 198 rfl rfl, pq_t3 180 rfl rfl, pq_t3 181 rfl rfl⟩
set_option maxRecDepth 8000 in
theorem lv_X10_204 : Cond.methodLink RX10 204 yX9_pointsAbove ∈ pq_G ∧ Cond.instanceMethod yX9_pointsAbove ∈ pq_G ∧ Cond.selects yX9_pointsAbove.cls yX9_pointsAbove yX9_pointsAbove ∈ pq_G := ⟨pq_t3 203 rfl rfl, pq_t3 204 rfl rfl, pq_t3 205 rfl rfl⟩
set_option maxRecDepth 8000 in
theorem lv_X10_207 : Cond.methodLink RX10 207 yX10_partOf ∈ pq_G ∧ Cond.static yX10_partOf ∈ pq_G := ⟨pq_t3 207 rfl rfl, pq_t3 208 rfl rfl⟩
set_option maxRecDepth 8000 in
theorem lv_X10_211 : Cond.methodLink RX10 211 yX4_misses ∈ pq_G ∧ Cond.instanceMethod yX4_misses ∈ pq_G ∧ Cond.selects yX4_misses.cls yX4_misses yX4_misses ∈ pq_G := ⟨pq_t3 224 rfl rfl, pq_t3 225 rfl rfl, pq_t3 226 rfl rfl⟩
set_option maxRecDepth 8000 in
theorem lv_X10_214 : Cond.methodLink RX10 214 yX4_isPolynomial ∈ pq_G ∧ Cond.instanceMethod yX4_isPolynomial ∈ pq_G ∧ Cond.selects yX4_isPolynomial.cls yX4_isPolynomial yX4_isPolynomial ∈ pq_G := ⟨pq_t3 228 rfl rfl, pq_t3 229 rfl rfl, pq_t3 230 rfl rfl⟩
set_option maxRecDepth 8000 in
theorem lv_X10_219 : Cond.methodLink RX10 219 yX4_wall ∈ pq_G ∧ Cond.instanceMethod yX4_wall ∈ pq_G ∧ Cond.selects yX4_wall.cls yX4_wall yX4_wall ∈ pq_G := ⟨pq_t3 234 rfl rfl, pq_t3 235 rfl rfl, pq_t3 236 rfl rfl⟩
set_option maxRecDepth 8000 in
theorem lv_X10_227 : Cond.methodLink RX10 227 yX4_wallsClear ∈ pq_G ∧ Cond.instanceMethod yX4_wallsClear ∈ pq_G ∧ Cond.selects yX4_wallsClear.cls yX4_wallsClear yX4_wallsClear ∈ pq_G := ⟨pq_t4 8 rfl rfl, pq_t4 9 rfl rfl, pq_t4 10 rfl rfl⟩
set_option maxRecDepth 8000 in
theorem lv_X10_231 : Cond.methodLink RX10 231 yX6_lacksOf ∈ pq_G ∧ Cond.instanceMethod yX6_lacksOf ∈ pq_G ∧ Cond.selects yX6_lacksOf.cls yX6_lacksOf yX6_lacksOf ∈ pq_G := ⟨pq_t4 18 rfl rfl, pq_t4 19 rfl rfl, pq_t4 20 rfl rfl⟩
set_option maxRecDepth 8000 in
theorem lv_X10_234 : Cond.methodLink RX10 234 yX6_canMake ∈ pq_G ∧ Cond.instanceMethod yX6_canMake ∈ pq_G ∧ Cond.selects yX6_canMake.cls yX6_canMake yX6_canMake ∈ pq_G := ⟨pq_t4 22 rfl rfl, pq_t4 23 rfl rfl, pq_t4 24 rfl rfl⟩
set_option maxRecDepth 8000 in
theorem lv_X10_237 : Cond.methodLink RX10 237 yX5_makes ∈ pq_G ∧ Cond.instanceMethod yX5_makes ∈ pq_G ∧ Cond.selects yX5_makes.cls yX5_makes yX5_makes ∈ pq_G := ⟨pq_t4 33 rfl rfl, pq_t4 34 rfl rfl, pq_t4 35 rfl rfl⟩
set_option maxRecDepth 8000 in
theorem lv_X10_241 : Cond.methodLink RX10 241 yX5_fraction ∈ pq_G ∧ Cond.instanceMethod yX5_fraction ∈ pq_G ∧ Cond.selects yX5_fraction.cls yX5_fraction yX5_fraction ∈ pq_G := ⟨pq_t4 55 rfl rfl, pq_t4 56 rfl rfl, pq_t4 57 rfl rfl⟩
set_option maxRecDepth 8000 in
theorem lv_X10_244 : Cond.methodLink RX10 244 yX6_bringSum ∈ pq_G ∧ Cond.instanceMethod yX6_bringSum ∈ pq_G ∧ Cond.selects yX6_bringSum.cls yX6_bringSum yX6_bringSum ∈ pq_G := ⟨pq_t4 65 rfl rfl, pq_t2 213 rfl rfl, pq_t2 214 rfl rfl⟩
set_option maxRecDepth 8000 in
theorem lv_X10_247 : Cond.methodLink RX10 247 yX6_bringProduct ∈ pq_G ∧ Cond.instanceMethod yX6_bringProduct ∈ pq_G ∧ Cond.selects yX6_bringProduct.cls yX6_bringProduct yX6_bringProduct ∈ pq_G := ⟨pq_t4 70 rfl rfl, pq_t3 10 rfl rfl, pq_t3 11 rfl rfl⟩
set_option maxRecDepth 8000 in
theorem lv_X10_250 : Cond.methodLink RX10 250 yX6_bringLift ∈ pq_G ∧ Cond.instanceMethod yX6_bringLift ∈ pq_G ∧ Cond.selects yX6_bringLift.cls yX6_bringLift yX6_bringLift ∈ pq_G := ⟨pq_t4 75 rfl rfl, pq_t3 25 rfl rfl, pq_t3 26 rfl rfl⟩
set_option maxRecDepth 8000 in
theorem lv_X10_253 : Cond.methodLink RX10 253 yX6_bringNegative ∈ pq_G ∧ Cond.instanceMethod yX6_bringNegative ∈ pq_G ∧ Cond.selects yX6_bringNegative.cls yX6_bringNegative yX6_bringNegative ∈ pq_G := ⟨pq_t4 80 rfl rfl, pq_t3 37 rfl rfl, pq_t3 38 rfl rfl⟩
set_option maxRecDepth 8000 in
theorem lv_X10_256 : Cond.methodLink RX10 256 yX6_bringOn ∈ pq_G ∧ Cond.instanceMethod yX6_bringOn ∈ pq_G ∧ Cond.selects yX6_bringOn.cls yX6_bringOn yX6_bringOn ∈ pq_G := ⟨pq_t4 85 rfl rfl, pq_t3 44 rfl rfl, pq_t3 45 rfl rfl⟩
set_option maxRecDepth 8000 in
theorem lv_X10_259 : Cond.methodLink RX10 259 yX7_spell ∈ pq_G ∧ Cond.instanceMethod yX7_spell ∈ pq_G ∧ Cond.selects yX7_spell.cls yX7_spell yX7_spell ∈ pq_G := ⟨pq_t4 90 rfl rfl, pq_t4 91 rfl rfl, pq_t4 92 rfl rfl⟩
set_option maxRecDepth 8000 in
theorem lv_X10_269 : Cond.methodLink RX10 269 yX10_drawLots ∈ pq_G ∧ Cond.static yX10_drawLots ∈ pq_G := ⟨pq_t4 116 rfl rfl, pq_t4 117 rfl rfl⟩
set_option maxRecDepth 8000 in
theorem lv_X10_273 : Cond.methodLink RX10 273 yX4_renew ∈ pq_G ∧ Cond.instanceMethod yX4_renew ∈ pq_G ∧ Cond.selects yX4_renew.cls yX4_renew yX4_renew ∈ pq_G := ⟨pq_t4 132 rfl rfl, pq_t4 133 rfl rfl, pq_t4 134 rfl rfl⟩
set_option maxRecDepth 8000 in
theorem lv_X10_280 : Cond.methodLink RX10 280 yX8_takeBack ∈ pq_G ∧ Cond.instanceMethod yX8_takeBack ∈ pq_G ∧ Cond.selects yX8_takeBack.cls yX8_takeBack yX8_takeBack ∈ pq_G := ⟨pq_t4 156 rfl rfl, pq_t4 157 rfl rfl, pq_t4 158 rfl rfl⟩
set_option maxRecDepth 8000 in
theorem lv_X10_284 : Cond.methodLink RX10 284 yX6_keepImage ∈ pq_G ∧ Cond.instanceMethod yX6_keepImage ∈ pq_G ∧ Cond.selects yX6_keepImage.cls yX6_keepImage yX6_keepImage ∈ pq_G := ⟨pq_t4 165 rfl rfl, pq_t4 166 rfl rfl, pq_t4 167 rfl rfl⟩
set_option maxRecDepth 8000 in
theorem lv_X10_290 : Cond.methodLink RX10 290 yX6_restoreImage ∈ pq_G ∧ Cond.instanceMethod yX6_restoreImage ∈ pq_G ∧ Cond.selects yX6_restoreImage.cls yX6_restoreImage yX6_restoreImage ∈ pq_G := ⟨pq_t4 177 rfl rfl, pq_t4 178 rfl rfl, pq_t4 179 rfl rfl⟩
set_option maxRecDepth 8000 in
theorem lv_X10_293 : Cond.methodLink RX10 293 yX6_termsOfAll ∈ pq_G ∧ Cond.instanceMethod yX6_termsOfAll ∈ pq_G ∧ Cond.selects yX6_termsOfAll.cls yX6_termsOfAll yX6_termsOfAll ∈ pq_G := ⟨pq_t4 185 rfl rfl, pq_t4 186 rfl rfl, pq_t4 187 rfl rfl⟩
set_option maxRecDepth 8000 in
theorem lv_X10_297 : Cond.methodLink RX10 297 yX6_clearForms ∈ pq_G ∧ Cond.instanceMethod yX6_clearForms ∈ pq_G ∧ Cond.selects yX6_clearForms.cls yX6_clearForms yX6_clearForms ∈ pq_G := ⟨pq_t4 189 rfl rfl, pq_t4 190 rfl rfl, pq_t4 191 rfl rfl⟩
set_option maxRecDepth 8000 in
theorem lv_X10_307 : Cond.methodLink RX10 307 yX9_takeOn ∈ pq_G ∧ Cond.instanceMethod yX9_takeOn ∈ pq_G ∧ Cond.selects yX9_takeOn.cls yX9_takeOn yX9_takeOn ∈ pq_G := ⟨pq_t3 118 rfl rfl, pq_t2 217 rfl rfl, pq_t2 218 rfl rfl⟩
set_option maxRecDepth 8000 in
theorem lv_X10_310 : Cond.methodLink RX10 310 yX10_termOf ∈ pq_G ∧ Cond.static yX10_termOf ∈ pq_G := ⟨pq_t2 239 rfl rfl, pq_t2 106 rfl rfl⟩
set_option maxRecDepth 8000 in
theorem lv_X10_316 : Cond.methodLink RX10 316 yJ6_bitCount_0f7a4 ∈ pq_G ∧ Cond.static yJ6_bitCount_0f7a4 ∈ pq_G := ⟨pq_t3 131 rfl rfl, pq_t3 132 rfl rfl⟩
set_option maxRecDepth 8000 in
theorem lv_X10_325 : Cond.methodLink RX10 325 yX10_commonOf ∈ pq_G ∧ Cond.static yX10_commonOf ∈ pq_G := ⟨pq_t3 213 rfl rfl, pq_t3 214 rfl rfl⟩
set_option maxRecDepth 8000 in
theorem lv_X10_329 : Cond.methodLink RX10 329 yX10_nextSeed ∈ pq_G ∧ Cond.static yX10_nextSeed ∈ pq_G := ⟨pq_t4 119 rfl rfl, pq_t4 120 rfl rfl⟩
set_option maxRecDepth 8000 in
theorem lv_X10_332 : Cond.methodLink RX10 332 yX10_drawOf ∈ pq_G ∧ Cond.static yX10_drawOf ∈ pq_G := ⟨pq_t4 124 rfl rfl, pq_t4 125 rfl rfl⟩
set_option maxRecDepth 8000 in
theorem lv_X0_35 : Cond.methodLink RX0 35 yX0_readAct ∈ pq_G ∧ Cond.instanceMethod yX0_readAct ∈ pq_G ∧ Cond.selects yX0_readAct.cls yX0_readAct yX0_readAct ∈ pq_G := ⟨pq_t2 120 rfl rfl, pq_t2 122 rfl rfl, pq_t0 6 rfl rfl⟩
set_option maxRecDepth 8000 in
theorem lv_X0_42 : Cond.methodLink RX0 42 yX3_at ∈ pq_G ∧ Cond.instanceMethod yX3_at ∈ pq_G ∧ Cond.selects yX3_at.cls yX3_at yX3_at ∈ pq_G := ⟨pq_t2 197 rfl rfl, pq_t2 78 rfl rfl, pq_t2 79 rfl rfl⟩
set_option maxRecDepth 8000 in
theorem lv_X0_46 : Cond.methodLink RX0 46 yX0_wordAt ∈ pq_G ∧ Cond.instanceMethod yX0_wordAt ∈ pq_G ∧ Cond.selects yX0_wordAt.cls yX0_wordAt yX0_wordAt ∈ pq_G := ⟨pq_t2 124 rfl rfl, pq_t2 126 rfl rfl, pq_t0 7 rfl rfl⟩
set_option maxRecDepth 8000 in
theorem lv_X0_49 : Cond.methodLink RX0 49 yX0_textOf ∈ pq_G ∧ Cond.static yX0_textOf ∈ pq_G := ⟨pq_t2 132 rfl rfl, pq_t2 133 rfl rfl⟩
set_option maxRecDepth 8000 in
theorem lv_X0_59 : Cond.methodLink RX0 59 yX0_readNumber ∈ pq_G ∧ Cond.instanceMethod yX0_readNumber ∈ pq_G ∧ Cond.selects yX0_readNumber.cls yX0_readNumber yX0_readNumber ∈ pq_G := ⟨pq_t2 193 rfl rfl, pq_t2 195 rfl rfl, pq_t0 8 rfl rfl⟩
set_option maxRecDepth 8000 in
theorem lv_X0_62 : Cond.methodLink RX0 62 yX3_hasDigit ∈ pq_G ∧ Cond.instanceMethod yX3_hasDigit ∈ pq_G ∧ Cond.selects yX3_hasDigit.cls yX3_hasDigit yX3_hasDigit ∈ pq_G := ⟨pq_t2 198 rfl rfl, pq_t2 93 rfl rfl, pq_t2 94 rfl rfl⟩
set_option maxRecDepth 8000 in
theorem lv_X0_66 : Cond.methodLink RX0 66 yX3_hasSmall ∈ pq_G ∧ Cond.instanceMethod yX3_hasSmall ∈ pq_G ∧ Cond.selects yX3_hasSmall.cls yX3_hasSmall yX3_hasSmall ∈ pq_G := ⟨pq_t2 128 rfl rfl, pq_t2 129 rfl rfl, pq_t2 130 rfl rfl⟩
set_option maxRecDepth 8000 in
theorem lv_X0_69 : Cond.methodLink RX0 69 yX3_hasText ∈ pq_G ∧ Cond.instanceMethod yX3_hasText ∈ pq_G ∧ Cond.selects yX3_hasText.cls yX3_hasText yX3_hasText ∈ pq_G := ⟨pq_t2 150 rfl rfl, pq_t2 151 rfl rfl, pq_t2 152 rfl rfl⟩
set_option maxRecDepth 8000 in
theorem lv_X1_25 : Cond.static yX10_termOf ∈ pq_G := pq_t2 106 rfl rfl
set_option maxRecDepth 8000 in
theorem lv_X1_29 : Cond.static yX10_behindA ∈ pq_G := pq_t2 237 rfl rfl
set_option maxRecDepth 8000 in
theorem lv_X1_33 : Cond.methodLink RX1 33 yX1_has ∈ pq_G ∧ Cond.instanceMethod yX1_has ∈ pq_G ∧ Cond.selects yX1_has.cls yX1_has yX1_has ∈ pq_G := ⟨pq_t3 0 rfl rfl, pq_t2 225 rfl rfl, pq_t2 226 rfl rfl⟩
set_option maxRecDepth 8000 in
theorem lv_X1_37 : Cond.static yX10_termsOf ∈ pq_G := pq_t2 230 rfl rfl
set_option maxRecDepth 8000 in
theorem lv_X1_40 : Cond.methodLink RX1 40 yX1_at ∈ pq_G ∧ Cond.instanceMethod yX1_at ∈ pq_G ∧ Cond.selects yX1_at.cls yX1_at yX1_at ∈ pq_G := ⟨pq_t3 90 rfl rfl, pq_t2 233 rfl rfl, pq_t2 234 rfl rfl⟩
set_option maxRecDepth 8000 in
theorem lv_X2_26 : Cond.methodLink RX2 26 yX1_makeNought ∈ pq_G ∧ Cond.instanceMethod yX1_makeNought ∈ pq_G ∧ Cond.selects yX1_makeNought.cls yX1_makeNought yX1_makeNought ∈ pq_G := ⟨pq_t2 73 rfl rfl, pq_t2 74 rfl rfl, pq_t2 75 rfl rfl⟩
set_option maxRecDepth 8000 in
theorem lv_X2_31 : Cond.methodLink RX2 31 yX3_at ∈ pq_G ∧ Cond.instanceMethod yX3_at ∈ pq_G ∧ Cond.selects yX3_at.cls yX3_at yX3_at ∈ pq_G := ⟨pq_t2 77 rfl rfl, pq_t2 78 rfl rfl, pq_t2 79 rfl rfl⟩
set_option maxRecDepth 8000 in
theorem lv_X2_37 : Cond.methodLink RX2 37 yX2_readMember ∈ pq_G ∧ Cond.instanceMethod yX2_readMember ∈ pq_G ∧ Cond.selects yX2_readMember.cls yX2_readMember yX2_readMember ∈ pq_G := ⟨pq_t2 84 rfl rfl, pq_t2 86 rfl rfl, pq_t0 1 rfl rfl⟩
set_option maxRecDepth 8000 in
theorem lv_X2_47 : Cond.methodLink RX2 47 yX2_readNumber ∈ pq_G ∧ Cond.instanceMethod yX2_readNumber ∈ pq_G ∧ Cond.selects yX2_readNumber.cls yX2_readNumber yX2_readNumber ∈ pq_G := ⟨pq_t2 88 rfl rfl, pq_t2 90 rfl rfl, pq_t0 2 rfl rfl⟩
set_option maxRecDepth 8000 in
theorem lv_X2_52 : Cond.methodLink RX2 52 yX2_readPower ∈ pq_G ∧ Cond.instanceMethod yX2_readPower ∈ pq_G ∧ Cond.selects yX2_readPower.cls yX2_readPower yX2_readPower ∈ pq_G := ⟨pq_t2 97 rfl rfl, pq_t2 99 rfl rfl, pq_t0 3 rfl rfl⟩
set_option maxRecDepth 8000 in
theorem lv_X2_59 : Cond.static yX10_termOf ∈ pq_G := pq_t2 106 rfl rfl
set_option maxRecDepth 8000 in
theorem lv_X2_63 : Cond.methodLink RX2 63 yX3_hasDigit ∈ pq_G ∧ Cond.instanceMethod yX3_hasDigit ∈ pq_G ∧ Cond.selects yX3_hasDigit.cls yX3_hasDigit yX3_hasDigit ∈ pq_G := ⟨pq_t2 92 rfl rfl, pq_t2 93 rfl rfl, pq_t2 94 rfl rfl⟩
set_option maxRecDepth 8000 in
theorem lv_X2_66 : Cond.methodLink RX2 66 yX2_fits ∈ pq_G ∧ Cond.instanceMethod yX2_fits ∈ pq_G ∧ Cond.selects yX2_fits.cls yX2_fits yX2_fits ∈ pq_G := ⟨pq_t2 101 rfl rfl, pq_t2 103 rfl rfl, pq_t0 4 rfl rfl⟩
set_option maxRecDepth 8000 in
theorem lv_X3_19 : Cond.static yX10_notBelow ∈ pq_G := pq_t2 82 rfl rfl
set_option maxRecDepth 8000 in
theorem lv_X3_23 : Cond.methodLink RX3 23 yX3_at ∈ pq_G ∧ Cond.instanceMethod yX3_at ∈ pq_G ∧ Cond.selects yX3_at.cls yX3_at yX3_at ∈ pq_G := ⟨pq_t2 96 rfl rfl, pq_t2 78 rfl rfl, pq_t2 79 rfl rfl⟩
set_option maxRecDepth 8000 in
theorem lv_X4_22 : Cond.methodLink RX4 22 yX4_ways ∈ pq_G ∧ Cond.static yX4_ways ∈ pq_G := ⟨pq_t3 238 rfl rfl, pq_t3 239 rfl rfl⟩
set_option maxRecDepth 8000 in
theorem lv_X4_26 : Cond.methodLink RX4 26 yX4_wall ∈ pq_G ∧ Cond.instanceMethod yX4_wall ∈ pq_G ∧ Cond.selects yX4_wall.cls yX4_wall yX4_wall ∈ pq_G := ⟨pq_t4 12 rfl rfl, pq_t3 235 rfl rfl, pq_t3 236 rfl rfl⟩
set_option maxRecDepth 8000 in
theorem lv_X4_30 : Cond.static yX10_fails ∈ pq_G := pq_t3 156 rfl rfl
set_option maxRecDepth 8000 in
theorem lv_X5_32 : Cond.static yX10_termsOf ∈ pq_G := pq_t2 230 rfl rfl
set_option maxRecDepth 8000 in
theorem lv_X5_45 : Cond.methodLink RX5 45 yX5_fill ∈ pq_G ∧ Cond.instanceMethod yX5_fill ∈ pq_G ∧ Cond.selects yX5_fill.cls yX5_fill yX5_fill ∈ pq_G := ⟨pq_t4 38 rfl rfl, pq_t4 40 rfl rfl, pq_t0 18 rfl rfl⟩
set_option maxRecDepth 8000 in
theorem lv_X5_49 : Cond.methodLink RX5 49 yX5_lead ∈ pq_G ∧ Cond.instanceMethod yX5_lead ∈ pq_G ∧ Cond.selects yX5_lead.cls yX5_lead yX5_lead ∈ pq_G := ⟨pq_t4 43 rfl rfl, pq_t4 45 rfl rfl, pq_t0 19 rfl rfl⟩
set_option maxRecDepth 8000 in
theorem lv_X5_53 : Cond.methodLink RX5 53 yX5_leader ∈ pq_G ∧ Cond.instanceMethod yX5_leader ∈ pq_G ∧ Cond.selects yX5_leader.cls yX5_leader yX5_leader ∈ pq_G := ⟨pq_t4 47 rfl rfl, pq_t4 49 rfl rfl, pq_t0 20 rfl rfl⟩
set_option maxRecDepth 8000 in
theorem lv_X5_56 : Cond.methodLink RX5 56 yX1_at ∈ pq_G ∧ Cond.instanceMethod yX1_at ∈ pq_G ∧ Cond.selects yX1_at.cls yX1_at yX1_at ∈ pq_G := ⟨pq_t4 42 rfl rfl, pq_t2 233 rfl rfl, pq_t2 234 rfl rfl⟩
set_option maxRecDepth 8000 in
theorem lv_X5_59 : Cond.methodLink RX5 59 yX5_takeAway ∈ pq_G ∧ Cond.instanceMethod yX5_takeAway ∈ pq_G ∧ Cond.selects yX5_takeAway.cls yX5_takeAway yX5_takeAway ∈ pq_G := ⟨pq_t4 51 rfl rfl, pq_t4 53 rfl rfl, pq_t0 21 rfl rfl⟩
set_option maxRecDepth 8000 in
theorem lv_X5_63 : Cond.methodLink RX5 63 yJ6_bitCount_0f7a4 ∈ pq_G ∧ Cond.static yJ6_bitCount_0f7a4 ∈ pq_G := ⟨pq_t4 59 rfl rfl, pq_t3 132 rfl rfl⟩
set_option maxRecDepth 8000 in
theorem lv_X5_68 : Cond.static yX10_partOf ∈ pq_G := pq_t3 208 rfl rfl
set_option maxRecDepth 8000 in
theorem lv_X6_35 : Cond.static yX10_notBelow ∈ pq_G := pq_t2 82 rfl rfl
set_option maxRecDepth 8000 in
theorem lv_X6_39 : Cond.methodLink RX6 39 yX1_copyOf ∈ pq_G ∧ Cond.instanceMethod yX1_copyOf ∈ pq_G ∧ Cond.selects yX1_copyOf.cls yX1_copyOf yX1_copyOf ∈ pq_G := ⟨pq_t4 169 rfl rfl, pq_t4 170 rfl rfl, pq_t4 171 rfl rfl⟩
set_option maxRecDepth 8000 in
theorem lv_X6_46 : Cond.static yX10_termsOf ∈ pq_G := pq_t2 230 rfl rfl
set_option maxRecDepth 8000 in
theorem lv_X6_50 : Cond.methodLink RX6 50 yX1_howMany ∈ pq_G ∧ Cond.instanceMethod yX1_howMany ∈ pq_G ∧ Cond.selects yX1_howMany.cls yX1_howMany yX1_howMany ∈ pq_G := ⟨pq_t4 193 rfl rfl, pq_t3 86 rfl rfl, pq_t3 87 rfl rfl⟩
set_option maxRecDepth 8000 in
theorem lv_X6_54 : Cond.methodLink RX6 54 yJ6_bitCount_0f7a4 ∈ pq_G ∧ Cond.static yJ6_bitCount_0f7a4 ∈ pq_G := ⟨pq_t4 26 rfl rfl, pq_t3 132 rfl rfl⟩
set_option maxRecDepth 8000 in
theorem lv_X6_59 : Cond.methodLink RX6 59 yX6_isSmall ∈ pq_G ∧ Cond.static yX6_isSmall ∈ pq_G := ⟨pq_t4 27 rfl rfl, pq_t4 28 rfl rfl⟩
set_option maxRecDepth 8000 in
theorem lv_X6_63 : Cond.methodLink RX6 63 yX1_at ∈ pq_G ∧ Cond.instanceMethod yX1_at ∈ pq_G ∧ Cond.selects yX1_at.cls yX1_at yX1_at ∈ pq_G := ⟨pq_t2 232 rfl rfl, pq_t2 233 rfl rfl, pq_t2 234 rfl rfl⟩
set_option maxRecDepth 8000 in
theorem lv_X6_84 : Cond.methodLink RX6 84 yX6_performOne ∈ pq_G ∧ Cond.instanceMethod yX6_performOne ∈ pq_G ∧ Cond.selects yX6_performOne.cls yX6_performOne yX6_performOne ∈ pq_G := ⟨pq_t2 203 rfl rfl, pq_t2 205 rfl rfl, pq_t0 9 rfl rfl⟩
set_option maxRecDepth 8000 in
theorem lv_X6_91 : Cond.methodLink RX6 91 yX6_lacks ∈ pq_G ∧ Cond.instanceMethod yX6_lacks ∈ pq_G ∧ Cond.selects yX6_lacks.cls yX6_lacks yX6_lacks ∈ pq_G := ⟨pq_t2 207 rfl rfl, pq_t2 208 rfl rfl, pq_t2 209 rfl rfl⟩
set_option maxRecDepth 8000 in
theorem lv_X6_95 : Cond.methodLink RX6 95 yX6_bringSum ∈ pq_G ∧ Cond.instanceMethod yX6_bringSum ∈ pq_G ∧ Cond.selects yX6_bringSum.cls yX6_bringSum yX6_bringSum ∈ pq_G := ⟨pq_t2 212 rfl rfl, pq_t2 213 rfl rfl, pq_t2 214 rfl rfl⟩
set_option maxRecDepth 8000 in
theorem lv_X6_98 : Cond.methodLink RX6 98 yX6_bringProduct ∈ pq_G ∧ Cond.instanceMethod yX6_bringProduct ∈ pq_G ∧ Cond.selects yX6_bringProduct.cls yX6_bringProduct yX6_bringProduct ∈ pq_G := ⟨pq_t3 9 rfl rfl, pq_t3 10 rfl rfl, pq_t3 11 rfl rfl⟩
set_option maxRecDepth 8000 in
theorem lv_X6_101 : Cond.methodLink RX6 101 yX6_bringLift ∈ pq_G ∧ Cond.instanceMethod yX6_bringLift ∈ pq_G ∧ Cond.selects yX6_bringLift.cls yX6_bringLift yX6_bringLift ∈ pq_G := ⟨pq_t3 24 rfl rfl, pq_t3 25 rfl rfl, pq_t3 26 rfl rfl⟩
set_option maxRecDepth 8000 in
theorem lv_X6_104 : Cond.methodLink RX6 104 yX6_bringNegative ∈ pq_G ∧ Cond.instanceMethod yX6_bringNegative ∈ pq_G ∧ Cond.selects yX6_bringNegative.cls yX6_bringNegative yX6_bringNegative ∈ pq_G := ⟨pq_t3 36 rfl rfl, pq_t3 37 rfl rfl, pq_t3 38 rfl rfl⟩
set_option maxRecDepth 8000 in
theorem lv_X6_107 : Cond.static yX10_isSide ∈ pq_G := pq_t3 41 rfl rfl
set_option maxRecDepth 8000 in
theorem lv_X6_110 : Cond.methodLink RX6 110 yX6_bringOn ∈ pq_G ∧ Cond.instanceMethod yX6_bringOn ∈ pq_G ∧ Cond.selects yX6_bringOn.cls yX6_bringOn yX6_bringOn ∈ pq_G := ⟨pq_t3 43 rfl rfl, pq_t3 44 rfl rfl, pq_t3 45 rfl rfl⟩
set_option maxRecDepth 8000 in
theorem lv_X6_113 : Cond.methodLink RX6 113 yX9_takeOn ∈ pq_G ∧ Cond.instanceMethod yX9_takeOn ∈ pq_G ∧ Cond.selects yX9_takeOn.cls yX9_takeOn yX9_takeOn ∈ pq_G := ⟨pq_t2 216 rfl rfl, pq_t2 217 rfl rfl, pq_t2 218 rfl rfl⟩
set_option maxRecDepth 8000 in
theorem lv_X6_122 : Cond.methodLink RX6 122 yX6_settle ∈ pq_G ∧ Cond.instanceMethod yX6_settle ∈ pq_G ∧ Cond.selects yX6_settle.cls yX6_settle yX6_settle ∈ pq_G := ⟨pq_t3 1 rfl rfl, pq_t3 3 rfl rfl, pq_t0 10 rfl rfl⟩
set_option maxRecDepth 8000 in
theorem lv_X6_126 : Cond.methodLink RX6 126 yX9_makeNought ∈ pq_G ∧ Cond.instanceMethod yX9_makeNought ∈ pq_G ∧ Cond.selects yX9_makeNought.cls yX9_makeNought yX9_makeNought ∈ pq_G := ⟨pq_t3 13 rfl rfl, pq_t3 14 rfl rfl, pq_t3 15 rfl rfl⟩
set_option maxRecDepth 8000 in
theorem lv_X6_130 : Cond.methodLink RX6 130 yX1_has ∈ pq_G ∧ Cond.instanceMethod yX1_has ∈ pq_G ∧ Cond.selects yX1_has.cls yX1_has yX1_has ∈ pq_G := ⟨pq_t3 18 rfl rfl, pq_t2 225 rfl rfl, pq_t2 226 rfl rfl⟩
set_option maxRecDepth 8000 in
theorem lv_X6_134 : Cond.methodLink RX6 134 yX6_addTimes ∈ pq_G ∧ Cond.instanceMethod yX6_addTimes ∈ pq_G ∧ Cond.selects yX6_addTimes.cls yX6_addTimes yX6_addTimes ∈ pq_G := ⟨pq_t3 19 rfl rfl, pq_t3 21 rfl rfl, pq_t0 11 rfl rfl⟩
set_option maxRecDepth 8000 in
theorem lv_X6_138 : Cond.static yX10_termOf ∈ pq_G := pq_t2 106 rfl rfl
set_option maxRecDepth 8000 in
theorem lv_X6_142 : Cond.methodLink RX6 142 yX9_raise ∈ pq_G ∧ Cond.instanceMethod yX9_raise ∈ pq_G ∧ Cond.selects yX9_raise.cls yX9_raise yX9_raise ∈ pq_G := ⟨pq_t3 28 rfl rfl, pq_t3 29 rfl rfl, pq_t3 30 rfl rfl⟩
set_option maxRecDepth 8000 in
theorem lv_X6_146 : Cond.methodLink RX6 146 yX6_isFull ∈ pq_G ∧ Cond.instanceMethod yX6_isFull ∈ pq_G ∧ Cond.selects yX6_isFull.cls yX6_isFull yX6_isFull ∈ pq_G := ⟨pq_t3 5 rfl rfl, pq_t2 66 rfl rfl, pq_t2 67 rfl rfl⟩
set_option maxRecDepth 8000 in
theorem lv_X6_153 : Cond.methodLink RX6 153 yX1_makeNought ∈ pq_G ∧ Cond.instanceMethod yX1_makeNought ∈ pq_G ∧ Cond.selects yX1_makeNought.cls yX1_makeNought yX1_makeNought ∈ pq_G := ⟨pq_t3 8 rfl rfl, pq_t2 74 rfl rfl, pq_t2 75 rfl rfl⟩
set_option maxRecDepth 8000 in
theorem lv_X7_26 : Cond.methodLink RX7 26 yX7_spellTerm ∈ pq_G ∧ Cond.instanceMethod yX7_spellTerm ∈ pq_G ∧ Cond.selects yX7_spellTerm.cls yX7_spellTerm yX7_spellTerm ∈ pq_G := ⟨pq_t4 94 rfl rfl, pq_t4 96 rfl rfl, pq_t0 22 rfl rfl⟩
set_option maxRecDepth 8000 in
theorem lv_X7_30 : Cond.methodLink RX7 30 yX7_add ∈ pq_G ∧ Cond.instanceMethod yX7_add ∈ pq_G ∧ Cond.selects yX7_add.cls yX7_add yX7_add ∈ pq_G := ⟨pq_t4 99 rfl rfl, pq_t4 101 rfl rfl, pq_t0 23 rfl rfl⟩
set_option maxRecDepth 8000 in
theorem lv_X7_34 : Cond.methodLink RX7 34 yX1_has ∈ pq_G ∧ Cond.instanceMethod yX1_has ∈ pq_G ∧ Cond.selects yX1_has.cls yX1_has yX1_has ∈ pq_G := ⟨pq_t4 98 rfl rfl, pq_t2 225 rfl rfl, pq_t2 226 rfl rfl⟩
set_option maxRecDepth 8000 in
theorem lv_X7_44 : Cond.methodLink RX7 44 yX7_spellNumber ∈ pq_G ∧ Cond.instanceMethod yX7_spellNumber ∈ pq_G ∧ Cond.selects yX7_spellNumber.cls yX7_spellNumber yX7_spellNumber ∈ pq_G := ⟨pq_t4 104 rfl rfl, pq_t4 106 rfl rfl, pq_t0 24 rfl rfl⟩
set_option maxRecDepth 8000 in
theorem lv_X7_47 : Cond.methodLink RX7 47 yX7_spellPower ∈ pq_G ∧ Cond.instanceMethod yX7_spellPower ∈ pq_G ∧ Cond.selects yX7_spellPower.cls yX7_spellPower yX7_spellPower ∈ pq_G := ⟨pq_t4 108 rfl rfl, pq_t4 110 rfl rfl, pq_t0 25 rfl rfl⟩
set_option maxRecDepth 8000 in
theorem lv_X8_37 : Cond.methodLink RX8 37 yX6_lacks ∈ pq_G ∧ Cond.instanceMethod yX6_lacks ∈ pq_G ∧ Cond.selects yX6_lacks.cls yX6_lacks yX6_lacks ∈ pq_G := ⟨pq_t4 160 rfl rfl, pq_t2 208 rfl rfl, pq_t2 209 rfl rfl⟩
set_option maxRecDepth 8000 in
theorem lv_X9_19 : Cond.static yX10_termsOf ∈ pq_G := pq_t2 230 rfl rfl
set_option maxRecDepth 8000 in
theorem lv_X9_26 : Cond.static yX10_termOf ∈ pq_G := pq_t2 106 rfl rfl
set_option maxRecDepth 8000 in
theorem lv_X9_30 : Cond.static yX10_standsOn ∈ pq_G := pq_t2 222 rfl rfl
set_option maxRecDepth 8000 in
theorem lv_X9_34 : Cond.methodLink RX9 34 yX1_has ∈ pq_G ∧ Cond.instanceMethod yX1_has ∈ pq_G ∧ Cond.selects yX1_has.cls yX1_has yX1_has ∈ pq_G := ⟨pq_t2 224 rfl rfl, pq_t2 225 rfl rfl, pq_t2 226 rfl rfl⟩
set_option maxRecDepth 8000 in
theorem lv_X9_38 : Cond.methodLink RX9 38 yX9_raiseOnce ∈ pq_G ∧ Cond.instanceMethod yX9_raiseOnce ∈ pq_G ∧ Cond.selects yX9_raiseOnce.cls yX9_raiseOnce yX9_raiseOnce ∈ pq_G := ⟨pq_t3 32 rfl rfl, pq_t3 34 rfl rfl, pq_t0 12 rfl rfl⟩
set_option maxRecDepth 8000 in
theorem lv_X9_42 : Cond.static yX10_numberOn ∈ pq_G := pq_t3 143 rfl rfl
set_option maxRecDepth 8000 in
theorem lv_X9_45 : Cond.static yX10_placesOn ∈ pq_G := pq_t3 129 rfl rfl
set_option maxRecDepth 8000 in
theorem lv_X9_48 : Cond.methodLink RX9 48 yX9_among ∈ pq_G ∧ Cond.instanceMethod yX9_among ∈ pq_G ∧ Cond.selects yX9_among.cls yX9_among yX9_among ∈ pq_G := ⟨pq_t3 154 rfl rfl, pq_t3 139 rfl rfl, pq_t3 140 rfl rfl⟩
set_option maxRecDepth 8000 in
theorem lv_X9_52 : Cond.static yX10_fails ∈ pq_G := pq_t3 156 rfl rfl
set_option maxRecDepth 8000 in
theorem lv_X9_56 : Cond.methodLink RX9 56 yX9_firstFault ∈ pq_G ∧ Cond.instanceMethod yX9_firstFault ∈ pq_G ∧ Cond.selects yX9_firstFault.cls yX9_firstFault yX9_firstFault ∈ pq_G := ⟨pq_t3 166 rfl rfl, pq_t3 150 rfl rfl, pq_t3 151 rfl rfl⟩
set_option maxRecDepth 8000 in
theorem lv_X9_59 : Cond.static yX10_behindA ∈ pq_G := pq_t2 237 rfl rfl
set_option maxRecDepth 8000 in
theorem lv_X9_62 : Cond.methodLink RX9 62 yX9_worth ∈ pq_G ∧ Cond.instanceMethod yX9_worth ∈ pq_G ∧ Cond.selects yX9_worth.cls yX9_worth yX9_worth ∈ pq_G := ⟨pq_t3 184 rfl rfl, pq_t3 120 rfl rfl, pq_t3 121 rfl rfl⟩
set_option maxRecDepth 8000 in
theorem lv_X9_66 : Cond.methodLink RX9 66 yX9_failingPoint ∈ pq_G ∧ Cond.instanceMethod yX9_failingPoint ∈ pq_G ∧ Cond.selects yX9_failingPoint.cls yX9_failingPoint yX9_failingPoint ∈ pq_G := ⟨pq_t3 175 rfl rfl, pq_t3 176 rfl rfl, pq_t3 177 rfl rfl⟩
set_option maxRecDepth 8000 in
theorem lv_X9_69 : Cond.methodLink RX9 69 yX9_worthAt ∈ pq_G ∧ Cond.instanceMethod yX9_worthAt ∈ pq_G ∧ Cond.selects yX9_worthAt.cls yX9_worthAt yX9_worthAt ∈ pq_G := ⟨pq_t3 179 rfl rfl, pq_t3 180 rfl rfl, pq_t3 181 rfl rfl⟩
set_option maxRecDepth 8000 in
theorem lv_L_13 : Cond.methodLink RL 13 yX10_letter ∈ pq_G ∧ Cond.instanceMethod yX10_letter ∈ pq_G ∧ Cond.selects yX10_letter.cls yX10_letter yX10_letter ∈ pq_G := ⟨pq_t2 49 rfl rfl, pq_t2 50 rfl rfl, pq_t2 51 rfl rfl⟩
set_option maxRecDepth 8000 in
theorem lv_L_17 : Cond.methodLink RL 17 yX11_letter ∈ pq_G ∧ Cond.instanceMethod yX11_letter ∈ pq_G ∧ Cond.selects yX11_letter.cls yX11_letter yX11_letter ∈ pq_G := ⟨pq_t5 207 rfl rfl, pq_t5 208 rfl rfl, pq_t5 209 rfl rfl⟩
set_option maxRecDepth 8000 in
theorem lv_L_18 : Cond.methodLink RL 18 yX10_form ∈ pq_G ∧ Cond.instanceMethod yX10_form ∈ pq_G ∧ Cond.selects yX10_form.cls yX10_form yX10_form ∈ pq_G := ⟨pq_t2 61 rfl rfl, pq_t2 62 rfl rfl, pq_t2 63 rfl rfl⟩
set_option maxRecDepth 8000 in
theorem lv_L_22 : Cond.methodLink RL 22 yX11_form ∈ pq_G ∧ Cond.instanceMethod yX11_form ∈ pq_G ∧ Cond.selects yX11_form.cls yX11_form yX11_form ∈ pq_G := ⟨pq_t5 211 rfl rfl, pq_t5 212 rfl rfl, pq_t5 213 rfl rfl⟩
set_option maxRecDepth 8000 in
theorem lv_L_23 : Cond.methodLink RL 23 yX10_acts ∈ pq_G ∧ Cond.instanceMethod yX10_acts ∈ pq_G ∧ Cond.selects yX10_acts.cls yX10_acts yX10_acts ∈ pq_G := ⟨pq_t2 112 rfl rfl, pq_t2 113 rfl rfl, pq_t2 114 rfl rfl⟩
set_option maxRecDepth 8000 in
theorem lv_L_26 : Cond.methodLink RL 26 yX11_acts ∈ pq_G ∧ Cond.instanceMethod yX11_acts ∈ pq_G ∧ Cond.selects yX11_acts.cls yX11_acts yX11_acts ∈ pq_G := ⟨pq_t5 235 rfl rfl, pq_t5 236 rfl rfl, pq_t5 237 rfl rfl⟩
set_option maxRecDepth 8000 in
theorem lv_L_27 : Cond.methodLink RL 27 yX10_drop ∈ pq_G ∧ Cond.instanceMethod yX10_drop ∈ pq_G ∧ Cond.selects yX10_drop.cls yX10_drop yX10_drop ∈ pq_G := ⟨pq_t3 48 rfl rfl, pq_t3 49 rfl rfl, pq_t3 50 rfl rfl⟩
set_option maxRecDepth 8000 in
theorem lv_L_30 : Cond.methodLink RL 30 yX11_drop ∈ pq_G ∧ Cond.instanceMethod yX11_drop ∈ pq_G ∧ Cond.selects yX11_drop.cls yX11_drop yX11_drop ∈ pq_G := ⟨pq_t6 23 rfl rfl, pq_t6 24 rfl rfl, pq_t6 25 rfl rfl⟩
set_option maxRecDepth 8000 in
theorem lv_L_31 : Cond.methodLink RL 31 yX10_change ∈ pq_G ∧ Cond.instanceMethod yX10_change ∈ pq_G ∧ Cond.selects yX10_change.cls yX10_change yX10_change ∈ pq_G := ⟨pq_t3 52 rfl rfl, pq_t3 53 rfl rfl, pq_t3 54 rfl rfl⟩
set_option maxRecDepth 8000 in
theorem lv_L_35 : Cond.methodLink RL 35 yX11_change ∈ pq_G ∧ Cond.instanceMethod yX11_change ∈ pq_G ∧ Cond.selects yX11_change.cls yX11_change yX11_change ∈ pq_G := ⟨pq_t6 27 rfl rfl, pq_t6 28 rfl rfl, pq_t6 29 rfl rfl⟩
set_option maxRecDepth 8000 in
theorem lv_L_36 : Cond.methodLink RL 36 yX10_turn ∈ pq_G ∧ Cond.instanceMethod yX10_turn ∈ pq_G ∧ Cond.selects yX10_turn.cls yX10_turn yX10_turn ∈ pq_G := ⟨pq_t3 77 rfl rfl, pq_t3 78 rfl rfl, pq_t3 79 rfl rfl⟩
set_option maxRecDepth 8000 in
theorem lv_L_39 : Cond.methodLink RL 39 yX11_turn ∈ pq_G ∧ Cond.instanceMethod yX11_turn ∈ pq_G ∧ Cond.selects yX11_turn.cls yX11_turn yX11_turn ∈ pq_G := ⟨pq_t6 42 rfl rfl, pq_t6 43 rfl rfl, pq_t6 44 rfl rfl⟩
set_option maxRecDepth 8000 in
theorem lv_L_40 : Cond.methodLink RL 40 yX10_of ∈ pq_G ∧ Cond.instanceMethod yX10_of ∈ pq_G ∧ Cond.selects yX10_of.cls yX10_of yX10_of ∈ pq_G := ⟨pq_t3 81 rfl rfl, pq_t3 82 rfl rfl, pq_t3 83 rfl rfl⟩
set_option maxRecDepth 8000 in
theorem lv_L_44 : Cond.methodLink RL 44 yX11_of ∈ pq_G ∧ Cond.instanceMethod yX11_of ∈ pq_G ∧ Cond.selects yX11_of.cls yX11_of yX11_of ∈ pq_G := ⟨pq_t6 46 rfl rfl, pq_t6 47 rfl rfl, pq_t6 48 rfl rfl⟩
set_option maxRecDepth 8000 in
theorem lv_L_45 : Cond.methodLink RL 45 yX10_taken ∈ pq_G ∧ Cond.instanceMethod yX10_taken ∈ pq_G ∧ Cond.selects yX10_taken.cls yX10_taken yX10_taken ∈ pq_G := ⟨pq_t3 91 rfl rfl, pq_t3 92 rfl rfl, pq_t3 93 rfl rfl⟩
set_option maxRecDepth 8000 in
theorem lv_L_48 : Cond.methodLink RL 48 yX11_taken ∈ pq_G ∧ Cond.instanceMethod yX11_taken ∈ pq_G ∧ Cond.selects yX11_taken.cls yX11_taken yX11_taken ∈ pq_G := ⟨pq_t6 54 rfl rfl, pq_t6 55 rfl rfl, pq_t6 56 rfl rfl⟩
set_option maxRecDepth 8000 in
theorem lv_L_49 : Cond.methodLink RL 49 yX10_coefficient ∈ pq_G ∧ Cond.instanceMethod yX10_coefficient ∈ pq_G ∧ Cond.selects yX10_coefficient.cls yX10_coefficient yX10_coefficient ∈ pq_G := ⟨pq_t3 100 rfl rfl, pq_t3 101 rfl rfl, pq_t3 102 rfl rfl⟩
set_option maxRecDepth 8000 in
theorem lv_L_52 : Cond.methodLink RL 52 yX11_coefficient ∈ pq_G ∧ Cond.instanceMethod yX11_coefficient ∈ pq_G ∧ Cond.selects yX11_coefficient.cls yX11_coefficient yX11_coefficient ∈ pq_G := ⟨pq_t6 58 rfl rfl, pq_t6 59 rfl rfl, pq_t6 60 rfl rfl⟩
set_option maxRecDepth 8000 in
theorem lv_L_53 : Cond.methodLink RL 53 yX10_value ∈ pq_G ∧ Cond.instanceMethod yX10_value ∈ pq_G ∧ Cond.selects yX10_value.cls yX10_value yX10_value ∈ pq_G := ⟨pq_t3 105 rfl rfl, pq_t3 106 rfl rfl, pq_t3 107 rfl rfl⟩
set_option maxRecDepth 8000 in
theorem lv_L_57 : Cond.methodLink RL 57 yX11_value ∈ pq_G ∧ Cond.instanceMethod yX11_value ∈ pq_G ∧ Cond.selects yX11_value.cls yX11_value yX11_value ∈ pq_G := ⟨pq_t6 62 rfl rfl, pq_t6 63 rfl rfl, pq_t6 64 rfl rfl⟩
set_option maxRecDepth 8000 in
theorem lv_L_58 : Cond.methodLink RL 58 yX10_lifted ∈ pq_G ∧ Cond.instanceMethod yX10_lifted ∈ pq_G ∧ Cond.selects yX10_lifted.cls yX10_lifted yX10_lifted ∈ pq_G := ⟨pq_t3 123 rfl rfl, pq_t3 124 rfl rfl, pq_t3 125 rfl rfl⟩
set_option maxRecDepth 8000 in
theorem lv_L_61 : Cond.methodLink RL 61 yX11_lifted ∈ pq_G ∧ Cond.instanceMethod yX11_lifted ∈ pq_G ∧ Cond.selects yX11_lifted.cls yX11_lifted yX11_lifted ∈ pq_G := ⟨pq_t6 78 rfl rfl, pq_t6 79 rfl rfl, pq_t6 80 rfl rfl⟩
set_option maxRecDepth 8000 in
theorem lv_L_62 : Cond.methodLink RL 62 yX10_fault ∈ pq_G ∧ Cond.instanceMethod yX10_fault ∈ pq_G ∧ Cond.selects yX10_fault.cls yX10_fault yX10_fault ∈ pq_G := ⟨pq_t3 145 rfl rfl, pq_t3 146 rfl rfl, pq_t3 147 rfl rfl⟩
set_option maxRecDepth 8000 in
theorem lv_L_66 : Cond.methodLink RL 66 yX11_fault ∈ pq_G ∧ Cond.instanceMethod yX11_fault ∈ pq_G ∧ Cond.selects yX11_fault.cls yX11_fault yX11_fault ∈ pq_G := ⟨pq_t6 86 rfl rfl, pq_t6 87 rfl rfl, pq_t6 88 rfl rfl⟩
set_option maxRecDepth 8000 in
theorem lv_L_67 : Cond.methodLink RL 67 yX10_least ∈ pq_G ∧ Cond.instanceMethod yX10_least ∈ pq_G ∧ Cond.selects yX10_least.cls yX10_least yX10_least ∈ pq_G := ⟨pq_t3 158 rfl rfl, pq_t3 159 rfl rfl, pq_t3 160 rfl rfl⟩
set_option maxRecDepth 8000 in
theorem lv_L_70 : Cond.methodLink RL 70 yX11_least ∈ pq_G ∧ Cond.instanceMethod yX11_least ∈ pq_G ∧ Cond.selects yX11_least.cls yX11_least yX11_least ∈ pq_G := ⟨pq_t6 97 rfl rfl, pq_t6 98 rfl rfl, pq_t6 99 rfl rfl⟩
set_option maxRecDepth 8000 in
theorem lv_L_71 : Cond.methodLink RL 71 yX10_failing ∈ pq_G ∧ Cond.instanceMethod yX10_failing ∈ pq_G ∧ Cond.selects yX10_failing.cls yX10_failing yX10_failing ∈ pq_G := ⟨pq_t3 167 rfl rfl, pq_t3 168 rfl rfl, pq_t3 169 rfl rfl⟩
set_option maxRecDepth 8000 in
theorem lv_L_74 : Cond.methodLink RL 74 yX11_failing ∈ pq_G ∧ Cond.instanceMethod yX11_failing ∈ pq_G ∧ Cond.selects yX11_failing.cls yX11_failing yX11_failing ∈ pq_G := ⟨pq_t6 105 rfl rfl, pq_t6 106 rfl rfl, pq_t6 107 rfl rfl⟩
set_option maxRecDepth 8000 in
theorem lv_L_75 : Cond.methodLink RL 75 yX10_lowest ∈ pq_G ∧ Cond.instanceMethod yX10_lowest ∈ pq_G ∧ Cond.selects yX10_lowest.cls yX10_lowest yX10_lowest ∈ pq_G := ⟨pq_t3 186 rfl rfl, pq_t3 187 rfl rfl, pq_t3 188 rfl rfl⟩
set_option maxRecDepth 8000 in
theorem lv_L_78 : Cond.methodLink RL 78 yX11_lowest ∈ pq_G ∧ Cond.instanceMethod yX11_lowest ∈ pq_G ∧ Cond.selects yX11_lowest.cls yX11_lowest yX11_lowest ∈ pq_G := ⟨pq_t6 129 rfl rfl, pq_t6 130 rfl rfl, pq_t6 131 rfl rfl⟩
set_option maxRecDepth 8000 in
theorem lv_L_79 : Cond.methodLink RL 79 yX10_share ∈ pq_G ∧ Cond.instanceMethod yX10_share ∈ pq_G ∧ Cond.selects yX10_share.cls yX10_share yX10_share ∈ pq_G := ⟨pq_t3 199 rfl rfl, pq_t3 200 rfl rfl, pq_t3 201 rfl rfl⟩
set_option maxRecDepth 8000 in
theorem lv_L_82 : Cond.methodLink RL 82 yX11_share ∈ pq_G ∧ Cond.instanceMethod yX11_share ∈ pq_G ∧ Cond.selects yX11_share.cls yX11_share yX11_share ∈ pq_G := ⟨pq_t6 137 rfl rfl, pq_t6 138 rfl rfl, pq_t6 139 rfl rfl⟩
set_option maxRecDepth 8000 in
theorem lv_L_83 : Cond.methodLink RL 83 yX10_proof ∈ pq_G ∧ Cond.instanceMethod yX10_proof ∈ pq_G ∧ Cond.selects yX10_proof.cls yX10_proof yX10_proof ∈ pq_G := ⟨pq_t3 216 rfl rfl, pq_t3 217 rfl rfl, pq_t3 218 rfl rfl⟩
set_option maxRecDepth 8000 in
theorem lv_L_86 : Cond.methodLink RL 86 yX11_proof ∈ pq_G ∧ Cond.instanceMethod yX11_proof ∈ pq_G ∧ Cond.selects yX11_proof.cls yX11_proof yX11_proof ∈ pq_G := ⟨pq_t6 147 rfl rfl, pq_t6 148 rfl rfl, pq_t6 149 rfl rfl⟩
set_option maxRecDepth 8000 in
theorem lv_L_87 : Cond.methodLink RL 87 yX10_walls ∈ pq_G ∧ Cond.instanceMethod yX10_walls ∈ pq_G ∧ Cond.selects yX10_walls.cls yX10_walls yX10_walls ∈ pq_G := ⟨pq_t3 220 rfl rfl, pq_t3 221 rfl rfl, pq_t3 222 rfl rfl⟩
set_option maxRecDepth 8000 in
theorem lv_L_91 : Cond.methodLink RL 91 yX11_walls ∈ pq_G ∧ Cond.instanceMethod yX11_walls ∈ pq_G ∧ Cond.selects yX11_walls.cls yX11_walls yX11_walls ∈ pq_G := ⟨pq_t6 151 rfl rfl, pq_t6 152 rfl rfl, pq_t6 153 rfl rfl⟩
set_option maxRecDepth 8000 in
theorem lv_L_92 : Cond.methodLink RL 92 yX10_wallsLeast ∈ pq_G ∧ Cond.instanceMethod yX10_wallsLeast ∈ pq_G ∧ Cond.selects yX10_wallsLeast.cls yX10_wallsLeast yX10_wallsLeast ∈ pq_G := ⟨pq_t4 1 rfl rfl, pq_t4 2 rfl rfl, pq_t4 3 rfl rfl⟩
set_option maxRecDepth 8000 in
theorem lv_L_95 : Cond.methodLink RL 95 yX11_wallsLeast ∈ pq_G ∧ Cond.instanceMethod yX11_wallsLeast ∈ pq_G ∧ Cond.selects yX11_wallsLeast.cls yX11_wallsLeast yX11_wallsLeast ∈ pq_G := ⟨pq_t6 170 rfl rfl, pq_t6 171 rfl rfl, pq_t6 172 rfl rfl⟩
set_option maxRecDepth 8000 in
theorem lv_L_96 : Cond.methodLink RL 96 yX10_made ∈ pq_G ∧ Cond.instanceMethod yX10_made ∈ pq_G ∧ Cond.selects yX10_made.cls yX10_made yX10_made ∈ pq_G := ⟨pq_t4 14 rfl rfl, pq_t4 15 rfl rfl, pq_t4 16 rfl rfl⟩
set_option maxRecDepth 8000 in
theorem lv_L_99 : Cond.methodLink RL 99 yX11_made ∈ pq_G ∧ Cond.instanceMethod yX11_made ∈ pq_G ∧ Cond.selects yX11_made.cls yX11_made yX11_made ∈ pq_G := ⟨pq_t6 174 rfl rfl, pq_t6 175 rfl rfl, pq_t6 176 rfl rfl⟩
set_option maxRecDepth 8000 in
theorem lv_L_100 : Cond.methodLink RL 100 yX10_sum ∈ pq_G ∧ Cond.instanceMethod yX10_sum ∈ pq_G ∧ Cond.selects yX10_sum.cls yX10_sum yX10_sum ∈ pq_G := ⟨pq_t4 61 rfl rfl, pq_t4 62 rfl rfl, pq_t4 63 rfl rfl⟩
set_option maxRecDepth 8000 in
theorem lv_L_103 : Cond.methodLink RL 103 yX11_sum ∈ pq_G ∧ Cond.instanceMethod yX11_sum ∈ pq_G ∧ Cond.selects yX11_sum.cls yX11_sum yX11_sum ∈ pq_G := ⟨pq_t5 101 rfl rfl, pq_t5 102 rfl rfl, pq_t5 103 rfl rfl⟩
set_option maxRecDepth 8000 in
theorem lv_L_104 : Cond.methodLink RL 104 yX10_product ∈ pq_G ∧ Cond.instanceMethod yX10_product ∈ pq_G ∧ Cond.selects yX10_product.cls yX10_product yX10_product ∈ pq_G := ⟨pq_t4 66 rfl rfl, pq_t4 67 rfl rfl, pq_t4 68 rfl rfl⟩
set_option maxRecDepth 8000 in
theorem lv_L_107 : Cond.methodLink RL 107 yX11_product ∈ pq_G ∧ Cond.instanceMethod yX11_product ∈ pq_G ∧ Cond.selects yX11_product.cls yX11_product yX11_product ∈ pq_G := ⟨pq_t5 158 rfl rfl, pq_t5 159 rfl rfl, pq_t5 160 rfl rfl⟩
set_option maxRecDepth 8000 in
theorem lv_L_108 : Cond.methodLink RL 108 yX10_lift ∈ pq_G ∧ Cond.instanceMethod yX10_lift ∈ pq_G ∧ Cond.selects yX10_lift.cls yX10_lift yX10_lift ∈ pq_G := ⟨pq_t4 71 rfl rfl, pq_t4 72 rfl rfl, pq_t4 73 rfl rfl⟩
set_option maxRecDepth 8000 in
theorem lv_L_111 : Cond.methodLink RL 111 yX11_lift ∈ pq_G ∧ Cond.instanceMethod yX11_lift ∈ pq_G ∧ Cond.selects yX11_lift.cls yX11_lift yX11_lift ∈ pq_G := ⟨pq_t5 166 rfl rfl, pq_t5 167 rfl rfl, pq_t5 168 rfl rfl⟩
set_option maxRecDepth 8000 in
theorem lv_L_112 : Cond.methodLink RL 112 yX10_negative ∈ pq_G ∧ Cond.instanceMethod yX10_negative ∈ pq_G ∧ Cond.selects yX10_negative.cls yX10_negative yX10_negative ∈ pq_G := ⟨pq_t4 76 rfl rfl, pq_t4 77 rfl rfl, pq_t4 78 rfl rfl⟩
set_option maxRecDepth 8000 in
theorem lv_L_115 : Cond.methodLink RL 115 yX11_negative ∈ pq_G ∧ Cond.instanceMethod yX11_negative ∈ pq_G ∧ Cond.selects yX11_negative.cls yX11_negative yX11_negative ∈ pq_G := ⟨pq_t5 188 rfl rfl, pq_t5 189 rfl rfl, pq_t5 190 rfl rfl⟩
set_option maxRecDepth 8000 in
theorem lv_L_116 : Cond.methodLink RL 116 yX10_on ∈ pq_G ∧ Cond.instanceMethod yX10_on ∈ pq_G ∧ Cond.selects yX10_on.cls yX10_on yX10_on ∈ pq_G := ⟨pq_t4 81 rfl rfl, pq_t4 82 rfl rfl, pq_t4 83 rfl rfl⟩
set_option maxRecDepth 8000 in
theorem lv_L_119 : Cond.methodLink RL 119 yX11_on ∈ pq_G ∧ Cond.instanceMethod yX11_on ∈ pq_G ∧ Cond.selects yX11_on.cls yX11_on yX11_on ∈ pq_G := ⟨pq_t5 196 rfl rfl, pq_t5 197 rfl rfl, pq_t5 198 rfl rfl⟩
set_option maxRecDepth 8000 in
theorem lv_L_120 : Cond.methodLink RL 120 yX10_spelled ∈ pq_G ∧ Cond.instanceMethod yX10_spelled ∈ pq_G ∧ Cond.selects yX10_spelled.cls yX10_spelled yX10_spelled ∈ pq_G := ⟨pq_t4 86 rfl rfl, pq_t4 87 rfl rfl, pq_t4 88 rfl rfl⟩
set_option maxRecDepth 8000 in
theorem lv_L_123 : Cond.methodLink RL 123 yX11_spelled ∈ pq_G ∧ Cond.instanceMethod yX11_spelled ∈ pq_G ∧ Cond.selects yX11_spelled.cls yX11_spelled yX11_spelled ∈ pq_G := ⟨pq_t6 222 rfl rfl, pq_t6 223 rfl rfl, pq_t6 224 rfl rfl⟩
set_option maxRecDepth 8000 in
theorem lv_L_124 : Cond.methodLink RL 124 yX10_lots ∈ pq_G ∧ Cond.instanceMethod yX10_lots ∈ pq_G ∧ Cond.selects yX10_lots.cls yX10_lots yX10_lots ∈ pq_G := ⟨pq_t4 112 rfl rfl, pq_t4 113 rfl rfl, pq_t4 114 rfl rfl⟩
set_option maxRecDepth 8000 in
theorem lv_L_127 : Cond.methodLink RL 127 yX11_lots ∈ pq_G ∧ Cond.instanceMethod yX11_lots ∈ pq_G ∧ Cond.selects yX11_lots.cls yX11_lots yX11_lots ∈ pq_G := ⟨pq_t6 238 rfl rfl, pq_t6 239 rfl rfl, pq_t7 0 rfl rfl⟩
set_option maxRecDepth 8000 in
theorem lv_L_128 : Cond.methodLink RL 128 yX10_list ∈ pq_G ∧ Cond.instanceMethod yX10_list ∈ pq_G ∧ Cond.selects yX10_list.cls yX10_list yX10_list ∈ pq_G := ⟨pq_t4 128 rfl rfl, pq_t4 129 rfl rfl, pq_t4 130 rfl rfl⟩
set_option maxRecDepth 8000 in
theorem lv_L_131 : Cond.methodLink RL 131 yX11_list ∈ pq_G ∧ Cond.instanceMethod yX11_list ∈ pq_G ∧ Cond.selects yX11_list.cls yX11_list yX11_list ∈ pq_G := ⟨pq_t7 9 rfl rfl, pq_t7 10 rfl rfl, pq_t7 11 rfl rfl⟩
set_option maxRecDepth 8000 in
theorem lv_L_132 : Cond.methodLink RL 132 yX10_put ∈ pq_G ∧ Cond.instanceMethod yX10_put ∈ pq_G ∧ Cond.selects yX10_put.cls yX10_put yX10_put ∈ pq_G := ⟨pq_t4 136 rfl rfl, pq_t4 137 rfl rfl, pq_t4 138 rfl rfl⟩
set_option maxRecDepth 8000 in
theorem lv_L_135 : Cond.methodLink RL 135 yX11_put ∈ pq_G ∧ Cond.instanceMethod yX11_put ∈ pq_G ∧ Cond.selects yX11_put.cls yX11_put yX11_put ∈ pq_G := ⟨pq_t7 13 rfl rfl, pq_t7 14 rfl rfl, pq_t7 15 rfl rfl⟩
set_option maxRecDepth 8000 in
theorem lv_L_136 : Cond.methodLink RL 136 yX10_look ∈ pq_G ∧ Cond.instanceMethod yX10_look ∈ pq_G ∧ Cond.selects yX10_look.cls yX10_look yX10_look ∈ pq_G := ⟨pq_t4 140 rfl rfl, pq_t4 141 rfl rfl, pq_t4 142 rfl rfl⟩
set_option maxRecDepth 8000 in
theorem lv_L_140 : Cond.methodLink RL 140 yX11_look ∈ pq_G ∧ Cond.instanceMethod yX11_look ∈ pq_G ∧ Cond.selects yX11_look.cls yX11_look yX11_look ∈ pq_G := ⟨pq_t7 21 rfl rfl, pq_t7 22 rfl rfl, pq_t7 23 rfl rfl⟩
set_option maxRecDepth 8000 in
theorem lv_L_141 : Cond.methodLink RL 141 yX10_lays ∈ pq_G ∧ Cond.instanceMethod yX10_lays ∈ pq_G ∧ Cond.selects yX10_lays.cls yX10_lays yX10_lays ∈ pq_G := ⟨pq_t4 144 rfl rfl, pq_t4 145 rfl rfl, pq_t4 146 rfl rfl⟩
set_option maxRecDepth 8000 in
theorem lv_L_144 : Cond.methodLink RL 144 yX11_lays ∈ pq_G ∧ Cond.instanceMethod yX11_lays ∈ pq_G ∧ Cond.selects yX11_lays.cls yX11_lays yX11_lays ∈ pq_G := ⟨pq_t7 25 rfl rfl, pq_t7 26 rfl rfl, pq_t7 27 rfl rfl⟩
set_option maxRecDepth 8000 in
theorem lv_L_145 : Cond.methodLink RL 145 yX10_judge ∈ pq_G ∧ Cond.instanceMethod yX10_judge ∈ pq_G ∧ Cond.selects yX10_judge.cls yX10_judge yX10_judge ∈ pq_G := ⟨pq_t4 148 rfl rfl, pq_t4 149 rfl rfl, pq_t4 150 rfl rfl⟩
set_option maxRecDepth 8000 in
theorem lv_L_148 : Cond.methodLink RL 148 yX11_judge ∈ pq_G ∧ Cond.instanceMethod yX11_judge ∈ pq_G ∧ Cond.selects yX11_judge.cls yX11_judge yX11_judge ∈ pq_G := ⟨pq_t7 29 rfl rfl, pq_t7 30 rfl rfl, pq_t7 31 rfl rfl⟩
set_option maxRecDepth 8000 in
theorem lv_L_149 : Cond.methodLink RL 149 yX10_undo ∈ pq_G ∧ Cond.instanceMethod yX10_undo ∈ pq_G ∧ Cond.selects yX10_undo.cls yX10_undo yX10_undo ∈ pq_G := ⟨pq_t4 152 rfl rfl, pq_t4 153 rfl rfl, pq_t4 154 rfl rfl⟩
set_option maxRecDepth 8000 in
theorem lv_L_152 : Cond.methodLink RL 152 yX11_undo ∈ pq_G ∧ Cond.instanceMethod yX11_undo ∈ pq_G ∧ Cond.selects yX11_undo.cls yX11_undo yX11_undo ∈ pq_G := ⟨pq_t5 93 rfl rfl, pq_t5 94 rfl rfl, pq_t5 95 rfl rfl⟩
set_option maxRecDepth 8000 in
theorem lv_L_153 : Cond.methodLink RL 153 yX10_image ∈ pq_G ∧ Cond.instanceMethod yX10_image ∈ pq_G ∧ Cond.selects yX10_image.cls yX10_image yX10_image ∈ pq_G := ⟨pq_t4 161 rfl rfl, pq_t4 162 rfl rfl, pq_t4 163 rfl rfl⟩
set_option maxRecDepth 8000 in
theorem lv_L_156 : Cond.methodLink RL 156 yX11_image ∈ pq_G ∧ Cond.instanceMethod yX11_image ∈ pq_G ∧ Cond.selects yX11_image.cls yX11_image yX11_image ∈ pq_G := ⟨pq_t7 33 rfl rfl, pq_t7 34 rfl rfl, pq_t7 35 rfl rfl⟩
set_option maxRecDepth 8000 in
theorem lv_L_157 : Cond.methodLink RL 157 yX10_back ∈ pq_G ∧ Cond.instanceMethod yX10_back ∈ pq_G ∧ Cond.selects yX10_back.cls yX10_back yX10_back ∈ pq_G := ⟨pq_t4 173 rfl rfl, pq_t4 174 rfl rfl, pq_t4 175 rfl rfl⟩
set_option maxRecDepth 8000 in
theorem lv_L_160 : Cond.methodLink RL 160 yX11_back ∈ pq_G ∧ Cond.instanceMethod yX11_back ∈ pq_G ∧ Cond.selects yX11_back.cls yX11_back yX11_back ∈ pq_G := ⟨pq_t7 45 rfl rfl, pq_t7 46 rfl rfl, pq_t7 47 rfl rfl⟩
set_option maxRecDepth 8000 in
theorem lv_L_161 : Cond.methodLink RL 161 yX10_count ∈ pq_G ∧ Cond.instanceMethod yX10_count ∈ pq_G ∧ Cond.selects yX10_count.cls yX10_count yX10_count ∈ pq_G := ⟨pq_t4 181 rfl rfl, pq_t4 182 rfl rfl, pq_t4 183 rfl rfl⟩
set_option maxRecDepth 8000 in
theorem lv_L_164 : Cond.methodLink RL 164 yX11_count ∈ pq_G ∧ Cond.instanceMethod yX11_count ∈ pq_G ∧ Cond.selects yX11_count.cls yX11_count yX11_count ∈ pq_G := ⟨pq_t7 49 rfl rfl, pq_t7 50 rfl rfl, pq_t7 51 rfl rfl⟩
set_option maxRecDepth 8000 in
theorem lv_X11_8 : Cond.methodLink RX11 8 yX11_no ∈ pq_G ∧ Cond.instanceMethod yX11_no ∈ pq_G ∧ Cond.selects yX11_no.cls yX11_no yX11_no ∈ pq_G := ⟨pq_t5 97 rfl rfl, pq_t5 99 rfl rfl, pq_t0 26 rfl rfl⟩
set_option maxRecDepth 8000 in
theorem lv_X11_14 : Cond.methodLink RX11 14 yX11_restOf ∈ pq_G ∧ Cond.static yX11_restOf ∈ pq_G := ⟨pq_t5 130 rfl rfl, pq_t5 131 rfl rfl⟩
set_option maxRecDepth 8000 in
theorem lv_X11_17 : Cond.methodLink RX11 17 yX11_powerIn ∈ pq_G ∧ Cond.static yX11_powerIn ∈ pq_G := ⟨pq_t5 127 rfl rfl, pq_t5 128 rfl rfl⟩
set_option maxRecDepth 8000 in
theorem lv_X11_98 : Cond.methodLink RX11 98 yX11_isIn ∈ pq_G ∧ Cond.static yX11_isIn ∈ pq_G := ⟨pq_t5 109 rfl rfl, pq_t5 110 rfl rfl⟩
set_option maxRecDepth 8000 in
theorem lv_X11_102 : Cond.methodLink RX11 102 yX11_termsOf ∈ pq_G ∧ Cond.static yX11_termsOf ∈ pq_G := ⟨pq_t5 120 rfl rfl, pq_t5 121 rfl rfl⟩
set_option maxRecDepth 8000 in
theorem lv_X11_105 : Cond.methodLink RX11 105 yX11_termOf ∈ pq_G ∧ Cond.static yX11_termOf ∈ pq_G := ⟨pq_t5 137 rfl rfl, pq_t5 138 rfl rfl⟩
set_option maxRecDepth 8000 in
theorem lv_X11_108 : Cond.methodLink RX11 108 yX11_toldAt ∈ pq_G ∧ Cond.instanceMethod yX11_toldAt ∈ pq_G ∧ Cond.selects yX11_toldAt.cls yX11_toldAt yX11_toldAt ∈ pq_G := ⟨pq_t5 133 rfl rfl, pq_t5 135 rfl rfl, pq_t0 31 rfl rfl⟩
set_option maxRecDepth 8000 in
theorem lv_X11_111 : Cond.methodLink RX11 111 yX11_isTerm ∈ pq_G ∧ Cond.instanceMethod yX11_isTerm ∈ pq_G ∧ Cond.selects yX11_isTerm.cls yX11_isTerm yX11_isTerm ∈ pq_G := ⟨pq_t5 116 rfl rfl, pq_t5 118 rfl rfl, pq_t0 29 rfl rfl⟩
set_option maxRecDepth 8000 in
theorem lv_X11_115 : Cond.methodLink RX11 115 yX11_coefficientOf ∈ pq_G ∧ Cond.instanceMethod yX11_coefficientOf ∈ pq_G ∧ Cond.selects yX11_coefficientOf.cls yX11_coefficientOf yX11_coefficientOf ∈ pq_G := ⟨pq_t5 123 rfl rfl, pq_t5 125 rfl rfl, pq_t0 30 rfl rfl⟩
set_option maxRecDepth 8000 in
theorem lv_X11_126 : Cond.methodLink RX11 126 yX11_canCome ∈ pq_G ∧ Cond.instanceMethod yX11_canCome ∈ pq_G ∧ Cond.selects yX11_canCome.cls yX11_canCome yX11_canCome ∈ pq_G := ⟨pq_t5 144 rfl rfl, pq_t5 146 rfl rfl, pq_t0 33 rfl rfl⟩
set_option maxRecDepth 8000 in
theorem lv_X11_130 : Cond.methodLink RX11 130 yX11_comes ∈ pq_G ∧ Cond.instanceMethod yX11_comes ∈ pq_G ∧ Cond.selects yX11_comes.cls yX11_comes yX11_comes ∈ pq_G := ⟨pq_t5 150 rfl rfl, pq_t5 152 rfl rfl, pq_t0 34 rfl rfl⟩
set_option maxRecDepth 8000 in
theorem lv_X11_133 : Cond.methodLink RX11 133 yX11_comesIf ∈ pq_G ∧ Cond.instanceMethod yX11_comesIf ∈ pq_G ∧ Cond.selects yX11_comesIf.cls yX11_comesIf yX11_comesIf ∈ pq_G := ⟨pq_t5 140 rfl rfl, pq_t5 142 rfl rfl, pq_t0 32 rfl rfl⟩
set_option maxRecDepth 8000 in
theorem lv_X11_136 : Cond.methodLink RX11 136 yX11_takes ∈ pq_G ∧ Cond.instanceMethod yX11_takes ∈ pq_G ∧ Cond.selects yX11_takes.cls yX11_takes yX11_takes ∈ pq_G := ⟨pq_t5 177 rfl rfl, pq_t5 179 rfl rfl, pq_t0 38 rfl rfl⟩
set_option maxRecDepth 8000 in
theorem lv_X11_140 : Cond.methodLink RX11 140 yX11_isOn ∈ pq_G ∧ Cond.static yX11_isOn ∈ pq_G := ⟨pq_t5 181 rfl rfl, pq_t5 182 rfl rfl⟩
set_option maxRecDepth 8000 in
theorem lv_X11_143 : Cond.methodLink RX11 143 yX11_isForm ∈ pq_G ∧ Cond.instanceMethod yX11_isForm ∈ pq_G ∧ Cond.selects yX11_isForm.cls yX11_isForm yX11_isForm ∈ pq_G := ⟨pq_t5 105 rfl rfl, pq_t5 107 rfl rfl, pq_t0 27 rfl rfl⟩
set_option maxRecDepth 8000 in
theorem lv_X11_146 : Cond.methodLink RX11 146 yX11_sums ∈ pq_G ∧ Cond.instanceMethod yX11_sums ∈ pq_G ∧ Cond.selects yX11_sums.cls yX11_sums yX11_sums ∈ pq_G := ⟨pq_t5 112 rfl rfl, pq_t5 114 rfl rfl, pq_t0 28 rfl rfl⟩
set_option maxRecDepth 8000 in
theorem lv_X11_149 : Cond.methodLink RX11 149 yX11_told ∈ pq_G ∧ Cond.instanceMethod yX11_told ∈ pq_G ∧ Cond.selects yX11_told.cls yX11_told yX11_told ∈ pq_G := ⟨pq_t5 154 rfl rfl, pq_t5 156 rfl rfl, pq_t0 35 rfl rfl⟩
set_option maxRecDepth 8000 in
theorem lv_X11_151 : Cond.methodLink RX11 151 yX11_multiplies ∈ pq_G ∧ Cond.instanceMethod yX11_multiplies ∈ pq_G ∧ Cond.selects yX11_multiplies.cls yX11_multiplies yX11_multiplies ∈ pq_G := ⟨pq_t5 162 rfl rfl, pq_t5 164 rfl rfl, pq_t0 36 rfl rfl⟩
set_option maxRecDepth 8000 in
theorem lv_X11_154 : Cond.methodLink RX11 154 yX11_bound ∈ pq_G ∧ Cond.static yX11_bound ∈ pq_G := ⟨pq_t5 170 rfl rfl, pq_t5 171 rfl rfl⟩
set_option maxRecDepth 8000 in
theorem lv_X11_157 : Cond.methodLink RX11 157 yX11_lifts ∈ pq_G ∧ Cond.instanceMethod yX11_lifts ∈ pq_G ∧ Cond.selects yX11_lifts.cls yX11_lifts yX11_lifts ∈ pq_G := ⟨pq_t5 173 rfl rfl, pq_t5 175 rfl rfl, pq_t0 37 rfl rfl⟩
set_option maxRecDepth 8000 in
theorem lv_X11_160 : Cond.methodLink RX11 160 yX11_turnsBelow ∈ pq_G ∧ Cond.instanceMethod yX11_turnsBelow ∈ pq_G ∧ Cond.selects yX11_turnsBelow.cls yX11_turnsBelow yX11_turnsBelow ∈ pq_G := ⟨pq_t5 192 rfl rfl, pq_t5 194 rfl rfl, pq_t0 40 rfl rfl⟩
set_option maxRecDepth 8000 in
theorem lv_X11_163 : Cond.methodLink RX11 163 yX11_isSide ∈ pq_G ∧ Cond.static yX11_isSide ∈ pq_G := ⟨pq_t5 200 rfl rfl, pq_t5 201 rfl rfl⟩
set_option maxRecDepth 8000 in
theorem lv_X11_166 : Cond.methodLink RX11 166 yX11_staysOn ∈ pq_G ∧ Cond.instanceMethod yX11_staysOn ∈ pq_G ∧ Cond.selects yX11_staysOn.cls yX11_staysOn yX11_staysOn ∈ pq_G := ⟨pq_t5 203 rfl rfl, pq_t5 205 rfl rfl, pq_t0 41 rfl rfl⟩
set_option maxRecDepth 8000 in
theorem lv_X11_175 : Cond.methodLink RX11 175 yX11_next ∈ pq_G ∧ Cond.instanceMethod yX11_next ∈ pq_G ∧ Cond.selects yX11_next.cls yX11_next yX11_next ∈ pq_G := ⟨pq_t5 219 rfl rfl, pq_t5 221 rfl rfl, pq_t0 43 rfl rfl⟩
set_option maxRecDepth 8000 in
theorem lv_X11_179 : Cond.methodLink RX11 179 yX11_isDigit ∈ pq_G ∧ Cond.instanceMethod yX11_isDigit ∈ pq_G ∧ Cond.selects yX11_isDigit.cls yX11_isDigit yX11_isDigit ∈ pq_G := ⟨pq_t5 227 rfl rfl, pq_t5 229 rfl rfl, pq_t0 45 rfl rfl⟩
set_option maxRecDepth 8000 in
theorem lv_X11_183 : Cond.methodLink RX11 183 yX11_readsPower ∈ pq_G ∧ Cond.instanceMethod yX11_readsPower ∈ pq_G ∧ Cond.selects yX11_readsPower.cls yX11_readsPower yX11_readsPower ∈ pq_G := ⟨pq_t5 231 rfl rfl, pq_t5 233 rfl rfl, pq_t0 46 rfl rfl⟩
set_option maxRecDepth 8000 in
theorem lv_X11_186 : Cond.methodLink RX11 186 yX11_readsMember ∈ pq_G ∧ Cond.instanceMethod yX11_readsMember ∈ pq_G ∧ Cond.selects yX11_readsMember.cls yX11_readsMember yX11_readsMember ∈ pq_G := ⟨pq_t5 223 rfl rfl, pq_t5 225 rfl rfl, pq_t0 44 rfl rfl⟩
set_option maxRecDepth 8000 in
theorem lv_X11_190 : Cond.methodLink RX11 190 yX11_readsForm ∈ pq_G ∧ Cond.instanceMethod yX11_readsForm ∈ pq_G ∧ Cond.selects yX11_readsForm.cls yX11_readsForm yX11_readsForm ∈ pq_G := ⟨pq_t5 215 rfl rfl, pq_t5 217 rfl rfl, pq_t0 42 rfl rfl⟩
set_option maxRecDepth 8000 in
theorem lv_X11_193 : Cond.methodLink RX11 193 yX11_isWord ∈ pq_G ∧ Cond.instanceMethod yX11_isWord ∈ pq_G ∧ Cond.selects yX11_isWord.cls yX11_isWord yX11_isWord ∈ pq_G := ⟨pq_t6 11 rfl rfl, pq_t6 13 rfl rfl, pq_t0 50 rfl rfl⟩
set_option maxRecDepth 8000 in
theorem lv_X11_197 : Cond.methodLink RX11 197 yX11_readsWord ∈ pq_G ∧ Cond.instanceMethod yX11_readsWord ∈ pq_G ∧ Cond.selects yX11_readsWord.cls yX11_readsWord yX11_readsWord ∈ pq_G := ⟨pq_t6 7 rfl rfl, pq_t6 9 rfl rfl, pq_t0 49 rfl rfl⟩
set_option maxRecDepth 8000 in
theorem lv_X11_200 : Cond.methodLink RX11 200 yX11_readsNumber ∈ pq_G ∧ Cond.instanceMethod yX11_readsNumber ∈ pq_G ∧ Cond.selects yX11_readsNumber.cls yX11_readsNumber yX11_readsNumber ∈ pq_G := ⟨pq_t6 15 rfl rfl, pq_t6 17 rfl rfl, pq_t0 51 rfl rfl⟩
set_option maxRecDepth 8000 in
theorem lv_X11_206 : Cond.methodLink RX11 206 yX11_readsAct ∈ pq_G ∧ Cond.instanceMethod yX11_readsAct ∈ pq_G ∧ Cond.selects yX11_readsAct.cls yX11_readsAct yX11_readsAct ∈ pq_G := ⟨pq_t6 3 rfl rfl, pq_t6 5 rfl rfl, pq_t0 48 rfl rfl⟩
set_option maxRecDepth 8000 in
theorem lv_X11_209 : Cond.methodLink RX11 209 yX11_readsActs ∈ pq_G ∧ Cond.instanceMethod yX11_readsActs ∈ pq_G ∧ Cond.selects yX11_readsActs.cls yX11_readsActs yX11_readsActs ∈ pq_G := ⟨pq_t5 239 rfl rfl, pq_t6 1 rfl rfl, pq_t0 47 rfl rfl⟩
set_option maxRecDepth 8000 in
theorem lv_X11_212 : Cond.methodLink RX11 212 yX11_does ∈ pq_G ∧ Cond.instanceMethod yX11_does ∈ pq_G ∧ Cond.selects yX11_does.cls yX11_does yX11_does ∈ pq_G := ⟨pq_t6 19 rfl rfl, pq_t6 21 rfl rfl, pq_t0 52 rfl rfl⟩
set_option maxRecDepth 8000 in
theorem lv_X11_217 : Cond.methodLink RX11 217 yX11_far ∈ pq_G ∧ Cond.instanceMethod yX11_far ∈ pq_G ∧ Cond.selects yX11_far.cls yX11_far yX11_far ∈ pq_G := ⟨pq_t6 33 rfl rfl, pq_t6 35 rfl rfl, pq_t0 53 rfl rfl⟩
set_option maxRecDepth 8000 in
theorem lv_X11_220 : Cond.methodLink RX11 220 yX11_notes ∈ pq_G ∧ Cond.instanceMethod yX11_notes ∈ pq_G ∧ Cond.selects yX11_notes.cls yX11_notes yX11_notes ∈ pq_G := ⟨pq_t6 38 rfl rfl, pq_t6 40 rfl rfl, pq_t0 54 rfl rfl⟩
set_option maxRecDepth 8000 in
theorem lv_X11_224 : Cond.methodLink RX11 224 yX11_many ∈ pq_G ∧ Cond.instanceMethod yX11_many ∈ pq_G ∧ Cond.selects yX11_many.cls yX11_many yX11_many ∈ pq_G := ⟨pq_t6 50 rfl rfl, pq_t6 52 rfl rfl, pq_t0 55 rfl rfl⟩
set_option maxRecDepth 8000 in
theorem lv_X11_227 : Cond.methodLink RX11 227 yX11_power ∈ pq_G ∧ Cond.static yX11_power ∈ pq_G := ⟨pq_t6 75 rfl rfl, pq_t6 76 rfl rfl⟩
set_option maxRecDepth 8000 in
theorem lv_X11_231 : Cond.methodLink RX11 231 yX11_lower ∈ pq_G ∧ Cond.instanceMethod yX11_lower ∈ pq_G ∧ Cond.selects yX11_lower.cls yX11_lower yX11_lower ∈ pq_G := ⟨pq_t6 66 rfl rfl, pq_t6 68 rfl rfl, pq_t0 56 rfl rfl⟩
set_option maxRecDepth 8000 in
theorem lv_X11_235 : Cond.methodLink RX11 235 yX11_valueAt ∈ pq_G ∧ Cond.instanceMethod yX11_valueAt ∈ pq_G ∧ Cond.selects yX11_valueAt.cls yX11_valueAt yX11_valueAt ∈ pq_G := ⟨pq_t6 71 rfl rfl, pq_t6 73 rfl rfl, pq_t0 57 rfl rfl⟩
set_option maxRecDepth 8000 in
theorem lv_X11_242 : Cond.methodLink RX11 242 yX11_rises ∈ pq_G ∧ Cond.instanceMethod yX11_rises ∈ pq_G ∧ Cond.selects yX11_rises.cls yX11_rises yX11_rises ∈ pq_G := ⟨pq_t5 184 rfl rfl, pq_t5 186 rfl rfl, pq_t0 39 rfl rfl⟩
set_option maxRecDepth 8000 in
theorem lv_X11_246 : Cond.methodLink RX11 246 yX11_notSide ∈ pq_G ∧ Cond.instanceMethod yX11_notSide ∈ pq_G ∧ Cond.selects yX11_notSide.cls yX11_notSide yX11_notSide ∈ pq_G := ⟨pq_t6 82 rfl rfl, pq_t6 84 rfl rfl, pq_t0 58 rfl rfl⟩
set_option maxRecDepth 8000 in
theorem lv_X11_249 : Cond.methodLink RX11 249 yX11_isSort ∈ pq_G ∧ Cond.static yX11_isSort ∈ pq_G := ⟨pq_t6 90 rfl rfl, pq_t6 91 rfl rfl⟩
set_option maxRecDepth 8000 in
theorem lv_X11_252 : Cond.methodLink RX11 252 yX11_firstFault ∈ pq_G ∧ Cond.instanceMethod yX11_firstFault ∈ pq_G ∧ Cond.selects yX11_firstFault.cls yX11_firstFault yX11_firstFault ∈ pq_G := ⟨pq_t6 93 rfl rfl, pq_t6 95 rfl rfl, pq_t0 59 rfl rfl⟩
set_option maxRecDepth 8000 in
theorem lv_X11_255 : Cond.methodLink RX11 255 yX11_leastOf ∈ pq_G ∧ Cond.instanceMethod yX11_leastOf ∈ pq_G ∧ Cond.selects yX11_leastOf.cls yX11_leastOf yX11_leastOf ∈ pq_G := ⟨pq_t6 101 rfl rfl, pq_t6 103 rfl rfl, pq_t0 60 rfl rfl⟩
set_option maxRecDepth 8000 in
theorem lv_X11_273 : Cond.methodLink RX11 273 yX11_firstPoint ∈ pq_G ∧ Cond.instanceMethod yX11_firstPoint ∈ pq_G ∧ Cond.selects yX11_firstPoint.cls yX11_firstPoint yX11_firstPoint ∈ pq_G := ⟨pq_t6 117 rfl rfl, pq_t6 119 rfl rfl, pq_t0 63 rfl rfl⟩
set_option maxRecDepth 8000 in
theorem lv_X11_276 : Cond.methodLink RX11 276 yX11_isPointOn ∈ pq_G ∧ Cond.instanceMethod yX11_isPointOn ∈ pq_G ∧ Cond.selects yX11_isPointOn.cls yX11_isPointOn yX11_isPointOn ∈ pq_G := ⟨pq_t6 121 rfl rfl, pq_t6 123 rfl rfl, pq_t0 64 rfl rfl⟩
set_option maxRecDepth 8000 in
theorem lv_X11_286 : Cond.methodLink RX11 286 yX11_nextPoint ∈ pq_G ∧ Cond.instanceMethod yX11_nextPoint ∈ pq_G ∧ Cond.selects yX11_nextPoint.cls yX11_nextPoint yX11_nextPoint ∈ pq_G := ⟨pq_t6 125 rfl rfl, pq_t6 127 rfl rfl, pq_t0 65 rfl rfl⟩
set_option maxRecDepth 8000 in
theorem lv_X11_289 : Cond.methodLink RX11 289 yX11_looks ∈ pq_G ∧ Cond.instanceMethod yX11_looks ∈ pq_G ∧ Cond.selects yX11_looks.cls yX11_looks yX11_looks ∈ pq_G := ⟨pq_t6 113 rfl rfl, pq_t6 115 rfl rfl, pq_t0 62 rfl rfl⟩
set_option maxRecDepth 8000 in
theorem lv_X11_293 : Cond.methodLink RX11 293 yX11_failsAt ∈ pq_G ∧ Cond.instanceMethod yX11_failsAt ∈ pq_G ∧ Cond.selects yX11_failsAt.cls yX11_failsAt yX11_failsAt ∈ pq_G := ⟨pq_t6 109 rfl rfl, pq_t6 111 rfl rfl, pq_t0 61 rfl rfl⟩
set_option maxRecDepth 8000 in
theorem lv_X11_296 : Cond.methodLink RX11 296 yX11_notLooked ∈ pq_G ∧ Cond.instanceMethod yX11_notLooked ∈ pq_G ∧ Cond.selects yX11_notLooked.cls yX11_notLooked yX11_notLooked ∈ pq_G := ⟨pq_t6 133 rfl rfl, pq_t6 135 rfl rfl, pq_t0 66 rfl rfl⟩
set_option maxRecDepth 8000 in
theorem lv_X11_299 : Cond.methodLink RX11 299 yX11_divisor ∈ pq_G ∧ Cond.static yX11_divisor ∈ pq_G := ⟨pq_t6 144 rfl rfl, pq_t6 145 rfl rfl⟩
set_option maxRecDepth 8000 in
theorem lv_X11_303 : Cond.methodLink RX11 303 yX11_partOf ∈ pq_G ∧ Cond.static yX11_partOf ∈ pq_G := ⟨pq_t6 141 rfl rfl, pq_t6 142 rfl rfl⟩
set_option maxRecDepth 8000 in
theorem lv_X11_307 : Cond.methodLink RX11 307 yX11_ways ∈ pq_G ∧ Cond.static yX11_ways ∈ pq_G := ⟨pq_t6 167 rfl rfl, pq_t6 168 rfl rfl⟩
set_option maxRecDepth 8000 in
theorem lv_X11_310 : Cond.methodLink RX11 310 yX11_isList ∈ pq_G ∧ Cond.static yX11_isList ∈ pq_G := ⟨pq_t6 155 rfl rfl, pq_t6 156 rfl rfl⟩
set_option maxRecDepth 8000 in
theorem lv_X11_315 : Cond.methodLink RX11 315 yX11_isTold ∈ pq_G ∧ Cond.instanceMethod yX11_isTold ∈ pq_G ∧ Cond.selects yX11_isTold.cls yX11_isTold yX11_isTold ∈ pq_G := ⟨pq_t6 159 rfl rfl, pq_t6 161 rfl rfl, pq_t0 67 rfl rfl⟩
set_option maxRecDepth 8000 in
theorem lv_X11_318 : Cond.methodLink RX11 318 yX11_wallOf ∈ pq_G ∧ Cond.instanceMethod yX11_wallOf ∈ pq_G ∧ Cond.selects yX11_wallOf.cls yX11_wallOf yX11_wallOf ∈ pq_G := ⟨pq_t6 163 rfl rfl, pq_t6 165 rfl rfl, pq_t0 68 rfl rfl⟩
set_option maxRecDepth 8000 in
theorem lv_X11_322 : Cond.methodLink RX11 322 yX11_at ∈ pq_G ∧ Cond.instanceMethod yX11_at ∈ pq_G ∧ Cond.selects yX11_at.cls yX11_at yX11_at ∈ pq_G := ⟨pq_t6 206 rfl rfl, pq_t6 208 rfl rfl, pq_t0 76 rfl rfl⟩
set_option maxRecDepth 8000 in
theorem lv_X11_330 : Cond.methodLink RX11 330 yX11_two ∈ pq_G ∧ Cond.instanceMethod yX11_two ∈ pq_G ∧ Cond.selects yX11_two.cls yX11_two yX11_two ∈ pq_G := ⟨pq_t6 210 rfl rfl, pq_t6 212 rfl rfl, pq_t0 77 rfl rfl⟩
set_option maxRecDepth 8000 in
theorem lv_X11_336 : Cond.methodLink RX11 336 yX11_minor ∈ pq_G ∧ Cond.instanceMethod yX11_minor ∈ pq_G ∧ Cond.selects yX11_minor.cls yX11_minor yX11_minor ∈ pq_G := ⟨pq_t6 202 rfl rfl, pq_t6 204 rfl rfl, pq_t0 75 rfl rfl⟩
set_option maxRecDepth 8000 in
theorem lv_X11_342 : Cond.methodLink RX11 342 yX11_findsRows ∈ pq_G ∧ Cond.instanceMethod yX11_findsRows ∈ pq_G ∧ Cond.selects yX11_findsRows.cls yX11_findsRows yX11_findsRows ∈ pq_G := ⟨pq_t6 198 rfl rfl, pq_t6 200 rfl rfl, pq_t0 74 rfl rfl⟩
set_option maxRecDepth 8000 in
theorem lv_X11_346 : Cond.methodLink RX11 346 yX11_laysColumn ∈ pq_G ∧ Cond.instanceMethod yX11_laysColumn ∈ pq_G ∧ Cond.selects yX11_laysColumn.cls yX11_laysColumn yX11_laysColumn ∈ pq_G := ⟨pq_t6 190 rfl rfl, pq_t6 192 rfl rfl, pq_t0 72 rfl rfl⟩
set_option maxRecDepth 8000 in
theorem lv_X11_349 : Cond.methodLink RX11 349 yX11_isNew ∈ pq_G ∧ Cond.instanceMethod yX11_isNew ∈ pq_G ∧ Cond.selects yX11_isNew.cls yX11_isNew yX11_isNew ∈ pq_G := ⟨pq_t6 194 rfl rfl, pq_t6 196 rfl rfl, pq_t0 73 rfl rfl⟩
set_option maxRecDepth 8000 in
theorem lv_X11_352 : Cond.methodLink RX11 352 yX11_upOf ∈ pq_G ∧ Cond.instanceMethod yX11_upOf ∈ pq_G ∧ Cond.selects yX11_upOf.cls yX11_upOf yX11_upOf ∈ pq_G := ⟨pq_t6 218 rfl rfl, pq_t6 220 rfl rfl, pq_t0 79 rfl rfl⟩
set_option maxRecDepth 8000 in
theorem lv_X11_355 : Cond.methodLink RX11 355 yX11_isSmall ∈ pq_G ∧ Cond.instanceMethod yX11_isSmall ∈ pq_G ∧ Cond.selects yX11_isSmall.cls yX11_isSmall yX11_isSmall ∈ pq_G := ⟨pq_t6 182 rfl rfl, pq_t6 184 rfl rfl, pq_t0 70 rfl rfl⟩
set_option maxRecDepth 8000 in
theorem lv_X11_358 : Cond.methodLink RX11 358 yX11_isSetOf ∈ pq_G ∧ Cond.instanceMethod yX11_isSetOf ∈ pq_G ∧ Cond.selects yX11_isSetOf.cls yX11_isSetOf yX11_isSetOf ∈ pq_G := ⟨pq_t6 178 rfl rfl, pq_t6 180 rfl rfl, pq_t0 69 rfl rfl⟩
set_option maxRecDepth 8000 in
theorem lv_X11_361 : Cond.methodLink RX11 361 yX11_fillsColumns ∈ pq_G ∧ Cond.instanceMethod yX11_fillsColumns ∈ pq_G ∧ Cond.selects yX11_fillsColumns.cls yX11_fillsColumns yX11_fillsColumns ∈ pq_G := ⟨pq_t6 186 rfl rfl, pq_t6 188 rfl rfl, pq_t0 71 rfl rfl⟩
set_option maxRecDepth 8000 in
theorem lv_X11_364 : Cond.methodLink RX11 364 yX11_isMade ∈ pq_G ∧ Cond.instanceMethod yX11_isMade ∈ pq_G ∧ Cond.selects yX11_isMade.cls yX11_isMade yX11_isMade ∈ pq_G := ⟨pq_t6 214 rfl rfl, pq_t6 216 rfl rfl, pq_t0 78 rfl rfl⟩
set_option maxRecDepth 8000 in
theorem lv_X11_370 : Cond.methodLink RX11 370 yX11_puts ∈ pq_G ∧ Cond.instanceMethod yX11_puts ∈ pq_G ∧ Cond.selects yX11_puts.cls yX11_puts yX11_puts ∈ pq_G := ⟨pq_t6 230 rfl rfl, pq_t6 232 rfl rfl, pq_t0 81 rfl rfl⟩
set_option maxRecDepth 8000 in
theorem lv_X11_373 : Cond.methodLink RX11 373 yX11_putsNumber ∈ pq_G ∧ Cond.instanceMethod yX11_putsNumber ∈ pq_G ∧ Cond.selects yX11_putsNumber.cls yX11_putsNumber yX11_putsNumber ∈ pq_G := ⟨pq_t6 234 rfl rfl, pq_t6 236 rfl rfl, pq_t0 82 rfl rfl⟩
set_option maxRecDepth 8000 in
theorem lv_X11_376 : Cond.methodLink RX11 376 yX11_spells ∈ pq_G ∧ Cond.instanceMethod yX11_spells ∈ pq_G ∧ Cond.selects yX11_spells.cls yX11_spells yX11_spells ∈ pq_G := ⟨pq_t6 226 rfl rfl, pq_t6 228 rfl rfl, pq_t0 80 rfl rfl⟩
set_option maxRecDepth 8000 in
theorem lv_X11_385 : Cond.methodLink RX11 385 yX11_draw ∈ pq_G ∧ Cond.instanceMethod yX11_draw ∈ pq_G ∧ Cond.selects yX11_draw.cls yX11_draw yX11_draw ∈ pq_G := ⟨pq_t7 2 rfl rfl, pq_t7 4 rfl rfl, pq_t0 83 rfl rfl⟩
set_option maxRecDepth 8000 in
theorem lv_X11_388 : Cond.methodLink RX11 388 yX11_notPlace ∈ pq_G ∧ Cond.instanceMethod yX11_notPlace ∈ pq_G ∧ Cond.selects yX11_notPlace.cls yX11_notPlace yX11_notPlace ∈ pq_G := ⟨pq_t7 17 rfl rfl, pq_t7 19 rfl rfl, pq_t0 84 rfl rfl⟩
set_option maxRecDepth 8000 in
theorem lv_X11_398 : Cond.methodLink RX11 398 yX11_passOne ∈ pq_G ∧ Cond.instanceMethod yX11_passOne ∈ pq_G ∧ Cond.selects yX11_passOne.cls yX11_passOne yX11_passOne ∈ pq_G := ⟨pq_t7 41 rfl rfl, pq_t7 43 rfl rfl, pq_t0 86 rfl rfl⟩
set_option maxRecDepth 8000 in
theorem lv_X11_401 : Cond.methodLink RX11 401 yX11_passesAll ∈ pq_G ∧ Cond.instanceMethod yX11_passesAll ∈ pq_G ∧ Cond.selects yX11_passesAll.cls yX11_passesAll yX11_passesAll ∈ pq_G := ⟨pq_t7 37 rfl rfl, pq_t7 39 rfl rfl, pq_t0 85 rfl rfl⟩
set_option maxRecDepth 8000 in
theorem lv_X11_405 : Cond.methodLink RX11 405 yX11_allTerms ∈ pq_G ∧ Cond.instanceMethod yX11_allTerms ∈ pq_G ∧ Cond.selects yX11_allTerms.cls yX11_allTerms yX11_allTerms ∈ pq_G := ⟨pq_t7 53 rfl rfl, pq_t7 55 rfl rfl, pq_t0 87 rfl rfl⟩
set_option maxRecDepth 8000 in
theorem lv_X11_408 : Cond.methodLink RX11 408 yX11_clearOnes ∈ pq_G ∧ Cond.instanceMethod yX11_clearOnes ∈ pq_G ∧ Cond.selects yX11_clearOnes.cls yX11_clearOnes yX11_clearOnes ∈ pq_G := ⟨pq_t7 57 rfl rfl, pq_t7 59 rfl rfl, pq_t0 88 rfl rfl⟩
set_option maxRecDepth 8000 in
theorem lb_X10_refuse : pq_LB yX10_refuse cX10_refuse 2 (some .int) 1 := ⟨pq_t1 1 rfl rfl, pq_t2 56 rfl rfl, by decide +kernel, by decide +kernel, by decide +kernel⟩
set_option maxRecDepth 8000 in
theorem lb_X3_add : pq_LB yX3_add cX3_add 2 none 1 := ⟨pq_t1 5 rfl rfl, pq_t2 60 rfl rfl, by decide +kernel, by decide +kernel, by decide +kernel⟩
set_option maxRecDepth 8000 in
theorem lb_X6_isFull : pq_LB yX6_isFull cX6_isFull 1 (some .boolean) 0 := ⟨pq_t1 2 rfl rfl, pq_t2 68 rfl rfl, by decide +kernel, by decide +kernel, by decide +kernel⟩
set_option maxRecDepth 8000 in
theorem lb_X2_read : pq_LB yX2_read cX2_read 6 (some .int) 2 := ⟨pq_t1 6 rfl rfl, pq_t2 72 rfl rfl, by decide +kernel, by decide +kernel, by decide +kernel⟩
set_option maxRecDepth 8000 in
theorem lb_X10_cameOr : pq_LB yX10_cameOr cX10_cameOr 2 (some .int) 1 := ⟨pq_t1 1 rfl rfl, pq_t2 111 rfl rfl, by decide +kernel, by decide +kernel, by decide +kernel⟩
set_option maxRecDepth 8000 in
theorem lb_X0_read : pq_LB yX0_read cX0_read 2 (some .int) 1 := ⟨pq_t1 7 rfl rfl, pq_t2 119 rfl rfl, by decide +kernel, by decide +kernel, by decide +kernel⟩
set_option maxRecDepth 8000 in
theorem lb_X6_perform : pq_LB yX6_perform cX6_perform 4 (some .int) 1 := ⟨pq_t1 2 rfl rfl, pq_t2 202 rfl rfl, by decide +kernel, by decide +kernel, by decide +kernel⟩
set_option maxRecDepth 8000 in
theorem lb_X6_lacks : pq_LB yX6_lacks cX6_lacks 2 (some .boolean) 1 := ⟨pq_t1 2 rfl rfl, pq_t2 210 rfl rfl, by decide +kernel, by decide +kernel, by decide +kernel⟩
set_option maxRecDepth 8000 in
theorem lb_X10_lacksTerm : pq_LB yX10_lacksTerm cX10_lacksTerm 3 (some .boolean) 2 := ⟨pq_t1 1 rfl rfl, pq_t3 60 rfl rfl, by decide +kernel, by decide +kernel, by decide +kernel⟩
set_option maxRecDepth 8000 in
theorem lb_X10_refuseFarInt : pq_LB yX10_refuseFarInt cX10_refuseFarInt 2 (some .int) 1 := ⟨pq_t1 1 rfl rfl, pq_t3 66 rfl rfl, by decide +kernel, by decide +kernel, by decide +kernel⟩
set_option maxRecDepth 8000 in
theorem lb_X8_add : pq_LB yX8_add cX8_add 5 none 4 := ⟨pq_t1 10 rfl rfl, pq_t3 73 rfl rfl, by decide +kernel, by decide +kernel, by decide +kernel⟩
set_option maxRecDepth 8000 in
theorem lb_X10_notBelow : pq_LB yX10_notBelow cX10_notBelow 2 (some .boolean) 2 := ⟨pq_t1 1 rfl rfl, pq_t2 83 rfl rfl, by decide +kernel, by decide +kernel, by decide +kernel⟩
set_option maxRecDepth 8000 in
theorem lb_X10_termsOf : pq_LB yX10_termsOf cX10_termsOf 1 (some .int) 1 := ⟨pq_t1 1 rfl rfl, pq_t2 231 rfl rfl, by decide +kernel, by decide +kernel, by decide +kernel⟩
set_option maxRecDepth 8000 in
theorem lb_X1_howMany : pq_LB yX1_howMany cX1_howMany 5 (some .int) 1 := ⟨pq_t1 4 rfl rfl, pq_t3 88 rfl rfl, by decide +kernel, by decide +kernel, by decide +kernel⟩
set_option maxRecDepth 8000 in
theorem lb_X10_isUnder : pq_LB yX10_isUnder cX10_isUnder 4 (some .boolean) 2 := ⟨pq_t1 1 rfl rfl, pq_t3 97 rfl rfl, by decide +kernel, by decide +kernel, by decide +kernel⟩
set_option maxRecDepth 8000 in
theorem lb_X1_at : pq_LB yX1_at cX1_at 4 (some .int) 1 := ⟨pq_t1 4 rfl rfl, pq_t2 235 rfl rfl, by decide +kernel, by decide +kernel, by decide +kernel⟩
set_option maxRecDepth 8000 in
theorem lb_X10_refuseFar : pq_LB yX10_refuseFar cX10_refuseFar 2 (some .long) 1 := ⟨pq_t1 1 rfl rfl, pq_t3 112 rfl rfl, by decide +kernel, by decide +kernel, by decide +kernel⟩
set_option maxRecDepth 8000 in
theorem lb_X10_workOn : pq_LB yX10_workOn cX10_workOn 3 (some (.object "FormsAboveNought$Work")) 2 := ⟨pq_t1 1 rfl rfl, pq_t3 117 rfl rfl, by decide +kernel, by decide +kernel, by decide +kernel⟩
set_option maxRecDepth 8000 in
theorem lb_X9_worth : pq_LB yX9_worth cX9_worth 13 (some .long) 3 := ⟨pq_t1 3 rfl rfl, pq_t3 122 rfl rfl, by decide +kernel, by decide +kernel, by decide +kernel⟩
set_option maxRecDepth 8000 in
theorem lb_X10_isSide : pq_LB yX10_isSide cX10_isSide 1 (some .boolean) 1 := ⟨pq_t1 1 rfl rfl, pq_t3 42 rfl rfl, by decide +kernel, by decide +kernel, by decide +kernel⟩
set_option maxRecDepth 8000 in
theorem lb_X10_placesOn : pq_LB yX10_placesOn cX10_placesOn 3 (some .int) 2 := ⟨pq_t1 1 rfl rfl, pq_t3 130 rfl rfl, by decide +kernel, by decide +kernel, by decide +kernel⟩
set_option maxRecDepth 8000 in
theorem lb_X9_raise : pq_LB yX9_raise cX9_raise 4 none 2 := ⟨pq_t1 3 rfl rfl, pq_t3 31 rfl rfl, by decide +kernel, by decide +kernel, by decide +kernel⟩
set_option maxRecDepth 8000 in
theorem lb_X9_among : pq_LB yX9_among cX9_among 3 (some .long) 2 := ⟨pq_t1 3 rfl rfl, pq_t3 141 rfl rfl, by decide +kernel, by decide +kernel, by decide +kernel⟩
set_option maxRecDepth 8000 in
theorem lb_X9_firstFault : pq_LB yX9_firstFault cX9_firstFault 4 (some .int) 2 := ⟨pq_t1 3 rfl rfl, pq_t3 152 rfl rfl, by decide +kernel, by decide +kernel, by decide +kernel⟩
set_option maxRecDepth 8000 in
theorem lb_X9_leastLift : pq_LB yX9_leastLift cX9_leastLift 4 (some .int) 2 := ⟨pq_t1 3 rfl rfl, pq_t3 165 rfl rfl, by decide +kernel, by decide +kernel, by decide +kernel⟩
set_option maxRecDepth 8000 in
theorem lb_X9_failingSize : pq_LB yX9_failingSize cX9_failingSize 4 (some .int) 2 := ⟨pq_t1 3 rfl rfl, pq_t3 174 rfl rfl, by decide +kernel, by decide +kernel, by decide +kernel⟩
set_option maxRecDepth 8000 in
theorem lb_X9_failingPoint : pq_LB yX9_failingPoint cX9_failingPoint 5 (some .int) 3 := ⟨pq_t1 3 rfl rfl, pq_t3 178 rfl rfl, by decide +kernel, by decide +kernel, by decide +kernel⟩
set_option maxRecDepth 8000 in
theorem lb_X10_pointsRefused : pq_LB yX10_pointsRefused cX10_pointsRefused 5 (some .int) 4 := ⟨pq_t1 1 rfl rfl, pq_t3 193 rfl rfl, by decide +kernel, by decide +kernel, by decide +kernel⟩
set_option maxRecDepth 8000 in
theorem lb_X9_lowestPoint : pq_LB yX9_lowestPoint cX9_lowestPoint 9 (some .int) 2 := ⟨pq_t1 3 rfl rfl, pq_t3 197 rfl rfl, by decide +kernel, by decide +kernel, by decide +kernel⟩
set_option maxRecDepth 8000 in
theorem lb_X9_worthAt : pq_LB yX9_worthAt cX9_worthAt 7 (some .long) 3 := ⟨pq_t1 3 rfl rfl, pq_t3 182 rfl rfl, by decide +kernel, by decide +kernel, by decide +kernel⟩
set_option maxRecDepth 8000 in
theorem lb_X9_pointsAbove : pq_LB yX9_pointsAbove cX9_pointsAbove 5 (some .int) 2 := ⟨pq_t1 3 rfl rfl, pq_t3 206 rfl rfl, by decide +kernel, by decide +kernel, by decide +kernel⟩
set_option maxRecDepth 8000 in
theorem lb_X10_partOf : pq_LB yX10_partOf cX10_partOf 7 (some .long) 3 := ⟨pq_t1 1 rfl rfl, pq_t3 209 rfl rfl, by decide +kernel, by decide +kernel, by decide +kernel⟩
set_option maxRecDepth 8000 in
theorem lb_X4_misses : pq_LB yX4_misses cX4_misses 2 (some .boolean) 1 := ⟨pq_t1 11 rfl rfl, pq_t3 227 rfl rfl, by decide +kernel, by decide +kernel, by decide +kernel⟩
set_option maxRecDepth 8000 in
theorem lb_X4_isPolynomial : pq_LB yX4_isPolynomial cX4_isPolynomial 3 (some .boolean) 1 := ⟨pq_t1 11 rfl rfl, pq_t3 231 rfl rfl, by decide +kernel, by decide +kernel, by decide +kernel⟩
set_option maxRecDepth 8000 in
theorem lb_X4_wall : pq_LB yX4_wall cX4_wall 7 (some .long) 3 := ⟨pq_t1 11 rfl rfl, pq_t3 237 rfl rfl, by decide +kernel, by decide +kernel, by decide +kernel⟩
set_option maxRecDepth 8000 in
theorem lb_X4_wallsClear : pq_LB yX4_wallsClear cX4_wallsClear 5 (some .boolean) 3 := ⟨pq_t1 11 rfl rfl, pq_t4 11 rfl rfl, by decide +kernel, by decide +kernel, by decide +kernel⟩
set_option maxRecDepth 8000 in
theorem lb_X6_lacksOf : pq_LB yX6_lacksOf cX6_lacksOf 2 (some .boolean) 1 := ⟨pq_t1 2 rfl rfl, pq_t4 21 rfl rfl, by decide +kernel, by decide +kernel, by decide +kernel⟩
set_option maxRecDepth 8000 in
theorem lb_X6_canMake : pq_LB yX6_canMake cX6_canMake 4 (some .boolean) 2 := ⟨pq_t1 2 rfl rfl, pq_t4 25 rfl rfl, by decide +kernel, by decide +kernel, by decide +kernel⟩
set_option maxRecDepth 8000 in
theorem lb_X5_makes : pq_LB yX5_makes cX5_makes 6 (some .boolean) 3 := ⟨pq_t1 9 rfl rfl, pq_t4 36 rfl rfl, by decide +kernel, by decide +kernel, by decide +kernel⟩
set_option maxRecDepth 8000 in
theorem lb_X5_fraction : pq_LB yX5_fraction cX5_fraction 6 (some .long) 3 := ⟨pq_t1 9 rfl rfl, pq_t4 58 rfl rfl, by decide +kernel, by decide +kernel, by decide +kernel⟩
set_option maxRecDepth 8000 in
theorem lb_X6_bringSum : pq_LB yX6_bringSum cX6_bringSum 4 (some .boolean) 2 := ⟨pq_t1 2 rfl rfl, pq_t2 215 rfl rfl, by decide +kernel, by decide +kernel, by decide +kernel⟩
set_option maxRecDepth 8000 in
theorem lb_X6_bringProduct : pq_LB yX6_bringProduct cX6_bringProduct 7 (some .boolean) 2 := ⟨pq_t1 2 rfl rfl, pq_t3 12 rfl rfl, by decide +kernel, by decide +kernel, by decide +kernel⟩
set_option maxRecDepth 8000 in
theorem lb_X6_bringLift : pq_LB yX6_bringLift cX6_bringLift 3 (some .boolean) 2 := ⟨pq_t1 2 rfl rfl, pq_t3 27 rfl rfl, by decide +kernel, by decide +kernel, by decide +kernel⟩
set_option maxRecDepth 8000 in
theorem lb_X6_bringNegative : pq_LB yX6_bringNegative cX6_bringNegative 3 (some .boolean) 1 := ⟨pq_t1 2 rfl rfl, pq_t3 39 rfl rfl, by decide +kernel, by decide +kernel, by decide +kernel⟩
set_option maxRecDepth 8000 in
theorem lb_X6_bringOn : pq_LB yX6_bringOn cX6_bringOn 3 (some .boolean) 2 := ⟨pq_t1 2 rfl rfl, pq_t3 46 rfl rfl, by decide +kernel, by decide +kernel, by decide +kernel⟩
set_option maxRecDepth 8000 in
theorem lb_X7_spell : pq_LB yX7_spell cX7_spell 5 none 2 := ⟨pq_t1 8 rfl rfl, pq_t4 93 rfl rfl, by decide +kernel, by decide +kernel, by decide +kernel⟩
set_option maxRecDepth 8000 in
theorem lb_X10_drawLots : pq_LB yX10_drawLots cX10_drawLots 11 (some .int) 4 := ⟨pq_t1 1 rfl rfl, pq_t4 118 rfl rfl, by decide +kernel, by decide +kernel, by decide +kernel⟩
set_option maxRecDepth 8000 in
theorem lb_X4_renew : pq_LB yX4_renew cX4_renew 4 none 2 := ⟨pq_t1 11 rfl rfl, pq_t4 135 rfl rfl, by decide +kernel, by decide +kernel, by decide +kernel⟩
set_option maxRecDepth 8000 in
theorem lb_X8_takeBack : pq_LB yX8_takeBack cX8_takeBack 3 none 1 := ⟨pq_t1 10 rfl rfl, pq_t4 159 rfl rfl, by decide +kernel, by decide +kernel, by decide +kernel⟩
set_option maxRecDepth 8000 in
theorem lb_X6_keepImage : pq_LB yX6_keepImage cX6_keepImage 2 none 0 := ⟨pq_t1 2 rfl rfl, pq_t4 168 rfl rfl, by decide +kernel, by decide +kernel, by decide +kernel⟩
set_option maxRecDepth 8000 in
theorem lb_X6_restoreImage : pq_LB yX6_restoreImage cX6_restoreImage 2 none 0 := ⟨pq_t1 2 rfl rfl, pq_t4 180 rfl rfl, by decide +kernel, by decide +kernel, by decide +kernel⟩
set_option maxRecDepth 8000 in
theorem lb_X6_termsOfAll : pq_LB yX6_termsOfAll cX6_termsOfAll 3 (some .int) 0 := ⟨pq_t1 2 rfl rfl, pq_t4 188 rfl rfl, by decide +kernel, by decide +kernel, by decide +kernel⟩
set_option maxRecDepth 8000 in
theorem lb_X6_clearForms : pq_LB yX6_clearForms cX6_clearForms 3 (some .int) 0 := ⟨pq_t1 2 rfl rfl, pq_t4 192 rfl rfl, by decide +kernel, by decide +kernel, by decide +kernel⟩
set_option maxRecDepth 8000 in
theorem lb_X9_takeOn : pq_LB yX9_takeOn cX9_takeOn 7 none 2 := ⟨pq_t1 3 rfl rfl, pq_t2 219 rfl rfl, by decide +kernel, by decide +kernel, by decide +kernel⟩
set_option maxRecDepth 8000 in
theorem lb_X10_termOf : pq_LB yX10_termOf cX10_termOf 2 (some .int) 2 := ⟨pq_t1 1 rfl rfl, pq_t2 107 rfl rfl, by decide +kernel, by decide +kernel, by decide +kernel⟩
set_option maxRecDepth 8000 in
theorem lb_J6_bitCount_0f7a4 : pq_LB yJ6_bitCount_0f7a4 cJ6_bitCount_0f7a4 1 (some .int) 1 := ⟨pq_t1 18 rfl rfl, pq_t3 133 rfl rfl, by decide +kernel, by decide +kernel, by decide +kernel⟩
set_option maxRecDepth 8000 in
theorem lb_X10_commonOf : pq_LB yX10_commonOf cX10_commonOf 11 (some .long) 2 := ⟨pq_t1 1 rfl rfl, pq_t3 215 rfl rfl, by decide +kernel, by decide +kernel, by decide +kernel⟩
set_option maxRecDepth 8000 in
theorem lb_X10_nextSeed : pq_LB yX10_nextSeed cX10_nextSeed 1 (some .int) 1 := ⟨pq_t1 1 rfl rfl, pq_t4 121 rfl rfl, by decide +kernel, by decide +kernel, by decide +kernel⟩
set_option maxRecDepth 8000 in
theorem lb_X10_drawOf : pq_LB yX10_drawOf cX10_drawOf 1 (some .int) 1 := ⟨pq_t1 1 rfl rfl, pq_t4 126 rfl rfl, by decide +kernel, by decide +kernel, by decide +kernel⟩
set_option maxRecDepth 8000 in
theorem lb_X0_readAct : pq_LB yX0_readAct cX0_readAct 1 (some .boolean) 0 := ⟨pq_t1 7 rfl rfl, pq_t2 123 rfl rfl, by decide +kernel, by decide +kernel, by decide +kernel⟩
set_option maxRecDepth 8000 in
theorem lb_X3_at : pq_LB yX3_at cX3_at 2 (some .int) 1 := ⟨pq_t1 5 rfl rfl, pq_t2 80 rfl rfl, by decide +kernel, by decide +kernel, by decide +kernel⟩
set_option maxRecDepth 8000 in
theorem lb_X0_wordAt : pq_LB yX0_wordAt cX0_wordAt 5 (some .int) 1 := ⟨pq_t1 7 rfl rfl, pq_t2 127 rfl rfl, by decide +kernel, by decide +kernel, by decide +kernel⟩
set_option maxRecDepth 8000 in
theorem lb_X0_textOf : pq_LB yX0_textOf cX0_textOf 1 (some (.object "java/lang/String")) 1 := ⟨pq_t1 7 rfl rfl, pq_t2 134 rfl rfl, by decide +kernel, by decide +kernel, by decide +kernel⟩
set_option maxRecDepth 8000 in
theorem lb_X0_readNumber : pq_LB yX0_readNumber cX0_readNumber 1 (some .int) 0 := ⟨pq_t1 7 rfl rfl, pq_t2 196 rfl rfl, by decide +kernel, by decide +kernel, by decide +kernel⟩
set_option maxRecDepth 8000 in
theorem lb_X3_hasDigit : pq_LB yX3_hasDigit cX3_hasDigit 2 (some .boolean) 1 := ⟨pq_t1 5 rfl rfl, pq_t2 95 rfl rfl, by decide +kernel, by decide +kernel, by decide +kernel⟩
set_option maxRecDepth 8000 in
theorem lb_X3_hasSmall : pq_LB yX3_hasSmall cX3_hasSmall 2 (some .boolean) 1 := ⟨pq_t1 5 rfl rfl, pq_t2 131 rfl rfl, by decide +kernel, by decide +kernel, by decide +kernel⟩
set_option maxRecDepth 8000 in
theorem lb_X3_hasText : pq_LB yX3_hasText cX3_hasText 4 (some .boolean) 2 := ⟨pq_t1 5 rfl rfl, pq_t2 153 rfl rfl, by decide +kernel, by decide +kernel, by decide +kernel⟩
set_option maxRecDepth 8000 in
theorem lb_X10_behindA : pq_LB yX10_behindA cX10_behindA 2 (some .int) 1 := ⟨pq_t1 1 rfl rfl, pq_t2 238 rfl rfl, by decide +kernel, by decide +kernel, by decide +kernel⟩
set_option maxRecDepth 8000 in
theorem lb_X1_has : pq_LB yX1_has cX1_has 4 (some .int) 3 := ⟨pq_t1 4 rfl rfl, pq_t2 227 rfl rfl, by decide +kernel, by decide +kernel, by decide +kernel⟩
set_option maxRecDepth 8000 in
theorem lb_X1_makeNought : pq_LB yX1_makeNought cX1_makeNought 2 none 0 := ⟨pq_t1 4 rfl rfl, pq_t2 76 rfl rfl, by decide +kernel, by decide +kernel, by decide +kernel⟩
set_option maxRecDepth 8000 in
theorem lb_X2_readMember : pq_LB yX2_readMember cX2_readMember 6 (some .boolean) 2 := ⟨pq_t1 6 rfl rfl, pq_t2 87 rfl rfl, by decide +kernel, by decide +kernel, by decide +kernel⟩
set_option maxRecDepth 8000 in
theorem lb_X2_readNumber : pq_LB yX2_readNumber cX2_readNumber 3 (some .int) 0 := ⟨pq_t1 6 rfl rfl, pq_t2 91 rfl rfl, by decide +kernel, by decide +kernel, by decide +kernel⟩
set_option maxRecDepth 8000 in
theorem lb_X2_readPower : pq_LB yX2_readPower cX2_readPower 3 (some .boolean) 1 := ⟨pq_t1 6 rfl rfl, pq_t2 100 rfl rfl, by decide +kernel, by decide +kernel, by decide +kernel⟩
set_option maxRecDepth 8000 in
theorem lb_X2_fits : pq_LB yX2_fits cX2_fits 2 (some .boolean) 1 := ⟨pq_t1 6 rfl rfl, pq_t2 104 rfl rfl, by decide +kernel, by decide +kernel, by decide +kernel⟩
set_option maxRecDepth 8000 in
theorem lb_X4_ways : pq_LB yX4_ways cX4_ways 5 (some .long) 2 := ⟨pq_t1 11 rfl rfl, pq_t4 0 rfl rfl, by decide +kernel, by decide +kernel, by decide +kernel⟩
set_option maxRecDepth 8000 in
theorem lb_X10_fails : pq_LB yX10_fails cX10_fails 3 (some .boolean) 2 := ⟨pq_t1 1 rfl rfl, pq_t3 157 rfl rfl, by decide +kernel, by decide +kernel, by decide +kernel⟩
set_option maxRecDepth 8000 in
theorem lb_X5_fill : pq_LB yX5_fill cX5_fill 4 none 2 := ⟨pq_t1 9 rfl rfl, pq_t4 41 rfl rfl, by decide +kernel, by decide +kernel, by decide +kernel⟩
set_option maxRecDepth 8000 in
theorem lb_X5_lead : pq_LB yX5_lead cX5_lead 6 (some .int) 2 := ⟨pq_t1 9 rfl rfl, pq_t4 46 rfl rfl, by decide +kernel, by decide +kernel, by decide +kernel⟩
set_option maxRecDepth 8000 in
theorem lb_X5_leader : pq_LB yX5_leader cX5_leader 4 (some .int) 2 := ⟨pq_t1 9 rfl rfl, pq_t4 50 rfl rfl, by decide +kernel, by decide +kernel, by decide +kernel⟩
set_option maxRecDepth 8000 in
theorem lb_X5_takeAway : pq_LB yX5_takeAway cX5_takeAway 9 none 3 := ⟨pq_t1 9 rfl rfl, pq_t4 54 rfl rfl, by decide +kernel, by decide +kernel, by decide +kernel⟩
set_option maxRecDepth 8000 in
theorem lb_X1_copyOf : pq_LB yX1_copyOf cX1_copyOf 3 none 1 := ⟨pq_t1 4 rfl rfl, pq_t4 172 rfl rfl, by decide +kernel, by decide +kernel, by decide +kernel⟩
set_option maxRecDepth 8000 in
theorem lb_X6_isSmall : pq_LB yX6_isSmall cX6_isSmall 2 (some .boolean) 1 := ⟨pq_t1 2 rfl rfl, pq_t4 29 rfl rfl, by decide +kernel, by decide +kernel, by decide +kernel⟩
set_option maxRecDepth 8000 in
theorem lb_X6_performOne : pq_LB yX6_performOne cX6_performOne 4 (some .boolean) 3 := ⟨pq_t1 2 rfl rfl, pq_t2 206 rfl rfl, by decide +kernel, by decide +kernel, by decide +kernel⟩
set_option maxRecDepth 8000 in
theorem lb_X6_settle : pq_LB yX6_settle cX6_settle 4 (some .boolean) 0 := ⟨pq_t1 2 rfl rfl, pq_t3 4 rfl rfl, by decide +kernel, by decide +kernel, by decide +kernel⟩
set_option maxRecDepth 8000 in
theorem lb_X9_makeNought : pq_LB yX9_makeNought cX9_makeNought 3 none 1 := ⟨pq_t1 3 rfl rfl, pq_t3 16 rfl rfl, by decide +kernel, by decide +kernel, by decide +kernel⟩
set_option maxRecDepth 8000 in
theorem lb_X6_addTimes : pq_LB yX6_addTimes cX6_addTimes 8 none 4 := ⟨pq_t1 2 rfl rfl, pq_t3 22 rfl rfl, by decide +kernel, by decide +kernel, by decide +kernel⟩
set_option maxRecDepth 8000 in
theorem lb_X7_spellTerm : pq_LB yX7_spellTerm cX7_spellTerm 7 none 4 := ⟨pq_t1 8 rfl rfl, pq_t4 97 rfl rfl, by decide +kernel, by decide +kernel, by decide +kernel⟩
set_option maxRecDepth 8000 in
theorem lb_X7_add : pq_LB yX7_add cX7_add 2 none 1 := ⟨pq_t1 8 rfl rfl, pq_t4 102 rfl rfl, by decide +kernel, by decide +kernel, by decide +kernel⟩
set_option maxRecDepth 8000 in
theorem lb_X7_spellNumber : pq_LB yX7_spellNumber cX7_spellNumber 4 none 1 := ⟨pq_t1 8 rfl rfl, pq_t4 107 rfl rfl, by decide +kernel, by decide +kernel, by decide +kernel⟩
set_option maxRecDepth 8000 in
theorem lb_X7_spellPower : pq_LB yX7_spellPower cX7_spellPower 3 none 2 := ⟨pq_t1 8 rfl rfl, pq_t4 111 rfl rfl, by decide +kernel, by decide +kernel, by decide +kernel⟩
set_option maxRecDepth 8000 in
theorem lb_X10_standsOn : pq_LB yX10_standsOn cX10_standsOn 4 (some .boolean) 4 := ⟨pq_t1 1 rfl rfl, pq_t2 223 rfl rfl, by decide +kernel, by decide +kernel, by decide +kernel⟩
set_option maxRecDepth 8000 in
theorem lb_X9_raiseOnce : pq_LB yX9_raiseOnce cX9_raiseOnce 7 none 1 := ⟨pq_t1 3 rfl rfl, pq_t3 35 rfl rfl, by decide +kernel, by decide +kernel, by decide +kernel⟩
set_option maxRecDepth 8000 in
theorem lb_X10_numberOn : pq_LB yX10_numberOn cX10_numberOn 3 (some .int) 3 := ⟨pq_t1 1 rfl rfl, pq_t3 144 rfl rfl, by decide +kernel, by decide +kernel, by decide +kernel⟩
set_option maxRecDepth 8000 in
theorem lb_X10_letter : pq_LB yX10_letter cX10_letter 2 (some .int) 1 := ⟨pq_t1 1 rfl rfl, pq_t2 52 rfl rfl, by decide +kernel, by decide +kernel, by decide +kernel⟩
set_option maxRecDepth 8000 in
theorem lb_X11_letter : pq_LB yX11_letter cX11_letter 2 (some .int) 1 := ⟨pq_t1 12 rfl rfl, pq_t5 210 rfl rfl, by decide +kernel, by decide +kernel, by decide +kernel⟩
set_option maxRecDepth 8000 in
theorem lb_X10_form : pq_LB yX10_form cX10_form 2 (some .int) 0 := ⟨pq_t1 1 rfl rfl, pq_t2 64 rfl rfl, by decide +kernel, by decide +kernel, by decide +kernel⟩
set_option maxRecDepth 8000 in
theorem lb_X11_form : pq_LB yX11_form cX11_form 2 (some .int) 0 := ⟨pq_t1 12 rfl rfl, pq_t5 214 rfl rfl, by decide +kernel, by decide +kernel, by decide +kernel⟩
set_option maxRecDepth 8000 in
theorem lb_X10_acts : pq_LB yX10_acts cX10_acts 2 (some .int) 0 := ⟨pq_t1 1 rfl rfl, pq_t2 115 rfl rfl, by decide +kernel, by decide +kernel, by decide +kernel⟩
set_option maxRecDepth 8000 in
theorem lb_X11_acts : pq_LB yX11_acts cX11_acts 4 (some .int) 0 := ⟨pq_t1 12 rfl rfl, pq_t5 238 rfl rfl, by decide +kernel, by decide +kernel, by decide +kernel⟩
set_option maxRecDepth 8000 in
theorem lb_X10_drop : pq_LB yX10_drop cX10_drop 1 (some .int) 0 := ⟨pq_t1 1 rfl rfl, pq_t3 51 rfl rfl, by decide +kernel, by decide +kernel, by decide +kernel⟩
set_option maxRecDepth 8000 in
theorem lb_X11_drop : pq_LB yX11_drop cX11_drop 1 (some .int) 0 := ⟨pq_t1 12 rfl rfl, pq_t6 26 rfl rfl, by decide +kernel, by decide +kernel, by decide +kernel⟩
set_option maxRecDepth 8000 in
theorem lb_X10_change : pq_LB yX10_change cX10_change 6 (some .int) 3 := ⟨pq_t1 1 rfl rfl, pq_t3 55 rfl rfl, by decide +kernel, by decide +kernel, by decide +kernel⟩
set_option maxRecDepth 8000 in
theorem lb_X11_change : pq_LB yX11_change cX11_change 7 (some .int) 3 := ⟨pq_t1 12 rfl rfl, pq_t6 30 rfl rfl, by decide +kernel, by decide +kernel, by decide +kernel⟩
set_option maxRecDepth 8000 in
theorem lb_X10_turn : pq_LB yX10_turn cX10_turn 6 (some .int) 3 := ⟨pq_t1 1 rfl rfl, pq_t3 80 rfl rfl, by decide +kernel, by decide +kernel, by decide +kernel⟩
set_option maxRecDepth 8000 in
theorem lb_X11_turn : pq_LB yX11_turn cX11_turn 6 (some .int) 3 := ⟨pq_t1 12 rfl rfl, pq_t6 45 rfl rfl, by decide +kernel, by decide +kernel, by decide +kernel⟩
set_option maxRecDepth 8000 in
theorem lb_X10_of : pq_LB yX10_of cX10_of 4 (some .int) 2 := ⟨pq_t1 1 rfl rfl, pq_t3 84 rfl rfl, by decide +kernel, by decide +kernel, by decide +kernel⟩
set_option maxRecDepth 8000 in
theorem lb_X11_of : pq_LB yX11_of cX11_of 3 (some .int) 2 := ⟨pq_t1 12 rfl rfl, pq_t6 49 rfl rfl, by decide +kernel, by decide +kernel, by decide +kernel⟩
set_option maxRecDepth 8000 in
theorem lb_X10_taken : pq_LB yX10_taken cX10_taken 4 (some .int) 2 := ⟨pq_t1 1 rfl rfl, pq_t3 94 rfl rfl, by decide +kernel, by decide +kernel, by decide +kernel⟩
set_option maxRecDepth 8000 in
theorem lb_X11_taken : pq_LB yX11_taken cX11_taken 6 (some .int) 2 := ⟨pq_t1 12 rfl rfl, pq_t6 57 rfl rfl, by decide +kernel, by decide +kernel, by decide +kernel⟩
set_option maxRecDepth 8000 in
theorem lb_X10_coefficient : pq_LB yX10_coefficient cX10_coefficient 3 (some .int) 2 := ⟨pq_t1 1 rfl rfl, pq_t3 103 rfl rfl, by decide +kernel, by decide +kernel, by decide +kernel⟩
set_option maxRecDepth 8000 in
theorem lb_X11_coefficient : pq_LB yX11_coefficient cX11_coefficient 3 (some .int) 2 := ⟨pq_t1 12 rfl rfl, pq_t6 61 rfl rfl, by decide +kernel, by decide +kernel, by decide +kernel⟩
set_option maxRecDepth 8000 in
theorem lb_X10_value : pq_LB yX10_value cX10_value 5 (some .long) 4 := ⟨pq_t1 1 rfl rfl, pq_t3 108 rfl rfl, by decide +kernel, by decide +kernel, by decide +kernel⟩
set_option maxRecDepth 8000 in
theorem lb_X11_value : pq_LB yX11_value cX11_value 6 (some .long) 4 := ⟨pq_t1 12 rfl rfl, pq_t6 65 rfl rfl, by decide +kernel, by decide +kernel, by decide +kernel⟩
set_option maxRecDepth 8000 in
theorem lb_X10_lifted : pq_LB yX10_lifted cX10_lifted 6 (some .long) 4 := ⟨pq_t1 1 rfl rfl, pq_t3 126 rfl rfl, by decide +kernel, by decide +kernel, by decide +kernel⟩
set_option maxRecDepth 8000 in
theorem lb_X11_lifted : pq_LB yX11_lifted cX11_lifted 8 (some .long) 4 := ⟨pq_t1 12 rfl rfl, pq_t6 81 rfl rfl, by decide +kernel, by decide +kernel, by decide +kernel⟩
set_option maxRecDepth 8000 in
theorem lb_X10_fault : pq_LB yX10_fault cX10_fault 6 (some .int) 4 := ⟨pq_t1 1 rfl rfl, pq_t3 148 rfl rfl, by decide +kernel, by decide +kernel, by decide +kernel⟩
set_option maxRecDepth 8000 in
theorem lb_X11_fault : pq_LB yX11_fault cX11_fault 6 (some .int) 4 := ⟨pq_t1 12 rfl rfl, pq_t6 89 rfl rfl, by decide +kernel, by decide +kernel, by decide +kernel⟩
set_option maxRecDepth 8000 in
theorem lb_X10_least : pq_LB yX10_least cX10_least 4 (some .int) 3 := ⟨pq_t1 1 rfl rfl, pq_t3 161 rfl rfl, by decide +kernel, by decide +kernel, by decide +kernel⟩
set_option maxRecDepth 8000 in
theorem lb_X11_least : pq_LB yX11_least cX11_least 5 (some .int) 3 := ⟨pq_t1 12 rfl rfl, pq_t6 100 rfl rfl, by decide +kernel, by decide +kernel, by decide +kernel⟩
set_option maxRecDepth 8000 in
theorem lb_X10_failing : pq_LB yX10_failing cX10_failing 7 (some .int) 4 := ⟨pq_t1 1 rfl rfl, pq_t3 170 rfl rfl, by decide +kernel, by decide +kernel, by decide +kernel⟩
set_option maxRecDepth 8000 in
theorem lb_X11_failing : pq_LB yX11_failing cX11_failing 6 (some .int) 4 := ⟨pq_t1 12 rfl rfl, pq_t6 108 rfl rfl, by decide +kernel, by decide +kernel, by decide +kernel⟩
set_option maxRecDepth 8000 in
theorem lb_X10_lowest : pq_LB yX10_lowest cX10_lowest 8 (some .long) 4 := ⟨pq_t1 1 rfl rfl, pq_t3 189 rfl rfl, by decide +kernel, by decide +kernel, by decide +kernel⟩
set_option maxRecDepth 8000 in
theorem lb_X11_lowest : pq_LB yX11_lowest cX11_lowest 6 (some .long) 4 := ⟨pq_t1 12 rfl rfl, pq_t6 132 rfl rfl, by decide +kernel, by decide +kernel, by decide +kernel⟩
set_option maxRecDepth 8000 in
theorem lb_X10_share : pq_LB yX10_share cX10_share 6 (some .long) 4 := ⟨pq_t1 1 rfl rfl, pq_t3 202 rfl rfl, by decide +kernel, by decide +kernel, by decide +kernel⟩
set_option maxRecDepth 8000 in
theorem lb_X11_share : pq_LB yX11_share cX11_share 6 (some .long) 4 := ⟨pq_t1 12 rfl rfl, pq_t6 140 rfl rfl, by decide +kernel, by decide +kernel, by decide +kernel⟩
set_option maxRecDepth 8000 in
theorem lb_X10_proof : pq_LB yX10_proof cX10_proof 3 (some .int) 2 := ⟨pq_t1 1 rfl rfl, pq_t3 219 rfl rfl, by decide +kernel, by decide +kernel, by decide +kernel⟩
set_option maxRecDepth 8000 in
theorem lb_X11_proof : pq_LB yX11_proof cX11_proof 3 (some .int) 2 := ⟨pq_t1 12 rfl rfl, pq_t6 150 rfl rfl, by decide +kernel, by decide +kernel, by decide +kernel⟩
set_option maxRecDepth 8000 in
theorem lb_X10_walls : pq_LB yX10_walls cX10_walls 4 (some .long) 3 := ⟨pq_t1 1 rfl rfl, pq_t3 223 rfl rfl, by decide +kernel, by decide +kernel, by decide +kernel⟩
set_option maxRecDepth 8000 in
theorem lb_X11_walls : pq_LB yX11_walls cX11_walls 5 (some .long) 3 := ⟨pq_t1 12 rfl rfl, pq_t6 154 rfl rfl, by decide +kernel, by decide +kernel, by decide +kernel⟩
set_option maxRecDepth 8000 in
theorem lb_X10_wallsLeast : pq_LB yX10_wallsLeast cX10_wallsLeast 4 (some .int) 2 := ⟨pq_t1 1 rfl rfl, pq_t4 4 rfl rfl, by decide +kernel, by decide +kernel, by decide +kernel⟩
set_option maxRecDepth 8000 in
theorem lb_X11_wallsLeast : pq_LB yX11_wallsLeast cX11_wallsLeast 7 (some .int) 2 := ⟨pq_t1 12 rfl rfl, pq_t6 173 rfl rfl, by decide +kernel, by decide +kernel, by decide +kernel⟩
set_option maxRecDepth 8000 in
theorem lb_X10_made : pq_LB yX10_made cX10_made 5 (some .long) 4 := ⟨pq_t1 1 rfl rfl, pq_t4 17 rfl rfl, by decide +kernel, by decide +kernel, by decide +kernel⟩
set_option maxRecDepth 8000 in
theorem lb_X11_made : pq_LB yX11_made cX11_made 7 (some .long) 4 := ⟨pq_t1 12 rfl rfl, pq_t6 177 rfl rfl, by decide +kernel, by decide +kernel, by decide +kernel⟩
set_option maxRecDepth 8000 in
theorem lb_X10_sum : pq_LB yX10_sum cX10_sum 3 (some .int) 2 := ⟨pq_t1 1 rfl rfl, pq_t4 64 rfl rfl, by decide +kernel, by decide +kernel, by decide +kernel⟩
set_option maxRecDepth 8000 in
theorem lb_X11_sum : pq_LB yX11_sum cX11_sum 3 (some .int) 2 := ⟨pq_t1 12 rfl rfl, pq_t5 104 rfl rfl, by decide +kernel, by decide +kernel, by decide +kernel⟩
set_option maxRecDepth 8000 in
theorem lb_X10_product : pq_LB yX10_product cX10_product 3 (some .int) 2 := ⟨pq_t1 1 rfl rfl, pq_t4 69 rfl rfl, by decide +kernel, by decide +kernel, by decide +kernel⟩
set_option maxRecDepth 8000 in
theorem lb_X11_product : pq_LB yX11_product cX11_product 3 (some .int) 2 := ⟨pq_t1 12 rfl rfl, pq_t5 161 rfl rfl, by decide +kernel, by decide +kernel, by decide +kernel⟩
set_option maxRecDepth 8000 in
theorem lb_X10_lift : pq_LB yX10_lift cX10_lift 3 (some .int) 2 := ⟨pq_t1 1 rfl rfl, pq_t4 74 rfl rfl, by decide +kernel, by decide +kernel, by decide +kernel⟩
set_option maxRecDepth 8000 in
theorem lb_X11_lift : pq_LB yX11_lift cX11_lift 4 (some .int) 2 := ⟨pq_t1 12 rfl rfl, pq_t5 169 rfl rfl, by decide +kernel, by decide +kernel, by decide +kernel⟩
set_option maxRecDepth 8000 in
theorem lb_X10_negative : pq_LB yX10_negative cX10_negative 2 (some .int) 1 := ⟨pq_t1 1 rfl rfl, pq_t4 79 rfl rfl, by decide +kernel, by decide +kernel, by decide +kernel⟩
set_option maxRecDepth 8000 in
theorem lb_X11_negative : pq_LB yX11_negative cX11_negative 2 (some .int) 1 := ⟨pq_t1 12 rfl rfl, pq_t5 191 rfl rfl, by decide +kernel, by decide +kernel, by decide +kernel⟩
set_option maxRecDepth 8000 in
theorem lb_X10_on : pq_LB yX10_on cX10_on 3 (some .int) 2 := ⟨pq_t1 1 rfl rfl, pq_t4 84 rfl rfl, by decide +kernel, by decide +kernel, by decide +kernel⟩
set_option maxRecDepth 8000 in
theorem lb_X11_on : pq_LB yX11_on cX11_on 3 (some .int) 2 := ⟨pq_t1 12 rfl rfl, pq_t5 199 rfl rfl, by decide +kernel, by decide +kernel, by decide +kernel⟩
set_option maxRecDepth 8000 in
theorem lb_X10_spelled : pq_LB yX10_spelled cX10_spelled 3 (some .int) 2 := ⟨pq_t1 1 rfl rfl, pq_t4 89 rfl rfl, by decide +kernel, by decide +kernel, by decide +kernel⟩
set_option maxRecDepth 8000 in
theorem lb_X11_spelled : pq_LB yX11_spelled cX11_spelled 4 (some .int) 2 := ⟨pq_t1 12 rfl rfl, pq_t6 225 rfl rfl, by decide +kernel, by decide +kernel, by decide +kernel⟩
set_option maxRecDepth 8000 in
theorem lb_X10_lots : pq_LB yX10_lots cX10_lots 5 (some .int) 4 := ⟨pq_t1 1 rfl rfl, pq_t4 115 rfl rfl, by decide +kernel, by decide +kernel, by decide +kernel⟩
set_option maxRecDepth 8000 in
theorem lb_X11_lots : pq_LB yX11_lots cX11_lots 13 (some .int) 4 := ⟨pq_t1 12 rfl rfl, pq_t7 1 rfl rfl, by decide +kernel, by decide +kernel, by decide +kernel⟩
set_option maxRecDepth 8000 in
theorem lb_X10_list : pq_LB yX10_list cX10_list 3 (some .int) 2 := ⟨pq_t1 1 rfl rfl, pq_t4 131 rfl rfl, by decide +kernel, by decide +kernel, by decide +kernel⟩
set_option maxRecDepth 8000 in
theorem lb_X11_list : pq_LB yX11_list cX11_list 4 (some .int) 2 := ⟨pq_t1 12 rfl rfl, pq_t7 12 rfl rfl, by decide +kernel, by decide +kernel, by decide +kernel⟩
set_option maxRecDepth 8000 in
theorem lb_X10_put : pq_LB yX10_put cX10_put 4 (some .int) 3 := ⟨pq_t1 1 rfl rfl, pq_t4 139 rfl rfl, by decide +kernel, by decide +kernel, by decide +kernel⟩
set_option maxRecDepth 8000 in
theorem lb_X11_put : pq_LB yX11_put cX11_put 5 (some .int) 3 := ⟨pq_t1 12 rfl rfl, pq_t7 16 rfl rfl, by decide +kernel, by decide +kernel, by decide +kernel⟩
set_option maxRecDepth 8000 in
theorem lb_X10_look : pq_LB yX10_look cX10_look 3 (some .long) 2 := ⟨pq_t1 1 rfl rfl, pq_t4 143 rfl rfl, by decide +kernel, by decide +kernel, by decide +kernel⟩
set_option maxRecDepth 8000 in
theorem lb_X11_look : pq_LB yX11_look cX11_look 4 (some .long) 2 := ⟨pq_t1 12 rfl rfl, pq_t7 24 rfl rfl, by decide +kernel, by decide +kernel, by decide +kernel⟩
set_option maxRecDepth 8000 in
theorem lb_X10_lays : pq_LB yX10_lays cX10_lays 7 (some .int) 3 := ⟨pq_t1 1 rfl rfl, pq_t4 147 rfl rfl, by decide +kernel, by decide +kernel, by decide +kernel⟩
set_option maxRecDepth 8000 in
theorem lb_X11_lays : pq_LB yX11_lays cX11_lays 6 (some .int) 3 := ⟨pq_t1 12 rfl rfl, pq_t7 28 rfl rfl, by decide +kernel, by decide +kernel, by decide +kernel⟩
set_option maxRecDepth 8000 in
theorem lb_X10_judge : pq_LB yX10_judge cX10_judge 6 (some .int) 2 := ⟨pq_t1 1 rfl rfl, pq_t4 151 rfl rfl, by decide +kernel, by decide +kernel, by decide +kernel⟩
set_option maxRecDepth 8000 in
theorem lb_X11_judge : pq_LB yX11_judge cX11_judge 4 (some .int) 2 := ⟨pq_t1 12 rfl rfl, pq_t7 32 rfl rfl, by decide +kernel, by decide +kernel, by decide +kernel⟩
set_option maxRecDepth 8000 in
theorem lb_X10_undo : pq_LB yX10_undo cX10_undo 1 (some .int) 0 := ⟨pq_t1 1 rfl rfl, pq_t4 155 rfl rfl, by decide +kernel, by decide +kernel, by decide +kernel⟩
set_option maxRecDepth 8000 in
theorem lb_X11_undo : pq_LB yX11_undo cX11_undo 2 (some .int) 0 := ⟨pq_t1 12 rfl rfl, pq_t5 96 rfl rfl, by decide +kernel, by decide +kernel, by decide +kernel⟩
set_option maxRecDepth 8000 in
theorem lb_X10_image : pq_LB yX10_image cX10_image 1 (some .int) 0 := ⟨pq_t1 1 rfl rfl, pq_t4 164 rfl rfl, by decide +kernel, by decide +kernel, by decide +kernel⟩
set_option maxRecDepth 8000 in
theorem lb_X11_image : pq_LB yX11_image cX11_image 1 (some .int) 0 := ⟨pq_t1 12 rfl rfl, pq_t7 36 rfl rfl, by decide +kernel, by decide +kernel, by decide +kernel⟩
set_option maxRecDepth 8000 in
theorem lb_X10_back : pq_LB yX10_back cX10_back 1 (some .int) 0 := ⟨pq_t1 1 rfl rfl, pq_t4 176 rfl rfl, by decide +kernel, by decide +kernel, by decide +kernel⟩
set_option maxRecDepth 8000 in
theorem lb_X11_back : pq_LB yX11_back cX11_back 1 (some .int) 0 := ⟨pq_t1 12 rfl rfl, pq_t7 48 rfl rfl, by decide +kernel, by decide +kernel, by decide +kernel⟩
set_option maxRecDepth 8000 in
theorem lb_X10_count : pq_LB yX10_count cX10_count 2 (some .int) 1 := ⟨pq_t1 1 rfl rfl, pq_t4 184 rfl rfl, by decide +kernel, by decide +kernel, by decide +kernel⟩
set_option maxRecDepth 8000 in
theorem lb_X11_count : pq_LB yX11_count cX11_count 2 (some .int) 1 := ⟨pq_t1 12 rfl rfl, pq_t7 52 rfl rfl, by decide +kernel, by decide +kernel, by decide +kernel⟩
set_option maxRecDepth 8000 in
theorem lb_X11_no : pq_LB yX11_no cX11_no 2 (some .int) 1 := ⟨pq_t1 12 rfl rfl, pq_t5 100 rfl rfl, by decide +kernel, by decide +kernel, by decide +kernel⟩
set_option maxRecDepth 8000 in
theorem lb_X11_restOf : pq_LB yX11_restOf cX11_restOf 2 (some .int) 1 := ⟨pq_t1 12 rfl rfl, pq_t5 132 rfl rfl, by decide +kernel, by decide +kernel, by decide +kernel⟩
set_option maxRecDepth 8000 in
theorem lb_X11_powerIn : pq_LB yX11_powerIn cX11_powerIn 5 (some .int) 3 := ⟨pq_t1 12 rfl rfl, pq_t5 129 rfl rfl, by decide +kernel, by decide +kernel, by decide +kernel⟩
set_option maxRecDepth 8000 in
theorem lb_X11_isIn : pq_LB yX11_isIn cX11_isIn 3 (some .boolean) 3 := ⟨pq_t1 12 rfl rfl, pq_t5 111 rfl rfl, by decide +kernel, by decide +kernel, by decide +kernel⟩
set_option maxRecDepth 8000 in
theorem lb_X11_termsOf : pq_LB yX11_termsOf cX11_termsOf 1 (some .int) 1 := ⟨pq_t1 12 rfl rfl, pq_t5 122 rfl rfl, by decide +kernel, by decide +kernel, by decide +kernel⟩
set_option maxRecDepth 8000 in
theorem lb_X11_termOf : pq_LB yX11_termOf cX11_termOf 3 (some .int) 3 := ⟨pq_t1 12 rfl rfl, pq_t5 139 rfl rfl, by decide +kernel, by decide +kernel, by decide +kernel⟩
set_option maxRecDepth 8000 in
theorem lb_X11_toldAt : pq_LB yX11_toldAt cX11_toldAt 4 (some .int) 3 := ⟨pq_t1 12 rfl rfl, pq_t5 136 rfl rfl, by decide +kernel, by decide +kernel, by decide +kernel⟩
set_option maxRecDepth 8000 in
theorem lb_X11_isTerm : pq_LB yX11_isTerm cX11_isTerm 3 (some .boolean) 2 := ⟨pq_t1 12 rfl rfl, pq_t5 119 rfl rfl, by decide +kernel, by decide +kernel, by decide +kernel⟩
set_option maxRecDepth 8000 in
theorem lb_X11_coefficientOf : pq_LB yX11_coefficientOf cX11_coefficientOf 7 (some .int) 2 := ⟨pq_t1 12 rfl rfl, pq_t5 126 rfl rfl, by decide +kernel, by decide +kernel, by decide +kernel⟩
set_option maxRecDepth 8000 in
theorem lb_X11_canCome : pq_LB yX11_canCome cX11_canCome 4 (some .boolean) 1 := ⟨pq_t1 12 rfl rfl, pq_t5 147 rfl rfl, by decide +kernel, by decide +kernel, by decide +kernel⟩
set_option maxRecDepth 8000 in
theorem lb_X11_comes : pq_LB yX11_comes cX11_comes 3 (some .int) 1 := ⟨pq_t1 12 rfl rfl, pq_t5 153 rfl rfl, by decide +kernel, by decide +kernel, by decide +kernel⟩
set_option maxRecDepth 8000 in
theorem lb_X11_comesIf : pq_LB yX11_comesIf cX11_comesIf 2 (some .int) 1 := ⟨pq_t1 12 rfl rfl, pq_t5 143 rfl rfl, by decide +kernel, by decide +kernel, by decide +kernel⟩
set_option maxRecDepth 8000 in
theorem lb_X11_takes : pq_LB yX11_takes cX11_takes 5 none 3 := ⟨pq_t1 12 rfl rfl, pq_t5 180 rfl rfl, by decide +kernel, by decide +kernel, by decide +kernel⟩
set_option maxRecDepth 8000 in
theorem lb_X11_isOn : pq_LB yX11_isOn cX11_isOn 5 (some .boolean) 3 := ⟨pq_t1 12 rfl rfl, pq_t5 183 rfl rfl, by decide +kernel, by decide +kernel, by decide +kernel⟩
set_option maxRecDepth 8000 in
theorem lb_X11_isForm : pq_LB yX11_isForm cX11_isForm 2 (some .boolean) 1 := ⟨pq_t1 12 rfl rfl, pq_t5 108 rfl rfl, by decide +kernel, by decide +kernel, by decide +kernel⟩
set_option maxRecDepth 8000 in
theorem lb_X11_sums : pq_LB yX11_sums cX11_sums 4 (some .int) 2 := ⟨pq_t1 12 rfl rfl, pq_t5 115 rfl rfl, by decide +kernel, by decide +kernel, by decide +kernel⟩
set_option maxRecDepth 8000 in
theorem lb_X11_told : pq_LB yX11_told cX11_told 2 (some .int) 1 := ⟨pq_t1 12 rfl rfl, pq_t5 157 rfl rfl, by decide +kernel, by decide +kernel, by decide +kernel⟩
set_option maxRecDepth 8000 in
theorem lb_X11_multiplies : pq_LB yX11_multiplies cX11_multiplies 6 (some .int) 2 := ⟨pq_t1 12 rfl rfl, pq_t5 165 rfl rfl, by decide +kernel, by decide +kernel, by decide +kernel⟩
set_option maxRecDepth 8000 in
theorem lb_X11_bound : pq_LB yX11_bound cX11_bound 3 (some .int) 3 := ⟨pq_t1 12 rfl rfl, pq_t5 172 rfl rfl, by decide +kernel, by decide +kernel, by decide +kernel⟩
set_option maxRecDepth 8000 in
theorem lb_X11_lifts : pq_LB yX11_lifts cX11_lifts 5 (some .int) 2 := ⟨pq_t1 12 rfl rfl, pq_t5 176 rfl rfl, by decide +kernel, by decide +kernel, by decide +kernel⟩
set_option maxRecDepth 8000 in
theorem lb_X11_turnsBelow : pq_LB yX11_turnsBelow cX11_turnsBelow 3 (some .int) 1 := ⟨pq_t1 12 rfl rfl, pq_t5 195 rfl rfl, by decide +kernel, by decide +kernel, by decide +kernel⟩
set_option maxRecDepth 8000 in
theorem lb_X11_isSide : pq_LB yX11_isSide cX11_isSide 1 (some .boolean) 1 := ⟨pq_t1 12 rfl rfl, pq_t5 202 rfl rfl, by decide +kernel, by decide +kernel, by decide +kernel⟩
set_option maxRecDepth 8000 in
theorem lb_X11_staysOn : pq_LB yX11_staysOn cX11_staysOn 4 (some .int) 2 := ⟨pq_t1 12 rfl rfl, pq_t5 206 rfl rfl, by decide +kernel, by decide +kernel, by decide +kernel⟩
set_option maxRecDepth 8000 in
theorem lb_X11_next : pq_LB yX11_next cX11_next 1 (some .int) 0 := ⟨pq_t1 12 rfl rfl, pq_t5 222 rfl rfl, by decide +kernel, by decide +kernel, by decide +kernel⟩
set_option maxRecDepth 8000 in
theorem lb_X11_isDigit : pq_LB yX11_isDigit cX11_isDigit 1 (some .boolean) 0 := ⟨pq_t1 12 rfl rfl, pq_t5 230 rfl rfl, by decide +kernel, by decide +kernel, by decide +kernel⟩
set_option maxRecDepth 8000 in
theorem lb_X11_readsPower : pq_LB yX11_readsPower cX11_readsPower 3 (some .boolean) 2 := ⟨pq_t1 12 rfl rfl, pq_t5 234 rfl rfl, by decide +kernel, by decide +kernel, by decide +kernel⟩
set_option maxRecDepth 8000 in
theorem lb_X11_readsMember : pq_LB yX11_readsMember cX11_readsMember 7 (some .int) 2 := ⟨pq_t1 12 rfl rfl, pq_t5 226 rfl rfl, by decide +kernel, by decide +kernel, by decide +kernel⟩
set_option maxRecDepth 8000 in
theorem lb_X11_readsForm : pq_LB yX11_readsForm cX11_readsForm 4 (some .int) 0 := ⟨pq_t1 12 rfl rfl, pq_t5 218 rfl rfl, by decide +kernel, by decide +kernel, by decide +kernel⟩
set_option maxRecDepth 8000 in
theorem lb_X11_isWord : pq_LB yX11_isWord cX11_isWord 8 (some .boolean) 6 := ⟨pq_t1 12 rfl rfl, pq_t6 14 rfl rfl, by decide +kernel, by decide +kernel, by decide +kernel⟩
set_option maxRecDepth 8000 in
theorem lb_X11_readsWord : pq_LB yX11_readsWord cX11_readsWord 2 (some .int) 0 := ⟨pq_t1 12 rfl rfl, pq_t6 10 rfl rfl, by decide +kernel, by decide +kernel, by decide +kernel⟩
set_option maxRecDepth 8000 in
theorem lb_X11_readsNumber : pq_LB yX11_readsNumber cX11_readsNumber 1 (some .int) 0 := ⟨pq_t1 12 rfl rfl, pq_t6 18 rfl rfl, by decide +kernel, by decide +kernel, by decide +kernel⟩
set_option maxRecDepth 8000 in
theorem lb_X11_readsAct : pq_LB yX11_readsAct cX11_readsAct 5 (some .boolean) 0 := ⟨pq_t1 12 rfl rfl, pq_t6 6 rfl rfl, by decide +kernel, by decide +kernel, by decide +kernel⟩
set_option maxRecDepth 8000 in
theorem lb_X11_readsActs : pq_LB yX11_readsActs cX11_readsActs 2 (some .boolean) 0 := ⟨pq_t1 12 rfl rfl, pq_t6 2 rfl rfl, by decide +kernel, by decide +kernel, by decide +kernel⟩
set_option maxRecDepth 8000 in
theorem lb_X11_does : pq_LB yX11_does cX11_does 4 (some .int) 1 := ⟨pq_t1 12 rfl rfl, pq_t6 22 rfl rfl, by decide +kernel, by decide +kernel, by decide +kernel⟩
set_option maxRecDepth 8000 in
theorem lb_X11_far : pq_LB yX11_far cX11_far 2 (some .int) 1 := ⟨pq_t1 12 rfl rfl, pq_t6 36 rfl rfl, by decide +kernel, by decide +kernel, by decide +kernel⟩
set_option maxRecDepth 8000 in
theorem lb_X11_notes : pq_LB yX11_notes cX11_notes 4 none 2 := ⟨pq_t1 12 rfl rfl, pq_t6 41 rfl rfl, by decide +kernel, by decide +kernel, by decide +kernel⟩
set_option maxRecDepth 8000 in
theorem lb_X11_many : pq_LB yX11_many cX11_many 5 (some .int) 2 := ⟨pq_t1 12 rfl rfl, pq_t6 53 rfl rfl, by decide +kernel, by decide +kernel, by decide +kernel⟩
set_option maxRecDepth 8000 in
theorem lb_X11_power : pq_LB yX11_power cX11_power 5 (some .long) 2 := ⟨pq_t1 12 rfl rfl, pq_t6 77 rfl rfl, by decide +kernel, by decide +kernel, by decide +kernel⟩
set_option maxRecDepth 8000 in
theorem lb_X11_lower : pq_LB yX11_lower cX11_lower 2 (some .long) 1 := ⟨pq_t1 12 rfl rfl, pq_t6 69 rfl rfl, by decide +kernel, by decide +kernel, by decide +kernel⟩
set_option maxRecDepth 8000 in
theorem lb_X11_valueAt : pq_LB yX11_valueAt cX11_valueAt 9 (some .long) 4 := ⟨pq_t1 12 rfl rfl, pq_t6 74 rfl rfl, by decide +kernel, by decide +kernel, by decide +kernel⟩
set_option maxRecDepth 8000 in
theorem lb_X11_rises : pq_LB yX11_rises cX11_rises 5 none 1 := ⟨pq_t1 12 rfl rfl, pq_t5 187 rfl rfl, by decide +kernel, by decide +kernel, by decide +kernel⟩
set_option maxRecDepth 8000 in
theorem lb_X11_notSide : pq_LB yX11_notSide cX11_notSide 3 (some .int) 2 := ⟨pq_t1 12 rfl rfl, pq_t6 85 rfl rfl, by decide +kernel, by decide +kernel, by decide +kernel⟩
set_option maxRecDepth 8000 in
theorem lb_X11_isSort : pq_LB yX11_isSort cX11_isSort 1 (some .boolean) 1 := ⟨pq_t1 12 rfl rfl, pq_t6 92 rfl rfl, by decide +kernel, by decide +kernel, by decide +kernel⟩
set_option maxRecDepth 8000 in
theorem lb_X11_firstFault : pq_LB yX11_firstFault cX11_firstFault 5 (some .int) 2 := ⟨pq_t1 12 rfl rfl, pq_t6 96 rfl rfl, by decide +kernel, by decide +kernel, by decide +kernel⟩
set_option maxRecDepth 8000 in
theorem lb_X11_leastOf : pq_LB yX11_leastOf cX11_leastOf 5 (some .int) 3 := ⟨pq_t1 12 rfl rfl, pq_t6 104 rfl rfl, by decide +kernel, by decide +kernel, by decide +kernel⟩
set_option maxRecDepth 8000 in
theorem lb_X11_firstPoint : pq_LB yX11_firstPoint cX11_firstPoint 2 none 1 := ⟨pq_t1 12 rfl rfl, pq_t6 120 rfl rfl, by decide +kernel, by decide +kernel, by decide +kernel⟩
set_option maxRecDepth 8000 in
theorem lb_X11_isPointOn : pq_LB yX11_isPointOn cX11_isPointOn 2 (some .boolean) 1 := ⟨pq_t1 12 rfl rfl, pq_t6 124 rfl rfl, by decide +kernel, by decide +kernel, by decide +kernel⟩
set_option maxRecDepth 8000 in
theorem lb_X11_nextPoint : pq_LB yX11_nextPoint cX11_nextPoint 2 (some .boolean) 1 := ⟨pq_t1 12 rfl rfl, pq_t6 128 rfl rfl, by decide +kernel, by decide +kernel, by decide +kernel⟩
set_option maxRecDepth 8000 in
theorem lb_X11_looks : pq_LB yX11_looks cX11_looks 8 (some .int) 4 := ⟨pq_t1 12 rfl rfl, pq_t6 116 rfl rfl, by decide +kernel, by decide +kernel, by decide +kernel⟩
set_option maxRecDepth 8000 in
theorem lb_X11_failsAt : pq_LB yX11_failsAt cX11_failsAt 7 (some .int) 4 := ⟨pq_t1 12 rfl rfl, pq_t6 112 rfl rfl, by decide +kernel, by decide +kernel, by decide +kernel⟩
set_option maxRecDepth 8000 in
theorem lb_X11_notLooked : pq_LB yX11_notLooked cX11_notLooked 6 (some .int) 4 := ⟨pq_t1 12 rfl rfl, pq_t6 136 rfl rfl, by decide +kernel, by decide +kernel, by decide +kernel⟩
set_option maxRecDepth 8000 in
theorem lb_X11_divisor : pq_LB yX11_divisor cX11_divisor 10 (some .long) 2 := ⟨pq_t1 12 rfl rfl, pq_t6 146 rfl rfl, by decide +kernel, by decide +kernel, by decide +kernel⟩
set_option maxRecDepth 8000 in
theorem lb_X11_partOf : pq_LB yX11_partOf cX11_partOf 7 (some .long) 3 := ⟨pq_t1 12 rfl rfl, pq_t6 143 rfl rfl, by decide +kernel, by decide +kernel, by decide +kernel⟩
set_option maxRecDepth 8000 in
theorem lb_X11_ways : pq_LB yX11_ways cX11_ways 5 (some .long) 2 := ⟨pq_t1 12 rfl rfl, pq_t6 169 rfl rfl, by decide +kernel, by decide +kernel, by decide +kernel⟩
set_option maxRecDepth 8000 in
theorem lb_X11_isList : pq_LB yX11_isList cX11_isList 1 (some .boolean) 1 := ⟨pq_t1 12 rfl rfl, pq_t6 157 rfl rfl, by decide +kernel, by decide +kernel, by decide +kernel⟩
set_option maxRecDepth 8000 in
theorem lb_X11_isTold : pq_LB yX11_isTold cX11_isTold 4 (some .boolean) 1 := ⟨pq_t1 12 rfl rfl, pq_t6 162 rfl rfl, by decide +kernel, by decide +kernel, by decide +kernel⟩
set_option maxRecDepth 8000 in
theorem lb_X11_wallOf : pq_LB yX11_wallOf cX11_wallOf 7 (some .long) 3 := ⟨pq_t1 12 rfl rfl, pq_t6 166 rfl rfl, by decide +kernel, by decide +kernel, by decide +kernel⟩
set_option maxRecDepth 8000 in
theorem lb_X11_at : pq_LB yX11_at cX11_at 3 (some .long) 2 := ⟨pq_t1 12 rfl rfl, pq_t6 209 rfl rfl, by decide +kernel, by decide +kernel, by decide +kernel⟩
set_option maxRecDepth 8000 in
theorem lb_X11_two : pq_LB yX11_two cX11_two 5 (some .long) 4 := ⟨pq_t1 12 rfl rfl, pq_t6 213 rfl rfl, by decide +kernel, by decide +kernel, by decide +kernel⟩
set_option maxRecDepth 8000 in
theorem lb_X11_minor : pq_LB yX11_minor cX11_minor 5 (some .long) 4 := ⟨pq_t1 12 rfl rfl, pq_t6 205 rfl rfl, by decide +kernel, by decide +kernel, by decide +kernel⟩
set_option maxRecDepth 8000 in
theorem lb_X11_findsRows : pq_LB yX11_findsRows cX11_findsRows 5 (some .boolean) 4 := ⟨pq_t1 12 rfl rfl, pq_t6 201 rfl rfl, by decide +kernel, by decide +kernel, by decide +kernel⟩
set_option maxRecDepth 8000 in
theorem lb_X11_laysColumn : pq_LB yX11_laysColumn cX11_laysColumn 4 none 2 := ⟨pq_t1 12 rfl rfl, pq_t6 193 rfl rfl, by decide +kernel, by decide +kernel, by decide +kernel⟩
set_option maxRecDepth 8000 in
theorem lb_X11_isNew : pq_LB yX11_isNew cX11_isNew 1 (some .boolean) 0 := ⟨pq_t1 12 rfl rfl, pq_t6 197 rfl rfl, by decide +kernel, by decide +kernel, by decide +kernel⟩
set_option maxRecDepth 8000 in
theorem lb_X11_upOf : pq_LB yX11_upOf cX11_upOf 2 (some .long) 1 := ⟨pq_t1 12 rfl rfl, pq_t6 221 rfl rfl, by decide +kernel, by decide +kernel, by decide +kernel⟩
set_option maxRecDepth 8000 in
theorem lb_X11_isSmall : pq_LB yX11_isSmall cX11_isSmall 4 (some .boolean) 1 := ⟨pq_t1 12 rfl rfl, pq_t6 185 rfl rfl, by decide +kernel, by decide +kernel, by decide +kernel⟩
set_option maxRecDepth 8000 in
theorem lb_X11_isSetOf : pq_LB yX11_isSetOf cX11_isSetOf 6 (some .boolean) 2 := ⟨pq_t1 12 rfl rfl, pq_t6 181 rfl rfl, by decide +kernel, by decide +kernel, by decide +kernel⟩
set_option maxRecDepth 8000 in
theorem lb_X11_fillsColumns : pq_LB yX11_fillsColumns cX11_fillsColumns 3 none 1 := ⟨pq_t1 12 rfl rfl, pq_t6 189 rfl rfl, by decide +kernel, by decide +kernel, by decide +kernel⟩
set_option maxRecDepth 8000 in
theorem lb_X11_isMade : pq_LB yX11_isMade cX11_isMade 8 (some .boolean) 0 := ⟨pq_t1 12 rfl rfl, pq_t6 217 rfl rfl, by decide +kernel, by decide +kernel, by decide +kernel⟩
set_option maxRecDepth 8000 in
theorem lb_X11_puts : pq_LB yX11_puts cX11_puts 2 none 1 := ⟨pq_t1 12 rfl rfl, pq_t6 233 rfl rfl, by decide +kernel, by decide +kernel, by decide +kernel⟩
set_option maxRecDepth 8000 in
theorem lb_X11_putsNumber : pq_LB yX11_putsNumber cX11_putsNumber 3 none 1 := ⟨pq_t1 12 rfl rfl, pq_t6 237 rfl rfl, by decide +kernel, by decide +kernel, by decide +kernel⟩
set_option maxRecDepth 8000 in
theorem lb_X11_spells : pq_LB yX11_spells cX11_spells 7 none 1 := ⟨pq_t1 12 rfl rfl, pq_t6 229 rfl rfl, by decide +kernel, by decide +kernel, by decide +kernel⟩
set_option maxRecDepth 8000 in
theorem lb_X11_draw : pq_LB yX11_draw cX11_draw 2 (some .int) 1 := ⟨pq_t1 12 rfl rfl, pq_t7 5 rfl rfl, by decide +kernel, by decide +kernel, by decide +kernel⟩
set_option maxRecDepth 8000 in
theorem lb_X11_notPlace : pq_LB yX11_notPlace cX11_notPlace 3 (some .int) 2 := ⟨pq_t1 12 rfl rfl, pq_t7 20 rfl rfl, by decide +kernel, by decide +kernel, by decide +kernel⟩
set_option maxRecDepth 8000 in
theorem lb_X11_passOne : pq_LB yX11_passOne cX11_passOne 3 (some .int) 1 := ⟨pq_t1 12 rfl rfl, pq_t7 44 rfl rfl, by decide +kernel, by decide +kernel, by decide +kernel⟩
set_option maxRecDepth 8000 in
theorem lb_X11_passesAll : pq_LB yX11_passesAll cX11_passesAll 3 none 1 := ⟨pq_t1 12 rfl rfl, pq_t7 40 rfl rfl, by decide +kernel, by decide +kernel, by decide +kernel⟩
set_option maxRecDepth 8000 in
theorem lb_X11_allTerms : pq_LB yX11_allTerms cX11_allTerms 3 (some .int) 0 := ⟨pq_t1 12 rfl rfl, pq_t7 56 rfl rfl, by decide +kernel, by decide +kernel, by decide +kernel⟩
set_option maxRecDepth 8000 in
theorem lb_X11_clearOnes : pq_LB yX11_clearOnes cX11_clearOnes 3 (some .int) 0 := ⟨pq_t1 12 rfl rfl, pq_t7 60 rfl rfl, by decide +kernel, by decide +kernel, by decide +kernel⟩
set_option maxRecDepth 8000 in
theorem lk_X8_31 : Cond.methodLink RX8 31 Lib.Math.min.name ∈ pq_G ∧ Cond.static Lib.Math.min.name ∈ pq_G ∧ Cond.initialized "java/lang/Math" ∈ pq_G ∧ Cond.code Lib.Math.min.name Lib.Math.min.code 2 (some .int) ∈ pq_G := ⟨pq_t3 74 rfl rfl, pq_t3 75 rfl rfl, pq_t1 17 rfl rfl, pq_t3 76 rfl rfl⟩
set_option maxRecDepth 8000 in
theorem lk_X10_222 : Cond.methodLink RX10 222 Lib.Math.max.name ∈ pq_G ∧ Cond.static Lib.Math.max.name ∈ pq_G ∧ Cond.initialized "java/lang/Math" ∈ pq_G ∧ Cond.code Lib.Math.max.name Lib.Math.max.code 2 (some .int) ∈ pq_G := ⟨pq_t4 5 rfl rfl, pq_t4 6 rfl rfl, pq_t1 17 rfl rfl, pq_t4 7 rfl rfl⟩
set_option maxRecDepth 8000 in
theorem lk_X6_66 : Cond.methodLink RX6 66 Lib.Math.abs.name ∈ pq_G ∧ Cond.static Lib.Math.abs.name ∈ pq_G ∧ Cond.initialized "java/lang/Math" ∈ pq_G ∧ Cond.code Lib.Math.abs.name Lib.Math.abs.code 1 (some .int) ∈ pq_G := ⟨pq_t4 30 rfl rfl, pq_t4 31 rfl rfl, pq_t1 17 rfl rfl, pq_t4 32 rfl rfl⟩
set_option maxRecDepth 8000 in
theorem lk_X7_38 : Cond.methodLink RX7 38 Lib.Math.abs.name ∈ pq_G ∧ Cond.static Lib.Math.abs.name ∈ pq_G ∧ Cond.initialized "java/lang/Math" ∈ pq_G ∧ Cond.code Lib.Math.abs.name Lib.Math.abs.code 1 (some .int) ∈ pq_G := ⟨pq_t4 103 rfl rfl, pq_t4 31 rfl rfl, pq_t1 17 rfl rfl, pq_t4 32 rfl rfl⟩
set_option maxRecDepth 8000 in
theorem lk_X10_321 : Cond.methodLink RX10 321 Lib.MathLoose.abs_long.x ∈ pq_G ∧ Cond.static Lib.MathLoose.abs_long.x ∈ pq_G ∧ Cond.initialized "java/lang/Math" ∈ pq_G ∧ Cond.code Lib.MathLoose.abs_long.x Lib.MathLoose.abs_long.code 2 (some .long) ∈ pq_G := ⟨pq_t3 210 rfl rfl, pq_t3 211 rfl rfl, pq_t1 17 rfl rfl, pq_t3 212 rfl rfl⟩
set_option maxRecDepth 8000 in
theorem k_X6_149 : Cond.constantLong RX6 149 (-1000000) ∈ pq_G := pq_t3 6 rfl rfl
set_option maxRecDepth 8000 in
theorem k_X6_151 : Cond.constantLong RX6 151 1000000 ∈ pq_G := pq_t3 7 rfl rfl
set_option maxRecDepth 8000 in
theorem k_X10_300 : Cond.constant RX10 300 1000000000 ∈ pq_G := pq_t3 67 rfl rfl
set_option maxRecDepth 8000 in
theorem k_X10_118 : Cond.constant RX10 118 (-1000000) ∈ pq_G := pq_t3 68 rfl rfl
set_option maxRecDepth 8000 in
theorem k_X10_119 : Cond.constant RX10 119 1000000 ∈ pq_G := pq_t3 69 rfl rfl
set_option maxRecDepth 8000 in
theorem k_X10_301 : Cond.constantLong RX10 301 4000000000000000000 ∈ pq_G := pq_t3 113 rfl rfl
set_option maxRecDepth 8000 in
theorem k_J6_265 : Cond.constant RJ6 265 1431655765 ∈ pq_G := pq_t3 134 rfl rfl
set_option maxRecDepth 8000 in
theorem k_J6_266 : Cond.constant RJ6 266 858993459 ∈ pq_G := pq_t3 135 rfl rfl
set_option maxRecDepth 8000 in
theorem k_J6_267 : Cond.constant RJ6 267 252645135 ∈ pq_G := pq_t3 136 rfl rfl
set_option maxRecDepth 8000 in
theorem k_X4_20 : Cond.constant RX4 20 (-1000000) ∈ pq_G := pq_t3 232 rfl rfl
set_option maxRecDepth 8000 in
theorem k_X4_21 : Cond.constant RX4 21 1000000 ∈ pq_G := pq_t3 233 rfl rfl
set_option maxRecDepth 8000 in
theorem k_X10_335 : Cond.constant RX10 335 1664525 ∈ pq_G := pq_t4 122 rfl rfl
set_option maxRecDepth 8000 in
theorem k_X10_336 : Cond.constant RX10 336 1013904223 ∈ pq_G := pq_t4 123 rfl rfl
set_option maxRecDepth 8000 in
theorem k_X10_337 : Cond.constant RX10 337 2147483647 ∈ pq_G := pq_t4 127 rfl rfl
set_option maxRecDepth 8000 in
theorem k_X11_122 : Cond.constantLong RX11 122 (-1000000) ∈ pq_G := pq_t5 148 rfl rfl
set_option maxRecDepth 8000 in
theorem k_X11_124 : Cond.constantLong RX11 124 1000000 ∈ pq_G := pq_t5 149 rfl rfl
set_option maxRecDepth 8000 in
theorem k_X11_215 : Cond.constant RX11 215 (-1000000) ∈ pq_G := pq_t6 31 rfl rfl
set_option maxRecDepth 8000 in
theorem k_X11_216 : Cond.constant RX11 216 1000000 ∈ pq_G := pq_t6 32 rfl rfl
set_option maxRecDepth 8000 in
theorem k_X11_7 : Cond.constant RX11 7 1000000000 ∈ pq_G := pq_t6 37 rfl rfl
set_option maxRecDepth 8000 in
theorem k_X11_12 : Cond.constantLong RX11 12 4000000000000000000 ∈ pq_G := pq_t6 70 rfl rfl
set_option maxRecDepth 8000 in
theorem k_X11_313 : Cond.constantLong RX11 313 4000000000000000011 ∈ pq_G := pq_t6 158 rfl rfl
set_option maxRecDepth 8000 in
theorem k_X11_382 : Cond.constant RX11 382 1664525 ∈ pq_G := pq_t7 6 rfl rfl
set_option maxRecDepth 8000 in
theorem k_X11_383 : Cond.constant RX11 383 1013904223 ∈ pq_G := pq_t7 7 rfl rfl
set_option maxRecDepth 8000 in
theorem k_X11_384 : Cond.constant RX11 384 2147483647 ∈ pq_G := pq_t7 8 rfl rfl
