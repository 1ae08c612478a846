def RX0 : String := "FormsAboveNought$ActReader"
def RX1 : String := "FormsAboveNought$Form"
def RX2 : String := "FormsAboveNought$FormReader"
def RX3 : String := "FormsAboveNought$Letters"
def RX4 : String := "FormsAboveNought$Lists"
def RX5 : String := "FormsAboveNought$Maker"
def RX6 : String := "FormsAboveNought$Shelf"
def RX7 : String := "FormsAboveNought$Speller"
def RX8 : String := "FormsAboveNought$UndoLog"
def RX9 : String := "FormsAboveNought$Work"
def RX10 : String := "FormsAboveNought"
def RX11 : String := "FormsAboveNoughtModel"
def RJ6 : String := "java/lang/Integer"
def RJ9 : String := "java/lang/Math"
def RL : String := "FormsAboveNoughtLaw"
def TX0 : u_T := fun k => match k with
  | 0 => ("FormsAboveNought$ActReader", "word", "[I", true)
  | 1 => ("FormsAboveNought$ActReader", "place", "[I", true)
  | 2 => ("FormsAboveNought$ActReader", "first", "[I", true)
  | 3 => ("FormsAboveNought$ActReader", "second", "[I", true)
  | 4 => ("FormsAboveNought$ActReader", "size", "I", false)
  | 5 => ("FormsAboveNought$ActReader", "letters", "LFormsAboveNought$Letters;", false)
  | _ => ("FormsAboveNought$ActReader", "now", "I", false)
def tyX0 : Nat → FieldType := fun k => match k with
  | 0 => .array .int
  | 1 => .array .int
  | 2 => .array .int
  | 3 => .array .int
  | 4 => .int
  | 5 => .object "FormsAboveNought$Letters"
  | _ => .int
set_option maxRecDepth 8000 in
theorem nmX0 : ∀ a, a < 7 → ∀ b, b < 7 → a ≠ b → (TX0 a).2.1 ≠ (TX0 b).2.1 := by decide +kernel
set_option maxRecDepth 8000 in
theorem tyX0_ok : ∀ k, k < 7 → parseFieldDescriptor (TX0 k).2.2.1 = some (tyX0 k) := by decide +kernel
set_option maxRecDepth 8000 in
theorem uw_X0 : ∀ w ∈ u_ws RX0 TX0 7, w ∈ pq_G := by
  show ∀ w ∈ [u_lay RX0 TX0 0, u_lay RX0 TX0 1, u_lay RX0 TX0 2, u_lay RX0 TX0 3, u_lay RX0 TX0 4, u_lay RX0 TX0 5, u_lay RX0 TX0 6], w ∈ pq_G
  exact List.forall_mem_cons.mpr ⟨pq_t1 146 rfl rfl, List.forall_mem_cons.mpr ⟨pq_t1 148 rfl rfl, List.forall_mem_cons.mpr ⟨pq_t1 150 rfl rfl, List.forall_mem_cons.mpr ⟨pq_t1 152 rfl rfl, List.forall_mem_cons.mpr ⟨pq_t1 154 rfl rfl, List.forall_mem_cons.mpr ⟨pq_t1 156 rfl rfl, List.forall_mem_cons.mpr ⟨pq_t1 158 rfl rfl, fun _ z => absurd z List.not_mem_nil⟩⟩⟩⟩⟩⟩⟩
def TX1 : u_T := fun k => match k with
  | 0 => ("FormsAboveNought$Form", "told", "[I", true)
  | 1 => ("FormsAboveNought$Form", "kind", "I", false)
  | 2 => ("FormsAboveNought$Form", "figure", "I", false)
  | _ => ("FormsAboveNought$Form", "degree", "I", false)
def tyX1 : Nat → FieldType := fun k => match k with
  | 0 => .array .int
  | 1 => .int
  | 2 => .int
  | _ => .int
set_option maxRecDepth 8000 in
theorem nmX1 : ∀ a, a < 4 → ∀ b, b < 4 → a ≠ b → (TX1 a).2.1 ≠ (TX1 b).2.1 := by decide +kernel
set_option maxRecDepth 8000 in
theorem tyX1_ok : ∀ k, k < 4 → parseFieldDescriptor (TX1 k).2.2.1 = some (tyX1 k) := by decide +kernel
set_option maxRecDepth 8000 in
theorem uw_X1 : ∀ w ∈ u_ws RX1 TX1 4, w ∈ pq_G := by
  show ∀ w ∈ [u_lay RX1 TX1 0, u_lay RX1 TX1 1, u_lay RX1 TX1 2, u_lay RX1 TX1 3], w ∈ pq_G
  exact List.forall_mem_cons.mpr ⟨pq_t1 68 rfl rfl, List.forall_mem_cons.mpr ⟨pq_t1 70 rfl rfl, List.forall_mem_cons.mpr ⟨pq_t1 72 rfl rfl, List.forall_mem_cons.mpr ⟨pq_t1 74 rfl rfl, fun _ z => absurd z List.not_mem_nil⟩⟩⟩⟩
def TX2 : u_T := fun k => match k with
  | 0 => ("FormsAboveNought$FormReader", "power", "[I", true)
  | 1 => ("FormsAboveNought$FormReader", "letters", "LFormsAboveNought$Letters;", false)
  | 2 => ("FormsAboveNought$FormReader", "place", "I", false)
  | 3 => ("FormsAboveNought$FormReader", "degree", "I", false)
  | _ => ("FormsAboveNought$FormReader", "firstDegree", "I", false)
def tyX2 : Nat → FieldType := fun k => match k with
  | 0 => .array .int
  | 1 => .object "FormsAboveNought$Letters"
  | 2 => .int
  | 3 => .int
  | _ => .int
set_option maxRecDepth 8000 in
theorem nmX2 : ∀ a, a < 5 → ∀ b, b < 5 → a ≠ b → (TX2 a).2.1 ≠ (TX2 b).2.1 := by decide +kernel
set_option maxRecDepth 8000 in
theorem tyX2_ok : ∀ k, k < 5 → parseFieldDescriptor (TX2 k).2.2.1 = some (tyX2 k) := by decide +kernel
set_option maxRecDepth 8000 in
theorem uw_X2 : ∀ w ∈ u_ws RX2 TX2 5, w ∈ pq_G := by
  show ∀ w ∈ [u_lay RX2 TX2 0, u_lay RX2 TX2 1, u_lay RX2 TX2 2, u_lay RX2 TX2 3, u_lay RX2 TX2 4], w ∈ pq_G
  exact List.forall_mem_cons.mpr ⟨pq_t1 125 rfl rfl, List.forall_mem_cons.mpr ⟨pq_t1 127 rfl rfl, List.forall_mem_cons.mpr ⟨pq_t1 129 rfl rfl, List.forall_mem_cons.mpr ⟨pq_t1 131 rfl rfl, List.forall_mem_cons.mpr ⟨pq_t1 133 rfl rfl, fun _ z => absurd z List.not_mem_nil⟩⟩⟩⟩⟩
def TX3 : u_T := fun k => match k with
  | 0 => ("FormsAboveNought$Letters", "row", "[I", true)
  | _ => ("FormsAboveNought$Letters", "size", "I", false)
def tyX3 : Nat → FieldType := fun k => match k with
  | 0 => .array .int
  | _ => .int
set_option maxRecDepth 8000 in
theorem nmX3 : ∀ a, a < 2 → ∀ b, b < 2 → a ≠ b → (TX3 a).2.1 ≠ (TX3 b).2.1 := by decide +kernel
set_option maxRecDepth 8000 in
theorem tyX3_ok : ∀ k, k < 2 → parseFieldDescriptor (TX3 k).2.2.1 = some (tyX3 k) := by decide +kernel
set_option maxRecDepth 8000 in
theorem uw_X3 : ∀ w ∈ u_ws RX3 TX3 2, w ∈ pq_G := by
  show ∀ w ∈ [u_lay RX3 TX3 0, u_lay RX3 TX3 1], w ∈ pq_G
  exact List.forall_mem_cons.mpr ⟨pq_t1 109 rfl rfl, List.forall_mem_cons.mpr ⟨pq_t1 111 rfl rfl, fun _ z => absurd z List.not_mem_nil⟩⟩
def TX4 : u_T := fun k => match k with
  | 0 => ("FormsAboveNought$Lists", "row", "[[I", true)
  | _ => ("FormsAboveNought$Lists", "size", "[I", true)
def tyX4 : Nat → FieldType := fun k => match k with
  | 0 => .array (.array .int)
  | _ => .array .int
set_option maxRecDepth 8000 in
theorem nmX4 : ∀ a, a < 2 → ∀ b, b < 2 → a ≠ b → (TX4 a).2.1 ≠ (TX4 b).2.1 := by decide +kernel
set_option maxRecDepth 8000 in
theorem tyX4_ok : ∀ k, k < 2 → parseFieldDescriptor (TX4 k).2.2.1 = some (tyX4 k) := by decide +kernel
set_option maxRecDepth 8000 in
theorem uw_X4 : ∀ w ∈ u_ws RX4 TX4 2, w ∈ pq_G := by
  show ∀ w ∈ [u_lay RX4 TX4 0, u_lay RX4 TX4 1], w ∈ pq_G
  exact List.forall_mem_cons.mpr ⟨pq_t1 236 rfl rfl, List.forall_mem_cons.mpr ⟨pq_t1 238 rfl rfl, fun _ z => absurd z List.not_mem_nil⟩⟩
def TX5 : u_T := fun k => match k with
  | 0 => ("FormsAboveNought$Maker", "cell", "[[J", true)
  | 1 => ("FormsAboveNought$Maker", "leads", "[I", true)
  | 2 => ("FormsAboveNought$Maker", "rows", "I", false)
  | _ => ("FormsAboveNought$Maker", "columns", "I", false)
def tyX5 : Nat → FieldType := fun k => match k with
  | 0 => .array (.array .long)
  | 1 => .array .int
  | 2 => .int
  | _ => .int
set_option maxRecDepth 8000 in
theorem nmX5 : ∀ a, a < 4 → ∀ b, b < 4 → a ≠ b → (TX5 a).2.1 ≠ (TX5 b).2.1 := by decide +kernel
set_option maxRecDepth 8000 in
theorem tyX5_ok : ∀ k, k < 4 → parseFieldDescriptor (TX5 k).2.2.1 = some (tyX5 k) := by decide +kernel
set_option maxRecDepth 8000 in
theorem uw_X5 : ∀ w ∈ u_ws RX5 TX5 4, w ∈ pq_G := by
  show ∀ w ∈ [u_lay RX5 TX5 0, u_lay RX5 TX5 1, u_lay RX5 TX5 2, u_lay RX5 TX5 3], w ∈ pq_G
  exact List.forall_mem_cons.mpr ⟨pq_t1 189 rfl rfl, List.forall_mem_cons.mpr ⟨pq_t1 191 rfl rfl, List.forall_mem_cons.mpr ⟨pq_t1 193 rfl rfl, List.forall_mem_cons.mpr ⟨pq_t1 195 rfl rfl, fun _ z => absurd z List.not_mem_nil⟩⟩⟩⟩
def TX6 : u_T := fun k => match k with
  | 0 => ("FormsAboveNought$Shelf", "forms", "[LFormsAboveNought$Form;", true)
  | 1 => ("FormsAboveNought$Shelf", "kept", "[LFormsAboveNought$Form;", true)
  | 2 => ("FormsAboveNought$Shelf", "work", "LFormsAboveNought$Work;", true)
  | 3 => ("FormsAboveNought$Shelf", "size", "I", false)
  | _ => ("FormsAboveNought$Shelf", "keptSize", "I", false)
def tyX6 : Nat → FieldType := fun k => match k with
  | 0 => .array (.object "FormsAboveNought$Form")
  | 1 => .array (.object "FormsAboveNought$Form")
  | 2 => .object "FormsAboveNought$Work"
  | 3 => .int
  | _ => .int
set_option maxRecDepth 8000 in
theorem nmX6 : ∀ a, a < 5 → ∀ b, b < 5 → a ≠ b → (TX6 a).2.1 ≠ (TX6 b).2.1 := by decide +kernel
set_option maxRecDepth 8000 in
theorem tyX6_ok : ∀ k, k < 5 → parseFieldDescriptor (TX6 k).2.2.1 = some (tyX6 k) := by decide +kernel
set_option maxRecDepth 8000 in
theorem uw_X6 : ∀ w ∈ u_ws RX6 TX6 5, w ∈ pq_G := by
  show ∀ w ∈ [u_lay RX6 TX6 0, u_lay RX6 TX6 1, u_lay RX6 TX6 2, u_lay RX6 TX6 3, u_lay RX6 TX6 4], w ∈ pq_G
  exact List.forall_mem_cons.mpr ⟨pq_t1 88 rfl rfl, List.forall_mem_cons.mpr ⟨pq_t1 90 rfl rfl, List.forall_mem_cons.mpr ⟨pq_t1 92 rfl rfl, List.forall_mem_cons.mpr ⟨pq_t1 94 rfl rfl, List.forall_mem_cons.mpr ⟨pq_t1 96 rfl rfl, fun _ z => absurd z List.not_mem_nil⟩⟩⟩⟩⟩
def TX7 : u_T := fun k => match k with
  | 0 => ("FormsAboveNought$Speller", "length", "I", false)
  | 1 => ("FormsAboveNought$Speller", "found", "I", false)
  | _ => ("FormsAboveNought$Speller", "wanted", "I", false)
def tyX7 : Nat → FieldType := fun k => match k with
  | 0 => .int
  | 1 => .int
  | _ => .int
set_option maxRecDepth 8000 in
theorem nmX7 : ∀ a, a < 3 → ∀ b, b < 3 → a ≠ b → (TX7 a).2.1 ≠ (TX7 b).2.1 := by decide +kernel
set_option maxRecDepth 8000 in
theorem tyX7_ok : ∀ k, k < 3 → parseFieldDescriptor (TX7 k).2.2.1 = some (tyX7 k) := by decide +kernel
set_option maxRecDepth 8000 in
theorem uw_X7 : ∀ w ∈ u_ws RX7 TX7 3, w ∈ pq_G := by
  show ∀ w ∈ [u_lay RX7 TX7 0, u_lay RX7 TX7 1, u_lay RX7 TX7 2], w ∈ pq_G
  exact List.forall_mem_cons.mpr ⟨pq_t1 172 rfl rfl, List.forall_mem_cons.mpr ⟨pq_t1 174 rfl rfl, List.forall_mem_cons.mpr ⟨pq_t1 176 rfl rfl, fun _ z => absurd z List.not_mem_nil⟩⟩⟩
def TX8 : u_T := fun k => match k with
  | 0 => ("FormsAboveNought$UndoLog", "size", "I", false)
  | 1 => ("FormsAboveNought$UndoLog", "form", "[I", true)
  | 2 => ("FormsAboveNought$UndoLog", "term", "[I", true)
  | 3 => ("FormsAboveNought$UndoLog", "first", "[I", true)
  | 4 => ("FormsAboveNought$UndoLog", "second", "[I", true)
  | _ => ("FormsAboveNought$UndoLog", "next", "I", false)
def tyX8 : Nat → FieldType := fun k => match k with
  | 0 => .int
  | 1 => .array .int
  | 2 => .array .int
  | 3 => .array .int
  | 4 => .array .int
  | _ => .int
set_option maxRecDepth 8000 in
theorem nmX8 : ∀ a, a < 6 → ∀ b, b < 6 → a ≠ b → (TX8 a).2.1 ≠ (TX8 b).2.1 := by decide +kernel
set_option maxRecDepth 8000 in
theorem tyX8_ok : ∀ k, k < 6 → parseFieldDescriptor (TX8 k).2.2.1 = some (tyX8 k) := by decide +kernel
set_option maxRecDepth 8000 in
theorem uw_X8 : ∀ w ∈ u_ws RX8 TX8 6, w ∈ pq_G := by
  show ∀ w ∈ [u_lay RX8 TX8 0, u_lay RX8 TX8 1, u_lay RX8 TX8 2, u_lay RX8 TX8 3, u_lay RX8 TX8 4, u_lay RX8 TX8 5], w ∈ pq_G
  exact List.forall_mem_cons.mpr ⟨pq_t1 211 rfl rfl, List.forall_mem_cons.mpr ⟨pq_t1 213 rfl rfl, List.forall_mem_cons.mpr ⟨pq_t1 215 rfl rfl, List.forall_mem_cons.mpr ⟨pq_t1 217 rfl rfl, List.forall_mem_cons.mpr ⟨pq_t1 219 rfl rfl, List.forall_mem_cons.mpr ⟨pq_t1 221 rfl rfl, fun _ z => absurd z List.not_mem_nil⟩⟩⟩⟩⟩⟩
def TX9 : u_T := fun k => match k with
  | 0 => ("FormsAboveNought$Work", "cell", "[J", true)
  | _ => ("FormsAboveNought$Work", "degree", "I", false)
def tyX9 : Nat → FieldType := fun k => match k with
  | 0 => .array .long
  | _ => .int
set_option maxRecDepth 8000 in
theorem nmX9 : ∀ a, a < 2 → ∀ b, b < 2 → a ≠ b → (TX9 a).2.1 ≠ (TX9 b).2.1 := by decide +kernel
set_option maxRecDepth 8000 in
theorem tyX9_ok : ∀ k, k < 2 → parseFieldDescriptor (TX9 k).2.2.1 = some (tyX9 k) := by decide +kernel
set_option maxRecDepth 8000 in
theorem uw_X9 : ∀ w ∈ u_ws RX9 TX9 2, w ∈ pq_G := by
  show ∀ w ∈ [u_lay RX9 TX9 0, u_lay RX9 TX9 1], w ∈ pq_G
  exact List.forall_mem_cons.mpr ⟨pq_t1 40 rfl rfl, List.forall_mem_cons.mpr ⟨pq_t1 42 rfl rfl, fun _ z => absurd z List.not_mem_nil⟩⟩
def TX10 : u_T := fun k => match k with
  | 0 => ("FormsAboveNought", "shelf", "LFormsAboveNought$Shelf;", true)
  | 1 => ("FormsAboveNought", "letters", "LFormsAboveNought$Letters;", true)
  | 2 => ("FormsAboveNought", "formReader", "LFormsAboveNought$FormReader;", true)
  | 3 => ("FormsAboveNought", "actReader", "LFormsAboveNought$ActReader;", true)
  | 4 => ("FormsAboveNought", "speller", "LFormsAboveNought$Speller;", true)
  | 5 => ("FormsAboveNought", "maker", "LFormsAboveNought$Maker;", true)
  | 6 => ("FormsAboveNought", "log", "LFormsAboveNought$UndoLog;", true)
  | 7 => ("FormsAboveNought", "lists", "LFormsAboveNought$Lists;", true)
  | _ => ("FormsAboveNought", "refusals", "[I", true)
def tyX10 : Nat → FieldType := fun k => match k with
  | 0 => .object "FormsAboveNought$Shelf"
  | 1 => .object "FormsAboveNought$Letters"
  | 2 => .object "FormsAboveNought$FormReader"
  | 3 => .object "FormsAboveNought$ActReader"
  | 4 => .object "FormsAboveNought$Speller"
  | 5 => .object "FormsAboveNought$Maker"
  | 6 => .object "FormsAboveNought$UndoLog"
  | 7 => .object "FormsAboveNought$Lists"
  | _ => .array .int
set_option maxRecDepth 8000 in
theorem nmX10 : ∀ a, a < 9 → ∀ b, b < 9 → a ≠ b → (TX10 a).2.1 ≠ (TX10 b).2.1 := by decide +kernel
set_option maxRecDepth 8000 in
theorem tyX10_ok : ∀ k, k < 9 → parseFieldDescriptor (TX10 k).2.2.1 = some (tyX10 k) := by decide +kernel
set_option maxRecDepth 8000 in
theorem uw_X10 : ∀ w ∈ u_ws RX10 TX10 9, w ∈ pq_G := by
  show ∀ w ∈ [u_lay RX10 TX10 0, u_lay RX10 TX10 1, u_lay RX10 TX10 2, u_lay RX10 TX10 3, u_lay RX10 TX10 4, u_lay RX10 TX10 5, u_lay RX10 TX10 6, u_lay RX10 TX10 7, u_lay RX10 TX10 8], w ∈ pq_G
  exact List.forall_mem_cons.mpr ⟨pq_t2 10 rfl rfl, List.forall_mem_cons.mpr ⟨pq_t2 12 rfl rfl, List.forall_mem_cons.mpr ⟨pq_t2 14 rfl rfl, List.forall_mem_cons.mpr ⟨pq_t2 16 rfl rfl, List.forall_mem_cons.mpr ⟨pq_t2 18 rfl rfl, List.forall_mem_cons.mpr ⟨pq_t2 20 rfl rfl, List.forall_mem_cons.mpr ⟨pq_t2 22 rfl rfl, List.forall_mem_cons.mpr ⟨pq_t2 24 rfl rfl, List.forall_mem_cons.mpr ⟨pq_t2 26 rfl rfl, fun _ z => absurd z List.not_mem_nil⟩⟩⟩⟩⟩⟩⟩⟩⟩
abbrev vwCl : List vw_C := [(RX0, TX0, 7), (RX1, TX1, 4), (RX2, TX2, 5), (RX3, TX3, 2), (RX4, TX4, 2), (RX5, TX5, 4), (RX6, TX6, 5), (RX7, TX7, 3), (RX8, TX8, 6), (RX9, TX9, 2), (RX10, TX10, 9)]
abbrev cX0_init : ByteArray := prog_2_method_1_code
def yX0_init : MethodName := ⟨RX0, "<init>", "()V"⟩
abbrev cX1_init : ByteArray := prog_3_method_1_code
def yX1_init : MethodName := ⟨RX1, "<init>", "()V"⟩
abbrev cX1_makeNought : ByteArray := prog_3_method_2_code
def yX1_makeNought : MethodName := ⟨RX1, "makeNought", "()V"⟩
abbrev cX1_copyOf : ByteArray := prog_3_method_3_code
def yX1_copyOf : MethodName := ⟨RX1, "copyOf", "(LFormsAboveNought$Form;)V"⟩
abbrev cX1_has : ByteArray := prog_3_method_4_code
def yX1_has : MethodName := ⟨RX1, "has", "(III)I"⟩
abbrev cX1_at : ByteArray := prog_3_method_5_code
def yX1_at : MethodName := ⟨RX1, "at", "(I)I"⟩
abbrev cX1_howMany : ByteArray := prog_3_method_6_code
def yX1_howMany : MethodName := ⟨RX1, "howMany", "(Z)I"⟩
abbrev cX2_init : ByteArray := prog_4_method_1_code
def yX2_init : MethodName := ⟨RX2, "<init>", "()V"⟩
abbrev cX2_read : ByteArray := prog_4_method_2_code
def yX2_read : MethodName := ⟨RX2, "read", "(LFormsAboveNought$Letters;LFormsAboveNought$Form;)I"⟩
abbrev cX2_readMember : ByteArray := prog_4_method_3_code
def yX2_readMember : MethodName := ⟨RX2, "readMember", "(LFormsAboveNought$Form;Z)Z"⟩
abbrev cX2_readNumber : ByteArray := prog_4_method_4_code
def yX2_readNumber : MethodName := ⟨RX2, "readNumber", "()I"⟩
abbrev cX2_readPower : ByteArray := prog_4_method_5_code
def yX2_readPower : MethodName := ⟨RX2, "readPower", "(I)Z"⟩
abbrev cX2_fits : ByteArray := prog_4_method_6_code
def yX2_fits : MethodName := ⟨RX2, "fits", "(I)Z"⟩
abbrev cX3_init : ByteArray := prog_5_method_1_code
def yX3_init : MethodName := ⟨RX3, "<init>", "()V"⟩
abbrev cX3_add : ByteArray := prog_5_method_2_code
def yX3_add : MethodName := ⟨RX3, "add", "(I)V"⟩
abbrev cX3_at : ByteArray := prog_5_method_3_code
def yX3_at : MethodName := ⟨RX3, "at", "(I)I"⟩
abbrev cX3_hasDigit : ByteArray := prog_5_method_4_code
def yX3_hasDigit : MethodName := ⟨RX3, "hasDigit", "(I)Z"⟩
abbrev cX4_init : ByteArray := prog_6_method_1_code
def yX4_init : MethodName := ⟨RX4, "<init>", "()V"⟩
abbrev cX4_misses : ByteArray := prog_6_method_2_code
def yX4_misses : MethodName := ⟨RX4, "misses", "(I)Z"⟩
abbrev cX4_renew : ByteArray := prog_6_method_3_code
def yX4_renew : MethodName := ⟨RX4, "renew", "(II)V"⟩
abbrev cX4_isPolynomial : ByteArray := prog_6_method_4_code
def yX4_isPolynomial : MethodName := ⟨RX4, "isPolynomial", "(I)Z"⟩
abbrev cX4_wall : ByteArray := prog_6_method_5_code
def yX4_wall : MethodName := ⟨RX4, "wall", "(III)J"⟩
abbrev cX4_wallsClear : ByteArray := prog_6_method_6_code
def yX4_wallsClear : MethodName := ⟨RX4, "wallsClear", "(III)Z"⟩
abbrev cX4_ways : ByteArray := prog_6_method_7_code
def yX4_ways : MethodName := ⟨RX4, "ways", "(II)J"⟩
abbrev cX5_init : ByteArray := prog_7_method_1_code
def yX5_init : MethodName := ⟨RX5, "<init>", "()V"⟩
abbrev cX6_init : ByteArray := prog_8_method_1_code
def yX6_init : MethodName := ⟨RX6, "<init>", "()V"⟩
abbrev cX6_isFull : ByteArray := prog_8_method_2_code
def yX6_isFull : MethodName := ⟨RX6, "isFull", "()Z"⟩
abbrev cX6_lacks : ByteArray := prog_8_method_3_code
def yX6_lacks : MethodName := ⟨RX6, "lacks", "(I)Z"⟩
abbrev cX6_keepImage : ByteArray := prog_8_method_5_code
def yX6_keepImage : MethodName := ⟨RX6, "keepImage", "()V"⟩
abbrev cX6_restoreImage : ByteArray := prog_8_method_6_code
def yX6_restoreImage : MethodName := ⟨RX6, "restoreImage", "()V"⟩
abbrev cX6_termsOfAll : ByteArray := prog_8_method_7_code
def yX6_termsOfAll : MethodName := ⟨RX6, "termsOfAll", "()I"⟩
abbrev cX6_clearForms : ByteArray := prog_8_method_8_code
def yX6_clearForms : MethodName := ⟨RX6, "clearForms", "()I"⟩
abbrev cX6_bringSum : ByteArray := prog_8_method_13_code
def yX6_bringSum : MethodName := ⟨RX6, "bringSum", "(II)Z"⟩
abbrev cX6_bringProduct : ByteArray := prog_8_method_14_code
def yX6_bringProduct : MethodName := ⟨RX6, "bringProduct", "(II)Z"⟩
abbrev cX6_addTimes : ByteArray := prog_8_method_15_code
def yX6_addTimes : MethodName := ⟨RX6, "addTimes", "(JIILFormsAboveNought$Form;)V"⟩
abbrev cX6_bringLift : ByteArray := prog_8_method_16_code
def yX6_bringLift : MethodName := ⟨RX6, "bringLift", "(II)Z"⟩
abbrev cX6_bringNegative : ByteArray := prog_8_method_17_code
def yX6_bringNegative : MethodName := ⟨RX6, "bringNegative", "(I)Z"⟩
abbrev cX6_bringOn : ByteArray := prog_8_method_18_code
def yX6_bringOn : MethodName := ⟨RX6, "bringOn", "(II)Z"⟩
abbrev cX6_settle : ByteArray := prog_8_method_19_code
def yX6_settle : MethodName := ⟨RX6, "settle", "()Z"⟩
abbrev cX7_init : ByteArray := prog_9_method_1_code
def yX7_init : MethodName := ⟨RX7, "<init>", "()V"⟩
abbrev cX7_spell : ByteArray := prog_9_method_2_code
def yX7_spell : MethodName := ⟨RX7, "spell", "(LFormsAboveNought$Form;I)V"⟩
abbrev cX7_spellTerm : ByteArray := prog_9_method_3_code
def yX7_spellTerm : MethodName := ⟨RX7, "spellTerm", "(LFormsAboveNought$Form;III)V"⟩
abbrev cX7_spellNumber : ByteArray := prog_9_method_4_code
def yX7_spellNumber : MethodName := ⟨RX7, "spellNumber", "(I)V"⟩
abbrev cX7_spellPower : ByteArray := prog_9_method_5_code
def yX7_spellPower : MethodName := ⟨RX7, "spellPower", "(II)V"⟩
abbrev cX7_add : ByteArray := prog_9_method_6_code
def yX7_add : MethodName := ⟨RX7, "add", "(I)V"⟩
abbrev cX8_init : ByteArray := prog_10_method_1_code
def yX8_init : MethodName := ⟨RX8, "<init>", "()V"⟩
abbrev cX8_add : ByteArray := prog_10_method_2_code
def yX8_add : MethodName := ⟨RX8, "add", "(IIII)V"⟩
abbrev cX8_takeBack : ByteArray := prog_10_method_3_code
def yX8_takeBack : MethodName := ⟨RX8, "takeBack", "(LFormsAboveNought$Shelf;)V"⟩
abbrev cX9_init : ByteArray := prog_11_method_1_code
def yX9_init : MethodName := ⟨RX9, "<init>", "()V"⟩
abbrev cX9_makeNought : ByteArray := prog_11_method_2_code
def yX9_makeNought : MethodName := ⟨RX9, "makeNought", "(I)V"⟩
abbrev cX9_takeOn : ByteArray := prog_11_method_3_code
def yX9_takeOn : MethodName := ⟨RX9, "takeOn", "(LFormsAboveNought$Form;I)V"⟩
abbrev cX9_raise : ByteArray := prog_11_method_4_code
def yX9_raise : MethodName := ⟨RX9, "raise", "(II)V"⟩
abbrev cX9_raiseOnce : ByteArray := prog_11_method_5_code
def yX9_raiseOnce : MethodName := ⟨RX9, "raiseOnce", "(I)V"⟩
abbrev cX9_among : ByteArray := prog_11_method_6_code
def yX9_among : MethodName := ⟨RX9, "among", "(II)J"⟩
abbrev cX9_firstFault : ByteArray := prog_11_method_7_code
def yX9_firstFault : MethodName := ⟨RX9, "firstFault", "(II)I"⟩
abbrev cX9_leastLift : ByteArray := prog_11_method_8_code
def yX9_leastLift : MethodName := ⟨RX9, "leastLift", "(II)I"⟩
abbrev cX9_worth : ByteArray := prog_11_method_9_code
def yX9_worth : MethodName := ⟨RX9, "worth", "(III)J"⟩
abbrev cX9_worthAt : ByteArray := prog_11_method_10_code
def yX9_worthAt : MethodName := ⟨RX9, "worthAt", "(III)J"⟩
abbrev cX9_failingSize : ByteArray := prog_11_method_11_code
def yX9_failingSize : MethodName := ⟨RX9, "failingSize", "(II)I"⟩
abbrev cX9_failingPoint : ByteArray := prog_11_method_12_code
def yX9_failingPoint : MethodName := ⟨RX9, "failingPoint", "(III)I"⟩
abbrev cX9_lowestPoint : ByteArray := prog_11_method_13_code
def yX9_lowestPoint : MethodName := ⟨RX9, "lowestPoint", "(II)I"⟩
abbrev cX10_init : ByteArray := prog_1_method_1_code
def yX10_init : MethodName := ⟨RX10, "<init>", "()V"⟩
abbrev cX10_letter : ByteArray := prog_1_method_2_code
def yX10_letter : MethodName := ⟨RX10, "letter", "(I)I"⟩
abbrev cX10_form : ByteArray := prog_1_method_3_code
def yX10_form : MethodName := ⟨RX10, "form", "()I"⟩
abbrev cX10_drop : ByteArray := prog_1_method_5_code
def yX10_drop : MethodName := ⟨RX10, "drop", "()I"⟩
abbrev cX10_change : ByteArray := prog_1_method_6_code
def yX10_change : MethodName := ⟨RX10, "change", "(III)I"⟩
abbrev cX10_turn : ByteArray := prog_1_method_7_code
def yX10_turn : MethodName := ⟨RX10, "turn", "(III)I"⟩
abbrev cX10_of : ByteArray := prog_1_method_8_code
def yX10_of : MethodName := ⟨RX10, "of", "(II)I"⟩
abbrev cX10_coefficient : ByteArray := prog_1_method_10_code
def yX10_coefficient : MethodName := ⟨RX10, "coefficient", "(II)I"⟩
abbrev cX10_value : ByteArray := prog_1_method_11_code
def yX10_value : MethodName := ⟨RX10, "value", "(IIII)J"⟩
abbrev cX10_lifted : ByteArray := prog_1_method_12_code
def yX10_lifted : MethodName := ⟨RX10, "lifted", "(IIII)J"⟩
abbrev cX10_fault : ByteArray := prog_1_method_13_code
def yX10_fault : MethodName := ⟨RX10, "fault", "(IIII)I"⟩
abbrev cX10_least : ByteArray := prog_1_method_14_code
def yX10_least : MethodName := ⟨RX10, "least", "(III)I"⟩
abbrev cX10_failing : ByteArray := prog_1_method_15_code
def yX10_failing : MethodName := ⟨RX10, "failing", "(IIII)I"⟩
abbrev cX10_lowest : ByteArray := prog_1_method_16_code
def yX10_lowest : MethodName := ⟨RX10, "lowest", "(IIII)J"⟩
abbrev cX10_proof : ByteArray := prog_1_method_18_code
def yX10_proof : MethodName := ⟨RX10, "proof", "(II)I"⟩
abbrev cX10_walls : ByteArray := prog_1_method_19_code
def yX10_walls : MethodName := ⟨RX10, "walls", "(III)J"⟩
abbrev cX10_wallsLeast : ByteArray := prog_1_method_20_code
def yX10_wallsLeast : MethodName := ⟨RX10, "wallsLeast", "(II)I"⟩
abbrev cX10_sum : ByteArray := prog_1_method_22_code
def yX10_sum : MethodName := ⟨RX10, "sum", "(II)I"⟩
abbrev cX10_product : ByteArray := prog_1_method_23_code
def yX10_product : MethodName := ⟨RX10, "product", "(II)I"⟩
abbrev cX10_lift : ByteArray := prog_1_method_24_code
def yX10_lift : MethodName := ⟨RX10, "lift", "(II)I"⟩
abbrev cX10_negative : ByteArray := prog_1_method_25_code
def yX10_negative : MethodName := ⟨RX10, "negative", "(I)I"⟩
abbrev cX10_on : ByteArray := prog_1_method_26_code
def yX10_on : MethodName := ⟨RX10, "on", "(II)I"⟩
abbrev cX10_spelled : ByteArray := prog_1_method_27_code
def yX10_spelled : MethodName := ⟨RX10, "spelled", "(II)I"⟩
abbrev cX10_list : ByteArray := prog_1_method_29_code
def yX10_list : MethodName := ⟨RX10, "list", "(II)I"⟩
abbrev cX10_put : ByteArray := prog_1_method_30_code
def yX10_put : MethodName := ⟨RX10, "put", "(III)I"⟩
abbrev cX10_look : ByteArray := prog_1_method_31_code
def yX10_look : MethodName := ⟨RX10, "look", "(II)J"⟩
abbrev cX10_undo : ByteArray := prog_1_method_34_code
def yX10_undo : MethodName := ⟨RX10, "undo", "()I"⟩
abbrev cX10_image : ByteArray := prog_1_method_35_code
def yX10_image : MethodName := ⟨RX10, "image", "()I"⟩
abbrev cX10_back : ByteArray := prog_1_method_36_code
def yX10_back : MethodName := ⟨RX10, "back", "()I"⟩
abbrev cX10_count : ByteArray := prog_1_method_37_code
def yX10_count : MethodName := ⟨RX10, "count", "(I)I"⟩
abbrev cX10_refuse : ByteArray := prog_1_method_38_code
def yX10_refuse : MethodName := ⟨RX10, "refuse", "(I)I"⟩
abbrev cX10_refuseFarInt : ByteArray := prog_1_method_39_code
def yX10_refuseFarInt : MethodName := ⟨RX10, "refuseFarInt", "(I)I"⟩
abbrev cX10_refuseFar : ByteArray := prog_1_method_40_code
def yX10_refuseFar : MethodName := ⟨RX10, "refuseFar", "(I)J"⟩
abbrev cX10_pointsRefused : ByteArray := prog_1_method_41_code
def yX10_pointsRefused : MethodName := ⟨RX10, "pointsRefused", "(IIII)I"⟩
abbrev cX10_cameOr : ByteArray := prog_1_method_42_code
def yX10_cameOr : MethodName := ⟨RX10, "cameOr", "(Z)I"⟩
abbrev cX10_lacksTerm : ByteArray := prog_1_method_43_code
def yX10_lacksTerm : MethodName := ⟨RX10, "lacksTerm", "(II)Z"⟩
abbrev cX10_workOn : ByteArray := prog_1_method_44_code
def yX10_workOn : MethodName := ⟨RX10, "workOn", "(II)LFormsAboveNought$Work;"⟩
abbrev cX10_notBelow : ByteArray := prog_1_method_45_code
def yX10_notBelow : MethodName := ⟨RX10, "notBelow", "(II)Z"⟩
abbrev cX10_termsOf : ByteArray := prog_1_method_46_code
def yX10_termsOf : MethodName := ⟨RX10, "termsOf", "(I)I"⟩
abbrev cX10_termOf : ByteArray := prog_1_method_47_code
def yX10_termOf : MethodName := ⟨RX10, "termOf", "(II)I"⟩
abbrev cX10_behindA : ByteArray := prog_1_method_48_code
def yX10_behindA : MethodName := ⟨RX10, "behindA", "(I)I"⟩
abbrev cX10_isSide : ByteArray := prog_1_method_50_code
def yX10_isSide : MethodName := ⟨RX10, "isSide", "(I)Z"⟩
abbrev cX10_standsOn : ByteArray := prog_1_method_51_code
def yX10_standsOn : MethodName := ⟨RX10, "standsOn", "(IIII)Z"⟩
abbrev cX10_placesOn : ByteArray := prog_1_method_52_code
def yX10_placesOn : MethodName := ⟨RX10, "placesOn", "(II)I"⟩
abbrev cX10_numberOn : ByteArray := prog_1_method_53_code
def yX10_numberOn : MethodName := ⟨RX10, "numberOn", "(III)I"⟩
abbrev cX10_fails : ByteArray := prog_1_method_54_code
def yX10_fails : MethodName := ⟨RX10, "fails", "(JI)Z"⟩
abbrev cJ6_bitCount_0f7a4 : ByteArray := prog_14_method_49_code
def yJ6_bitCount_0f7a4 : MethodName := ⟨RJ6, "bitCount", "(I)I"⟩
abbrev cJ9_abs_0f7a4 : ByteArray := prog_15_method_59_code
def yJ9_abs_0f7a4 : MethodName := ⟨RJ9, "abs", "(I)I"⟩
abbrev cJ9_max_7cf53 : ByteArray := prog_15_method_65_code
def yJ9_max_7cf53 : MethodName := ⟨RJ9, "max", "(II)I"⟩
abbrev cJ9_min_7cf53 : ByteArray := prog_15_method_69_code
def yJ9_min_7cf53 : MethodName := ⟨RJ9, "min", "(II)I"⟩
abbrev cL_cell : ByteArray := method_2_code
def yL_cell : MethodName := ⟨RL, "cell", "([II)I"⟩
abbrev cL_pick : ByteArray := method_3_code
def yL_pick : MethodName := ⟨RL, "pick", "(II)I"⟩
abbrev cL_comes : ByteArray := method_4_code
def yL_comes : MethodName := ⟨RL, "comes", "(LFormsAboveNought;[III)Z"⟩
abbrev cL_lifts : ByteArray := method_5_code
def yL_lifts : MethodName := ⟨RL, "lifts", "(LFormsAboveNought;II)Z"⟩
abbrev cL_reads : ByteArray := method_6_code
def yL_reads : MethodName := ⟨RL, "reads", "(LFormsAboveNought;II)Z"⟩
abbrev cL_walls : ByteArray := method_7_code
def yL_walls : MethodName := ⟨RL, "walls", "(LFormsAboveNought;[I)Z"⟩
abbrev cL_law : ByteArray := code
def yL_law : MethodName := ⟨RL, "law", "([I)Z"⟩
/-- addresses, layouts, array classes, the script: its cell, its length, its ints -/
abbrev pq_g : Type := (Nat → Nat) × va_G × (Nat → ClassId) × (Nat × Nat × (Nat → Int32))
def cellS (g : pq_g) (i : Nat → Int32) (j : Nat → Int64) (r : Nat → Option Nat) : List va_E := [.inr (10, [.ref (g.1 56), .ref (g.1 61), .ref (g.1 63), .ref (g.1 65), .ref (g.1 70), .ref (g.1 71), .ref (g.1 74), .ref (g.1 79), .ref (g.1 82)]),
  .inr (6, [.ref (g.1 57), .ref (g.1 58), .ref (g.1 59), .int (i 3), .int (i 4)]),
  .inl (g.2.2.1 2, 6, .inr (.inr (.inr (.inr (fun t => if t < 6 then some (g.1 t) else none))))),
  .inl (g.2.2.1 2, 6, .inr (.inr (.inr (.inr (fun t => if t < 6 then some (g.1 (6 + t)) else none))))),
  .inr (9, [.ref (g.1 60), .int (i 1)]),
  .inl (g.2.2.1 1, 190, .inr (.inl j)),
  .inr (3, [.ref (g.1 62), .int (i 1)]),
  .inl (g.2.2.1 0, 72, .inl i),
  .inr (2, [.ref (g.1 64), va_rf ((r 1).map g.1), .int (i 2), .int (i 3), .int (i 4)]),
  .inl (g.2.2.1 0, 3, .inl i),
  .inr (0, [.ref (g.1 66), .ref (g.1 67), .ref (g.1 68), .ref (g.1 69), .int (i 4), va_rf ((r 5).map g.1), .int (i 6)]),
  .inl (g.2.2.1 0, 9, .inl i),
  .inl (g.2.2.1 0, 9, .inl i),
  .inl (g.2.2.1 0, 9, .inl i),
  .inl (g.2.2.1 0, 9, .inl i),
  .inr (7, [.int (i 0), .int (i 1), .int (i 2)]),
  .inr (5, [.ref (g.1 72), .ref (g.1 73), .int (i 2), .int (i 3)]),
  .inl (g.2.2.1 4, 28, .inr (.inr (.inr (.inr (fun t => (r t).map g.1))))),
  .inl (g.2.2.1 0, 3, .inl i),
  .inr (8, [.int (i 0), .ref (g.1 75), .ref (g.1 76), .ref (g.1 77), .ref (g.1 78), .int (i 5)]),
  .inl (g.2.2.1 0, 16, .inl i),
  .inl (g.2.2.1 0, 16, .inl i),
  .inl (g.2.2.1 0, 16, .inl i),
  .inl (g.2.2.1 0, 16, .inl i),
  .inr (4, [.ref (g.1 80), .ref (g.1 81)]),
  .inl (g.2.2.1 3, 3, .inr (.inr (.inr (.inr (fun t => if t < 3 then some (g.1 (52 + t)) else none))))),
  .inl (g.2.2.1 0, 3, .inl i),
  .inl (g.2.2.1 0, 7, .inl i)]
def cellC (g : pq_g) : pq_C := fun p i j r => if p < 12 then .inr (1, [.ref (g.1 (p + 12)), .int (i 1), .int (i 2), .int (i 3)]) else if p < 24 then .inl (g.2.2.1 0, 28, .inl i) else if p < 52 then .inl (g.2.2.1 1, 4, .inr (.inl j)) else if p < 55 then .inl (g.2.2.1 0, 40, .inl i) else (cellS g i j r).getD (p - 55) (.inr (0, []))
abbrev pq_tys (g : pq_g) : List (ClassId × FieldType) := [(g.2.2.1 0, .int), (g.2.2.1 1, .long), (g.2.2.1 2, .object "FormsAboveNought$Form"), (g.2.2.1 3, .array .int), (g.2.2.1 4, .array .long)]
def nestL : List (String × Nat × MethodName × String) := [(RX1, 25, yX10_termOf, "FormsAboveNought"), (RX1, 29, yX10_behindA, "FormsAboveNought"), (RX1, 37, yX10_termsOf, "FormsAboveNought"), (RX2, 59, yX10_termOf, "FormsAboveNought"), (RX3, 19, yX10_notBelow, "FormsAboveNought"), (RX4, 30, yX10_fails, "FormsAboveNought"), (RX6, 35, yX10_notBelow, "FormsAboveNought"), (RX6, 46, yX10_termsOf, "FormsAboveNought"), (RX6, 138, yX10_termOf, "FormsAboveNought"), (RX9, 19, yX10_termsOf, "FormsAboveNought"), (RX9, 26, yX10_termOf, "FormsAboveNought"), (RX9, 30, yX10_standsOn, "FormsAboveNought"), (RX9, 42, yX10_numberOn, "FormsAboveNought"), (RX9, 45, yX10_placesOn, "FormsAboveNought"), (RX9, 52, yX10_fails, "FormsAboveNought"), (RX9, 59, yX10_behindA, "FormsAboveNought")]
/-- what lies beside the class's cells: links between nest mates, the class of long[][], the script -/
def envC (g : pq_g) : (Nat → Prop) → State → Heap → Prop := fun A U H => (∀ q ∈ nestL, va_Nw (Cond.methodLinkNest q.1 q.2.1 q.2.2.1 q.2.2.2) U) ∧ (∃ kA kv : Class, U.vm.classes[g.2.2.1 4]? = some kA ∧ kA.kind = .array (g.2.2.1 1) (.array .long) ∧ U.vm.classes[g.2.2.1 1]? = some kv) ∧ va_T .int g.2.2.2.1 g.2.2.2.2.1 (fun k => .int (g.2.2.2.2.2 k)) A U H
def SC (g : pq_g) : pq_S := ((83, g.1, cellC g), (g.2.1, vwCl, pq_tys g), envC g)
set_option maxRecDepth 8000 in
theorem envC_jj {g : pq_g} {A : Nat → Prop} {U : State} {H : Heap} (h : (SC g).2.2 A U H) : ∃ kA kv : Class, U.vm.classes[g.2.2.1 4]? = some kA ∧ kA.kind = .array (g.2.2.1 1) (.array .long) ∧ U.vm.classes[g.2.2.1 1]? = some kv := (show envC g A U H from h).2.1
set_option maxRecDepth 8000 in
theorem envC_scr {g : pq_g} {A : Nat → Prop} {U : State} {H : Heap} (h : (SC g).2.2 A U H) : va_T .int g.2.2.2.1 g.2.2.2.2.1 (fun k => .int (g.2.2.2.2.2 k)) A U H := (show envC g A U H from h).2.2
set_option maxRecDepth 8000 in
theorem envC_nest {g : pq_g} {A : Nat → Prop} {U : State} {H : Heap} (h : (SC g).2.2 A U H) : ∀ q ∈ nestL, va_Nw (Cond.methodLinkNest q.1 q.2.1 q.2.2.1 q.2.2.2) U := (show envC g A U H from h).1
set_option maxRecDepth 8000 in
theorem nk_X1_25 (g : pq_g) : ∀ A U H, (SC g).2.2 A U H → va_Nw (Cond.methodLinkNest RX1 25 yX10_termOf "FormsAboveNought") U := fun _ _ _ h => envC_nest h (RX1, 25, yX10_termOf, "FormsAboveNought") (List.mem_of_getElem? (i := 0) rfl)
set_option maxRecDepth 8000 in
theorem nk_X1_29 (g : pq_g) : ∀ A U H, (SC g).2.2 A U H → va_Nw (Cond.methodLinkNest RX1 29 yX10_behindA "FormsAboveNought") U := fun _ _ _ h => envC_nest h (RX1, 29, yX10_behindA, "FormsAboveNought") (List.mem_of_getElem? (i := 1) rfl)
set_option maxRecDepth 8000 in
theorem nk_X1_37 (g : pq_g) : ∀ A U H, (SC g).2.2 A U H → va_Nw (Cond.methodLinkNest RX1 37 yX10_termsOf "FormsAboveNought") U := fun _ _ _ h => envC_nest h (RX1, 37, yX10_termsOf, "FormsAboveNought") (List.mem_of_getElem? (i := 2) rfl)
set_option maxRecDepth 8000 in
theorem nk_X2_59 (g : pq_g) : ∀ A U H, (SC g).2.2 A U H → va_Nw (Cond.methodLinkNest RX2 59 yX10_termOf "FormsAboveNought") U := fun _ _ _ h => envC_nest h (RX2, 59, yX10_termOf, "FormsAboveNought") (List.mem_of_getElem? (i := 3) rfl)
set_option maxRecDepth 8000 in
theorem nk_X3_19 (g : pq_g) : ∀ A U H, (SC g).2.2 A U H → va_Nw (Cond.methodLinkNest RX3 19 yX10_notBelow "FormsAboveNought") U := fun _ _ _ h => envC_nest h (RX3, 19, yX10_notBelow, "FormsAboveNought") (List.mem_of_getElem? (i := 4) rfl)
set_option maxRecDepth 8000 in
theorem nk_X4_30 (g : pq_g) : ∀ A U H, (SC g).2.2 A U H → va_Nw (Cond.methodLinkNest RX4 30 yX10_fails "FormsAboveNought") U := fun _ _ _ h => envC_nest h (RX4, 30, yX10_fails, "FormsAboveNought") (List.mem_of_getElem? (i := 5) rfl)
set_option maxRecDepth 8000 in
theorem nk_X6_35 (g : pq_g) : ∀ A U H, (SC g).2.2 A U H → va_Nw (Cond.methodLinkNest RX6 35 yX10_notBelow "FormsAboveNought") U := fun _ _ _ h => envC_nest h (RX6, 35, yX10_notBelow, "FormsAboveNought") (List.mem_of_getElem? (i := 6) rfl)
set_option maxRecDepth 8000 in
theorem nk_X6_46 (g : pq_g) : ∀ A U H, (SC g).2.2 A U H → va_Nw (Cond.methodLinkNest RX6 46 yX10_termsOf "FormsAboveNought") U := fun _ _ _ h => envC_nest h (RX6, 46, yX10_termsOf, "FormsAboveNought") (List.mem_of_getElem? (i := 7) rfl)
set_option maxRecDepth 8000 in
theorem nk_X6_138 (g : pq_g) : ∀ A U H, (SC g).2.2 A U H → va_Nw (Cond.methodLinkNest RX6 138 yX10_termOf "FormsAboveNought") U := fun _ _ _ h => envC_nest h (RX6, 138, yX10_termOf, "FormsAboveNought") (List.mem_of_getElem? (i := 8) rfl)
set_option maxRecDepth 8000 in
theorem nk_X9_19 (g : pq_g) : ∀ A U H, (SC g).2.2 A U H → va_Nw (Cond.methodLinkNest RX9 19 yX10_termsOf "FormsAboveNought") U := fun _ _ _ h => envC_nest h (RX9, 19, yX10_termsOf, "FormsAboveNought") (List.mem_of_getElem? (i := 9) rfl)
set_option maxRecDepth 8000 in
theorem nk_X9_26 (g : pq_g) : ∀ A U H, (SC g).2.2 A U H → va_Nw (Cond.methodLinkNest RX9 26 yX10_termOf "FormsAboveNought") U := fun _ _ _ h => envC_nest h (RX9, 26, yX10_termOf, "FormsAboveNought") (List.mem_of_getElem? (i := 10) rfl)
set_option maxRecDepth 8000 in
theorem nk_X9_30 (g : pq_g) : ∀ A U H, (SC g).2.2 A U H → va_Nw (Cond.methodLinkNest RX9 30 yX10_standsOn "FormsAboveNought") U := fun _ _ _ h => envC_nest h (RX9, 30, yX10_standsOn, "FormsAboveNought") (List.mem_of_getElem? (i := 11) rfl)
set_option maxRecDepth 8000 in
theorem nk_X9_42 (g : pq_g) : ∀ A U H, (SC g).2.2 A U H → va_Nw (Cond.methodLinkNest RX9 42 yX10_numberOn "FormsAboveNought") U := fun _ _ _ h => envC_nest h (RX9, 42, yX10_numberOn, "FormsAboveNought") (List.mem_of_getElem? (i := 12) rfl)
set_option maxRecDepth 8000 in
theorem nk_X9_45 (g : pq_g) : ∀ A U H, (SC g).2.2 A U H → va_Nw (Cond.methodLinkNest RX9 45 yX10_placesOn "FormsAboveNought") U := fun _ _ _ h => envC_nest h (RX9, 45, yX10_placesOn, "FormsAboveNought") (List.mem_of_getElem? (i := 13) rfl)
set_option maxRecDepth 8000 in
theorem nk_X9_52 (g : pq_g) : ∀ A U H, (SC g).2.2 A U H → va_Nw (Cond.methodLinkNest RX9 52 yX10_fails "FormsAboveNought") U := fun _ _ _ h => envC_nest h (RX9, 52, yX10_fails, "FormsAboveNought") (List.mem_of_getElem? (i := 14) rfl)
set_option maxRecDepth 8000 in
theorem nk_X9_59 (g : pq_g) : ∀ A U H, (SC g).2.2 A U H → va_Nw (Cond.methodLinkNest RX9 59 yX10_behindA "FormsAboveNought") U := fun _ _ _ h => envC_nest h (RX9, 59, yX10_behindA, "FormsAboveNought") (List.mem_of_getElem? (i := 15) rfl)
set_option maxRecDepth 8000 in
theorem cC_form (g : pq_g) {f : Nat} (hf : f < 12) (i : Nat → Int32) (j : Nat → Int64) (r : Nat → Option Nat) : (SC g).1.2.2 f i j r = .inr (1, [.ref (g.1 (f + 12)), .int (i 1), .int (i 2), .int (i 3)]) := if_pos hf
set_option maxRecDepth 8000 in
theorem cC_told (g : pq_g) {f : Nat} (hf : f < 12) (i : Nat → Int32) (j : Nat → Int64) (r : Nat → Option Nat) : (SC g).1.2.2 (f + 12) i j r = .inl (g.2.2.1 0, 28, .inl i) := by
  show cellC g (f + 12) i j r = _
  unfold cellC
  rw [if_neg (by omega), if_pos (by omega)]
set_option maxRecDepth 8000 in
theorem cC_mrow (g : pq_g) {q : Nat} (h1 : 24 ≤ q) (h2 : q < 52) (i : Nat → Int32) (j : Nat → Int64) (r : Nat → Option Nat) : (SC g).1.2.2 q i j r = .inl (g.2.2.1 1, 4, .inr (.inl j)) := by
  show cellC g q i j r = _
  unfold cellC
  rw [if_neg (by omega), if_neg (by omega), if_pos h2]
set_option maxRecDepth 8000 in
theorem cC_lrow (g : pq_g) {q : Nat} (h1 : q < 3) (i : Nat → Int32) (j : Nat → Int64) (r : Nat → Option Nat) : (SC g).1.2.2 (52 + q) i j r = .inl (g.2.2.1 0, 40, .inl i) := by
  show cellC g (52 + q) i j r = _
  unfold cellC
  rw [if_neg (by omega), if_neg (by omega), if_neg (by omega), if_pos (by omega)]
set_option maxRecDepth 8000 in
theorem o_Form (g : pq_g) (f : Nat) (hf : f < 12) : pq_o (SC g) f 1 RX1 := ⟨(show f < 83 by omega), ⟨_, fun i j r => cC_form g hf i j r⟩, TX1, 4, rfl⟩
set_option maxRecDepth 8000 in
theorem cI_Form_1 (g : pq_g) (f : Nat) (hf : f < 12) : pq_cI (SC g) f 1 1 := ⟨(show f < 83 by omega), _, fun i j r => cC_form g hf i j r, fun _ _ _ => rfl, fun _ _ _ _ => rfl⟩
set_option maxRecDepth 8000 in
theorem cI_Form_2 (g : pq_g) (f : Nat) (hf : f < 12) : pq_cI (SC g) f 1 2 := ⟨(show f < 83 by omega), _, fun i j r => cC_form g hf i j r, fun _ _ _ => rfl, fun _ _ _ _ => rfl⟩
set_option maxRecDepth 8000 in
theorem cI_Form_3 (g : pq_g) (f : Nat) (hf : f < 12) : pq_cI (SC g) f 1 3 := ⟨(show f < 83 by omega), _, fun i j r => cC_form g hf i j r, fun _ _ _ => rfl, fun _ _ _ _ => rfl⟩
set_option maxRecDepth 8000 in
theorem cA_Form_0 (g : pq_g) (f : Nat) (hf : f < 12) : pq_cA (SC g) f 1 0 (f + 12) := ⟨(show f < 83 by omega), _, fun i j r => cC_form g hf i j r, fun _ _ _ => rfl⟩
set_option maxRecDepth 8000 in
theorem aI_told (g : pq_g) (f : Nat) (hf : f < 12) : pq_aI (SC g) (f + 12) 28 := ⟨(show f + 12 < 83 by omega), g.2.2.1 0, 0, fun i j r => cC_told g hf i j r, rfl⟩
set_option maxRecDepth 8000 in
theorem aJ_mrow (g : pq_g) (q : Nat) (h1 : 24 ≤ q) (h2 : q < 52) : pq_aJ (SC g) q 4 := ⟨(show q < 83 by omega), g.2.2.1 1, 1, fun i j r => cC_mrow g h1 h2 i j r, rfl⟩
set_option maxRecDepth 8000 in
theorem aI_lrow (g : pq_g) (q : Nat) (h1 : q < 3) : pq_aI (SC g) (52 + q) 40 := ⟨(show 52 + q < 83 by omega), g.2.2.1 0, 0, fun i j r => cC_lrow g h1 i j r, rfl⟩
set_option maxRecDepth 8000 in
theorem oC_55 (g : pq_g) : pq_o (SC g) 55 10 RX10 := ⟨(show 55 < 83 by decide), ⟨_, fun i j r => rfl⟩, TX10, 9, rfl⟩
set_option maxRecDepth 8000 in
theorem cCA_55_0 (g : pq_g) : pq_cA (SC g) 55 10 0 56 := ⟨(show 55 < 83 by decide), _, fun i j r => rfl, fun _ _ _ => rfl⟩
set_option maxRecDepth 8000 in
theorem cCA_55_1 (g : pq_g) : pq_cA (SC g) 55 10 1 61 := ⟨(show 55 < 83 by decide), _, fun i j r => rfl, fun _ _ _ => rfl⟩
set_option maxRecDepth 8000 in
theorem cCA_55_2 (g : pq_g) : pq_cA (SC g) 55 10 2 63 := ⟨(show 55 < 83 by decide), _, fun i j r => rfl, fun _ _ _ => rfl⟩
set_option maxRecDepth 8000 in
theorem cCA_55_3 (g : pq_g) : pq_cA (SC g) 55 10 3 65 := ⟨(show 55 < 83 by decide), _, fun i j r => rfl, fun _ _ _ => rfl⟩
set_option maxRecDepth 8000 in
theorem cCA_55_4 (g : pq_g) : pq_cA (SC g) 55 10 4 70 := ⟨(show 55 < 83 by decide), _, fun i j r => rfl, fun _ _ _ => rfl⟩
set_option maxRecDepth 8000 in
theorem cCA_55_5 (g : pq_g) : pq_cA (SC g) 55 10 5 71 := ⟨(show 55 < 83 by decide), _, fun i j r => rfl, fun _ _ _ => rfl⟩
set_option maxRecDepth 8000 in
theorem cCA_55_6 (g : pq_g) : pq_cA (SC g) 55 10 6 74 := ⟨(show 55 < 83 by decide), _, fun i j r => rfl, fun _ _ _ => rfl⟩
set_option maxRecDepth 8000 in
theorem cCA_55_7 (g : pq_g) : pq_cA (SC g) 55 10 7 79 := ⟨(show 55 < 83 by decide), _, fun i j r => rfl, fun _ _ _ => rfl⟩
set_option maxRecDepth 8000 in
theorem cCA_55_8 (g : pq_g) : pq_cA (SC g) 55 10 8 82 := ⟨(show 55 < 83 by decide), _, fun i j r => rfl, fun _ _ _ => rfl⟩
set_option maxRecDepth 8000 in
theorem oC_56 (g : pq_g) : pq_o (SC g) 56 6 RX6 := ⟨(show 56 < 83 by decide), ⟨_, fun i j r => rfl⟩, TX6, 5, rfl⟩
set_option maxRecDepth 8000 in
theorem cCA_56_0 (g : pq_g) : pq_cA (SC g) 56 6 0 57 := ⟨(show 56 < 83 by decide), _, fun i j r => rfl, fun _ _ _ => rfl⟩
set_option maxRecDepth 8000 in
theorem cCA_56_1 (g : pq_g) : pq_cA (SC g) 56 6 1 58 := ⟨(show 56 < 83 by decide), _, fun i j r => rfl, fun _ _ _ => rfl⟩
set_option maxRecDepth 8000 in
theorem cCA_56_2 (g : pq_g) : pq_cA (SC g) 56 6 2 59 := ⟨(show 56 < 83 by decide), _, fun i j r => rfl, fun _ _ _ => rfl⟩
set_option maxRecDepth 8000 in
theorem cCI_56_3 (g : pq_g) : pq_cI (SC g) 56 6 3 := ⟨(show 56 < 83 by decide), _, fun i j r => rfl, fun _ _ _ => rfl, fun _ _ _ _ => rfl⟩
set_option maxRecDepth 8000 in
theorem cCI_56_4 (g : pq_g) : pq_cI (SC g) 56 6 4 := ⟨(show 56 < 83 by decide), _, fun i j r => rfl, fun _ _ _ => rfl, fun _ _ _ _ => rfl⟩
set_option maxRecDepth 8000 in
theorem oC_59 (g : pq_g) : pq_o (SC g) 59 9 RX9 := ⟨(show 59 < 83 by decide), ⟨_, fun i j r => rfl⟩, TX9, 2, rfl⟩
set_option maxRecDepth 8000 in
theorem cCA_59_0 (g : pq_g) : pq_cA (SC g) 59 9 0 60 := ⟨(show 59 < 83 by decide), _, fun i j r => rfl, fun _ _ _ => rfl⟩
set_option maxRecDepth 8000 in
theorem cCI_59_1 (g : pq_g) : pq_cI (SC g) 59 9 1 := ⟨(show 59 < 83 by decide), _, fun i j r => rfl, fun _ _ _ => rfl, fun _ _ _ _ => rfl⟩
set_option maxRecDepth 8000 in
theorem oC_61 (g : pq_g) : pq_o (SC g) 61 3 RX3 := ⟨(show 61 < 83 by decide), ⟨_, fun i j r => rfl⟩, TX3, 2, rfl⟩
set_option maxRecDepth 8000 in
theorem cCA_61_0 (g : pq_g) : pq_cA (SC g) 61 3 0 62 := ⟨(show 61 < 83 by decide), _, fun i j r => rfl, fun _ _ _ => rfl⟩
set_option maxRecDepth 8000 in
theorem cCI_61_1 (g : pq_g) : pq_cI (SC g) 61 3 1 := ⟨(show 61 < 83 by decide), _, fun i j r => rfl, fun _ _ _ => rfl, fun _ _ _ _ => rfl⟩
set_option maxRecDepth 8000 in
theorem oC_63 (g : pq_g) : pq_o (SC g) 63 2 RX2 := ⟨(show 63 < 83 by decide), ⟨_, fun i j r => rfl⟩, TX2, 5, rfl⟩
set_option maxRecDepth 8000 in
theorem cCA_63_0 (g : pq_g) : pq_cA (SC g) 63 2 0 64 := ⟨(show 63 < 83 by decide), _, fun i j r => rfl, fun _ _ _ => rfl⟩
set_option maxRecDepth 8000 in
theorem cCR_63_1 (g : pq_g) : pq_cR (SC g) 63 2 1 := ⟨(show 63 < 83 by decide), _, fun i j r => rfl, fun _ _ _ => rfl, fun _ _ _ _ => rfl⟩
set_option maxRecDepth 8000 in
theorem cCI_63_2 (g : pq_g) : pq_cI (SC g) 63 2 2 := ⟨(show 63 < 83 by decide), _, fun i j r => rfl, fun _ _ _ => rfl, fun _ _ _ _ => rfl⟩
set_option maxRecDepth 8000 in
theorem cCI_63_3 (g : pq_g) : pq_cI (SC g) 63 2 3 := ⟨(show 63 < 83 by decide), _, fun i j r => rfl, fun _ _ _ => rfl, fun _ _ _ _ => rfl⟩
set_option maxRecDepth 8000 in
theorem cCI_63_4 (g : pq_g) : pq_cI (SC g) 63 2 4 := ⟨(show 63 < 83 by decide), _, fun i j r => rfl, fun _ _ _ => rfl, fun _ _ _ _ => rfl⟩
set_option maxRecDepth 8000 in
theorem oC_65 (g : pq_g) : pq_o (SC g) 65 0 RX0 := ⟨(show 65 < 83 by decide), ⟨_, fun i j r => rfl⟩, TX0, 7, rfl⟩
set_option maxRecDepth 8000 in
theorem cCA_65_0 (g : pq_g) : pq_cA (SC g) 65 0 0 66 := ⟨(show 65 < 83 by decide), _, fun i j r => rfl, fun _ _ _ => rfl⟩
set_option maxRecDepth 8000 in
theorem cCA_65_1 (g : pq_g) : pq_cA (SC g) 65 0 1 67 := ⟨(show 65 < 83 by decide), _, fun i j r => rfl, fun _ _ _ => rfl⟩
set_option maxRecDepth 8000 in
theorem cCA_65_2 (g : pq_g) : pq_cA (SC g) 65 0 2 68 := ⟨(show 65 < 83 by decide), _, fun i j r => rfl, fun _ _ _ => rfl⟩
set_option maxRecDepth 8000 in
theorem cCA_65_3 (g : pq_g) : pq_cA (SC g) 65 0 3 69 := ⟨(show 65 < 83 by decide), _, fun i j r => rfl, fun _ _ _ => rfl⟩
set_option maxRecDepth 8000 in
theorem cCI_65_4 (g : pq_g) : pq_cI (SC g) 65 0 4 := ⟨(show 65 < 83 by decide), _, fun i j r => rfl, fun _ _ _ => rfl, fun _ _ _ _ => rfl⟩
set_option maxRecDepth 8000 in
theorem cCR_65_5 (g : pq_g) : pq_cR (SC g) 65 0 5 := ⟨(show 65 < 83 by decide), _, fun i j r => rfl, fun _ _ _ => rfl, fun _ _ _ _ => rfl⟩
set_option maxRecDepth 8000 in
theorem cCI_65_6 (g : pq_g) : pq_cI (SC g) 65 0 6 := ⟨(show 65 < 83 by decide), _, fun i j r => rfl, fun _ _ _ => rfl, fun _ _ _ _ => rfl⟩
set_option maxRecDepth 8000 in
theorem oC_70 (g : pq_g) : pq_o (SC g) 70 7 RX7 := ⟨(show 70 < 83 by decide), ⟨_, fun i j r => rfl⟩, TX7, 3, rfl⟩
set_option maxRecDepth 8000 in
theorem cCI_70_0 (g : pq_g) : pq_cI (SC g) 70 7 0 := ⟨(show 70 < 83 by decide), _, fun i j r => rfl, fun _ _ _ => rfl, fun _ _ _ _ => rfl⟩
set_option maxRecDepth 8000 in
theorem cCI_70_1 (g : pq_g) : pq_cI (SC g) 70 7 1 := ⟨(show 70 < 83 by decide), _, fun i j r => rfl, fun _ _ _ => rfl, fun _ _ _ _ => rfl⟩
set_option maxRecDepth 8000 in
theorem cCI_70_2 (g : pq_g) : pq_cI (SC g) 70 7 2 := ⟨(show 70 < 83 by decide), _, fun i j r => rfl, fun _ _ _ => rfl, fun _ _ _ _ => rfl⟩
set_option maxRecDepth 8000 in
theorem oC_71 (g : pq_g) : pq_o (SC g) 71 5 RX5 := ⟨(show 71 < 83 by decide), ⟨_, fun i j r => rfl⟩, TX5, 4, rfl⟩
set_option maxRecDepth 8000 in
theorem cCA_71_0 (g : pq_g) : pq_cA (SC g) 71 5 0 72 := ⟨(show 71 < 83 by decide), _, fun i j r => rfl, fun _ _ _ => rfl⟩
set_option maxRecDepth 8000 in
theorem cCA_71_1 (g : pq_g) : pq_cA (SC g) 71 5 1 73 := ⟨(show 71 < 83 by decide), _, fun i j r => rfl, fun _ _ _ => rfl⟩
set_option maxRecDepth 8000 in
theorem cCI_71_2 (g : pq_g) : pq_cI (SC g) 71 5 2 := ⟨(show 71 < 83 by decide), _, fun i j r => rfl, fun _ _ _ => rfl, fun _ _ _ _ => rfl⟩
set_option maxRecDepth 8000 in
theorem cCI_71_3 (g : pq_g) : pq_cI (SC g) 71 5 3 := ⟨(show 71 < 83 by decide), _, fun i j r => rfl, fun _ _ _ => rfl, fun _ _ _ _ => rfl⟩
set_option maxRecDepth 8000 in
theorem oC_74 (g : pq_g) : pq_o (SC g) 74 8 RX8 := ⟨(show 74 < 83 by decide), ⟨_, fun i j r => rfl⟩, TX8, 6, rfl⟩
set_option maxRecDepth 8000 in
theorem cCI_74_0 (g : pq_g) : pq_cI (SC g) 74 8 0 := ⟨(show 74 < 83 by decide), _, fun i j r => rfl, fun _ _ _ => rfl, fun _ _ _ _ => rfl⟩
set_option maxRecDepth 8000 in
theorem cCA_74_1 (g : pq_g) : pq_cA (SC g) 74 8 1 75 := ⟨(show 74 < 83 by decide), _, fun i j r => rfl, fun _ _ _ => rfl⟩
set_option maxRecDepth 8000 in
theorem cCA_74_2 (g : pq_g) : pq_cA (SC g) 74 8 2 76 := ⟨(show 74 < 83 by decide), _, fun i j r => rfl, fun _ _ _ => rfl⟩
set_option maxRecDepth 8000 in
theorem cCA_74_3 (g : pq_g) : pq_cA (SC g) 74 8 3 77 := ⟨(show 74 < 83 by decide), _, fun i j r => rfl, fun _ _ _ => rfl⟩
set_option maxRecDepth 8000 in
theorem cCA_74_4 (g : pq_g) : pq_cA (SC g) 74 8 4 78 := ⟨(show 74 < 83 by decide), _, fun i j r => rfl, fun _ _ _ => rfl⟩
set_option maxRecDepth 8000 in
theorem cCI_74_5 (g : pq_g) : pq_cI (SC g) 74 8 5 := ⟨(show 74 < 83 by decide), _, fun i j r => rfl, fun _ _ _ => rfl, fun _ _ _ _ => rfl⟩
set_option maxRecDepth 8000 in
theorem oC_79 (g : pq_g) : pq_o (SC g) 79 4 RX4 := ⟨(show 79 < 83 by decide), ⟨_, fun i j r => rfl⟩, TX4, 2, rfl⟩
set_option maxRecDepth 8000 in
theorem cCA_79_0 (g : pq_g) : pq_cA (SC g) 79 4 0 80 := ⟨(show 79 < 83 by decide), _, fun i j r => rfl, fun _ _ _ => rfl⟩
set_option maxRecDepth 8000 in
theorem cCA_79_1 (g : pq_g) : pq_cA (SC g) 79 4 1 81 := ⟨(show 79 < 83 by decide), _, fun i j r => rfl, fun _ _ _ => rfl⟩
set_option maxRecDepth 8000 in
theorem aCJ_60 (g : pq_g) : pq_aJ (SC g) 60 190 := ⟨(show 60 < 83 by decide), g.2.2.1 1, 1, fun i j r => rfl, rfl⟩
set_option maxRecDepth 8000 in
theorem aCI_62 (g : pq_g) : pq_aI (SC g) 62 72 := ⟨(show 62 < 83 by decide), g.2.2.1 0, 0, fun i j r => rfl, rfl⟩
set_option maxRecDepth 8000 in
theorem aCI_64 (g : pq_g) : pq_aI (SC g) 64 3 := ⟨(show 64 < 83 by decide), g.2.2.1 0, 0, fun i j r => rfl, rfl⟩
set_option maxRecDepth 8000 in
theorem aCI_66 (g : pq_g) : pq_aI (SC g) 66 9 := ⟨(show 66 < 83 by decide), g.2.2.1 0, 0, fun i j r => rfl, rfl⟩
set_option maxRecDepth 8000 in
theorem aCI_67 (g : pq_g) : pq_aI (SC g) 67 9 := ⟨(show 67 < 83 by decide), g.2.2.1 0, 0, fun i j r => rfl, rfl⟩
set_option maxRecDepth 8000 in
theorem aCI_68 (g : pq_g) : pq_aI (SC g) 68 9 := ⟨(show 68 < 83 by decide), g.2.2.1 0, 0, fun i j r => rfl, rfl⟩
set_option maxRecDepth 8000 in
theorem aCI_69 (g : pq_g) : pq_aI (SC g) 69 9 := ⟨(show 69 < 83 by decide), g.2.2.1 0, 0, fun i j r => rfl, rfl⟩
set_option maxRecDepth 8000 in
theorem aCI_73 (g : pq_g) : pq_aI (SC g) 73 3 := ⟨(show 73 < 83 by decide), g.2.2.1 0, 0, fun i j r => rfl, rfl⟩
set_option maxRecDepth 8000 in
theorem aCI_75 (g : pq_g) : pq_aI (SC g) 75 16 := ⟨(show 75 < 83 by decide), g.2.2.1 0, 0, fun i j r => rfl, rfl⟩
set_option maxRecDepth 8000 in
theorem aCI_76 (g : pq_g) : pq_aI (SC g) 76 16 := ⟨(show 76 < 83 by decide), g.2.2.1 0, 0, fun i j r => rfl, rfl⟩
set_option maxRecDepth 8000 in
theorem aCI_77 (g : pq_g) : pq_aI (SC g) 77 16 := ⟨(show 77 < 83 by decide), g.2.2.1 0, 0, fun i j r => rfl, rfl⟩
set_option maxRecDepth 8000 in
theorem aCI_78 (g : pq_g) : pq_aI (SC g) 78 16 := ⟨(show 78 < 83 by decide), g.2.2.1 0, 0, fun i j r => rfl, rfl⟩
set_option maxRecDepth 8000 in
theorem aCI_81 (g : pq_g) : pq_aI (SC g) 81 3 := ⟨(show 81 < 83 by decide), g.2.2.1 0, 0, fun i j r => rfl, rfl⟩
set_option maxRecDepth 8000 in
theorem aCI_82 (g : pq_g) : pq_aI (SC g) 82 7 := ⟨(show 82 < 83 by decide), g.2.2.1 0, 0, fun i j r => rfl, rfl⟩
set_option maxRecDepth 8000 in
theorem aA_57 (g : pq_g) : pq_aA (SC g) 57 6 (fun t => t) := ⟨(show 57 < 83 by decide), g.2.2.1 2, 2, _, fun i j r => rfl, rfl, rfl⟩
set_option maxRecDepth 8000 in
theorem aA_58 (g : pq_g) : pq_aA (SC g) 58 6 (fun t => 6 + t) := ⟨(show 58 < 83 by decide), g.2.2.1 2, 2, _, fun i j r => rfl, rfl, rfl⟩
set_option maxRecDepth 8000 in
theorem aA_80 (g : pq_g) : pq_aA (SC g) 80 3 (fun t => 52 + t) := ⟨(show 80 < 83 by decide), g.2.2.1 3, 3, _, fun i j r => rfl, rfl, rfl⟩
set_option maxRecDepth 8000 in
theorem aR_72 (g : pq_g) : pq_aR (SC g) 72 28 := ⟨(show 72 < 83 by decide), g.2.2.1 4, 4, _, fun i j r => rfl, rfl, rfl⟩
set_option maxRecDepth 8000 in
theorem lt6_12 {q : Nat} (h : q < 6) : q < 12 := Nat.lt_of_lt_of_le h (by decide)
set_option maxRecDepth 8000 in
theorem lt6_k {q : Nat} (h : q < 6) : 6 + q < 12 := by omega
set_option maxRecDepth 8000 in
theorem v_aa57 {X : pq_X} {g : pq_g} {α : Type} {res : α} {nL pc : Nat} {L : List (Nat × Value)} {st : List Value} {h : pq_H} {F : Option α} {b : ByteArray} {own : String} {i : Int32} (hB : pq_B X b nL own) (hK : pq_K X (SC g)) (d : decode b pc = .ok (.aaload, 1)) (kk : i.toNatClampNeg < 6 → V X (SC g) res nL (pc + 1) L (.ref ((SC g).1.2.1 i.toNatClampNeg) :: st) h F) : V X (SC g) res nL pc L (.int i :: .ref ((SC g).1.2.1 57) :: st) h (gd (inb i 6) F) := v_aald hB hK (aA_57 g) d kk
set_option maxRecDepth 8000 in
theorem v_aa58 {X : pq_X} {g : pq_g} {α : Type} {res : α} {nL pc : Nat} {L : List (Nat × Value)} {st : List Value} {h : pq_H} {F : Option α} {b : ByteArray} {own : String} {i : Int32} (hB : pq_B X b nL own) (hK : pq_K X (SC g)) (d : decode b pc = .ok (.aaload, 1)) (kk : i.toNatClampNeg < 6 → V X (SC g) res nL (pc + 1) L (.ref ((SC g).1.2.1 (6 + i.toNatClampNeg)) :: st) h F) : V X (SC g) res nL pc L (.int i :: .ref ((SC g).1.2.1 58) :: st) h (gd (inb i 6) F) := v_aald hB hK (aA_58 g) d kk
set_option maxRecDepth 8000 in
theorem v_aa80 {X : pq_X} {g : pq_g} {α : Type} {res : α} {nL pc : Nat} {L : List (Nat × Value)} {st : List Value} {h : pq_H} {F : Option α} {b : ByteArray} {own : String} {i : Int32} (hB : pq_B X b nL own) (hK : pq_K X (SC g)) (d : decode b pc = .ok (.aaload, 1)) (kk : i.toNatClampNeg < 3 → V X (SC g) res nL (pc + 1) L (.ref ((SC g).1.2.1 (52 + i.toNatClampNeg)) :: st) h F) : V X (SC g) res nL pc L (.int i :: .ref ((SC g).1.2.1 80) :: st) h (gd (inb i 3) F) := v_aald hB hK (aA_80 g) d kk
set_option maxRecDepth 8000 in
theorem fl_X10_10 (g : pq_g) : pq_F (SC g) RX10 10 10 0 (.object "FormsAboveNought$Shelf") := ⟨RX10, TX10, 9, tyX10, rfl, by decide, pq_t2 1 rfl rfl, uw_X10, tyX10_ok, nmX10, rfl⟩
set_option maxRecDepth 8000 in
theorem fl_X10_19 (g : pq_g) : pq_F (SC g) RX10 19 10 1 (.object "FormsAboveNought$Letters") := ⟨RX10, TX10, 9, tyX10, rfl, by decide, pq_t2 2 rfl rfl, uw_X10, tyX10_ok, nmX10, rfl⟩
set_option maxRecDepth 8000 in
theorem fl_X10_26 (g : pq_g) : pq_F (SC g) RX10 26 10 2 (.object "FormsAboveNought$FormReader") := ⟨RX10, TX10, 9, tyX10, rfl, by decide, pq_t2 3 rfl rfl, uw_X10, tyX10_ok, nmX10, rfl⟩
set_option maxRecDepth 8000 in
theorem fl_X10_33 (g : pq_g) : pq_F (SC g) RX10 33 10 3 (.object "FormsAboveNought$ActReader") := ⟨RX10, TX10, 9, tyX10, rfl, by decide, pq_t2 4 rfl rfl, uw_X10, tyX10_ok, nmX10, rfl⟩
set_option maxRecDepth 8000 in
theorem fl_X10_40 (g : pq_g) : pq_F (SC g) RX10 40 10 4 (.object "FormsAboveNought$Speller") := ⟨RX10, TX10, 9, tyX10, rfl, by decide, pq_t2 5 rfl rfl, uw_X10, tyX10_ok, nmX10, rfl⟩
set_option maxRecDepth 8000 in
theorem fl_X10_47 (g : pq_g) : pq_F (SC g) RX10 47 10 5 (.object "FormsAboveNought$Maker") := ⟨RX10, TX10, 9, tyX10, rfl, by decide, pq_t2 6 rfl rfl, uw_X10, tyX10_ok, nmX10, rfl⟩
set_option maxRecDepth 8000 in
theorem fl_X10_54 (g : pq_g) : pq_F (SC g) RX10 54 10 6 (.object "FormsAboveNought$UndoLog") := ⟨RX10, TX10, 9, tyX10, rfl, by decide, pq_t2 7 rfl rfl, uw_X10, tyX10_ok, nmX10, rfl⟩
set_option maxRecDepth 8000 in
theorem fl_X10_61 (g : pq_g) : pq_F (SC g) RX10 61 10 7 (.object "FormsAboveNought$Lists") := ⟨RX10, TX10, 9, tyX10, rfl, by decide, pq_t2 8 rfl rfl, uw_X10, tyX10_ok, nmX10, rfl⟩
set_option maxRecDepth 8000 in
theorem fl_X10_65 (g : pq_g) : pq_F (SC g) RX10 65 10 8 (.array .int) := ⟨RX10, TX10, 9, tyX10, rfl, by decide, pq_t2 9 rfl rfl, uw_X10, tyX10_ok, nmX10, rfl⟩
set_option maxRecDepth 8000 in
theorem fl_X10_73 (g : pq_g) : pq_F (SC g) RX10 73 3 1 .int := ⟨RX3, TX3, 2, tyX3, rfl, by decide, pq_t1 107 rfl rfl, uw_X3, tyX3_ok, nmX3, rfl⟩
set_option maxRecDepth 8000 in
theorem fl_X10_85 (g : pq_g) : pq_F (SC g) RX10 85 6 0 (.array (.object "FormsAboveNought$Form")) := ⟨RX6, TX6, 5, tyX6, rfl, by decide, pq_t1 79 rfl rfl, uw_X6, tyX6_ok, nmX6, rfl⟩
set_option maxRecDepth 8000 in
theorem fl_X10_89 (g : pq_g) : pq_F (SC g) RX10 89 6 3 .int := ⟨RX6, TX6, 5, tyX6, rfl, by decide, pq_t1 85 rfl rfl, uw_X6, tyX6_ok, nmX6, rfl⟩
set_option maxRecDepth 8000 in
theorem fl_X10_105 (g : pq_g) : pq_F (SC g) RX10 105 8 0 .int := ⟨RX8, TX8, 6, tyX8, rfl, by decide, pq_t1 205 rfl rfl, uw_X8, tyX8_ok, nmX8, rfl⟩
set_option maxRecDepth 8000 in
theorem fl_X10_120 (g : pq_g) : pq_F (SC g) RX10 120 1 0 (.array .int) := ⟨RX1, TX1, 4, tyX1, rfl, by decide, pq_t1 54 rfl rfl, uw_X1, tyX1_ok, nmX1, rfl⟩
set_option maxRecDepth 8000 in
theorem fl_X10_131 (g : pq_g) : pq_F (SC g) RX10 131 1 1 .int := ⟨RX1, TX1, 4, tyX1, rfl, by decide, pq_t1 58 rfl rfl, uw_X1, tyX1_ok, nmX1, rfl⟩
set_option maxRecDepth 8000 in
theorem fl_X10_134 (g : pq_g) : pq_F (SC g) RX10 134 1 2 .int := ⟨RX1, TX1, 4, tyX1, rfl, by decide, pq_t1 61 rfl rfl, uw_X1, tyX1_ok, nmX1, rfl⟩
set_option maxRecDepth 8000 in
theorem fl_X10_137 (g : pq_g) : pq_F (SC g) RX10 137 1 3 .int := ⟨RX1, TX1, 4, tyX1, rfl, by decide, pq_t1 67 rfl rfl, uw_X1, tyX1_ok, nmX1, rfl⟩
set_option maxRecDepth 8000 in
theorem fl_X10_217 (g : pq_g) : pq_F (SC g) RX10 217 4 1 (.array .int) := ⟨RX4, TX4, 2, tyX4, rfl, by decide, pq_t1 235 rfl rfl, uw_X4, tyX4_ok, nmX4, rfl⟩
set_option maxRecDepth 8000 in
theorem fl_X10_263 (g : pq_g) : pq_F (SC g) RX10 263 7 0 .int := ⟨RX7, TX7, 3, tyX7, rfl, by decide, pq_t1 168 rfl rfl, uw_X7, tyX7_ok, nmX7, rfl⟩
set_option maxRecDepth 8000 in
theorem fl_X10_266 (g : pq_g) : pq_F (SC g) RX10 266 7 1 .int := ⟨RX7, TX7, 3, tyX7, rfl, by decide, pq_t1 170 rfl rfl, uw_X7, tyX7_ok, nmX7, rfl⟩
set_option maxRecDepth 8000 in
theorem fl_X10_276 (g : pq_g) : pq_F (SC g) RX10 276 4 0 (.array (.array .int)) := ⟨RX4, TX4, 2, tyX4, rfl, by decide, pq_t1 233 rfl rfl, uw_X4, tyX4_ok, nmX4, rfl⟩
set_option maxRecDepth 8000 in
theorem fl_X10_287 (g : pq_g) : pq_F (SC g) RX10 287 6 4 .int := ⟨RX6, TX6, 5, tyX6, rfl, by decide, pq_t1 87 rfl rfl, uw_X6, tyX6_ok, nmX6, rfl⟩
set_option maxRecDepth 8000 in
theorem fl_X10_303 (g : pq_g) : pq_F (SC g) RX10 303 6 2 (.object "FormsAboveNought$Work") := ⟨RX6, TX6, 5, tyX6, rfl, by decide, pq_t1 83 rfl rfl, uw_X6, tyX6_ok, nmX6, rfl⟩
set_option maxRecDepth 8000 in
theorem fl_X0_9 (g : pq_g) : pq_F (SC g) RX0 9 0 0 (.array .int) := ⟨RX0, TX0, 7, tyX0, rfl, by decide, pq_t1 142 rfl rfl, uw_X0, tyX0_ok, nmX0, rfl⟩
set_option maxRecDepth 8000 in
theorem fl_X0_15 (g : pq_g) : pq_F (SC g) RX0 15 0 1 (.array .int) := ⟨RX0, TX0, 7, tyX0, rfl, by decide, pq_t1 143 rfl rfl, uw_X0, tyX0_ok, nmX0, rfl⟩
set_option maxRecDepth 8000 in
theorem fl_X0_18 (g : pq_g) : pq_F (SC g) RX0 18 0 2 (.array .int) := ⟨RX0, TX0, 7, tyX0, rfl, by decide, pq_t1 144 rfl rfl, uw_X0, tyX0_ok, nmX0, rfl⟩
set_option maxRecDepth 8000 in
theorem fl_X0_21 (g : pq_g) : pq_F (SC g) RX0 21 0 3 (.array .int) := ⟨RX0, TX0, 7, tyX0, rfl, by decide, pq_t1 145 rfl rfl, uw_X0, tyX0_ok, nmX0, rfl⟩
set_option maxRecDepth 8000 in
theorem fl_X1_9 (g : pq_g) : pq_F (SC g) RX1 9 1 0 (.array .int) := ⟨RX1, TX1, 4, tyX1, rfl, by decide, pq_t1 51 rfl rfl, uw_X1, tyX1_ok, nmX1, rfl⟩
set_option maxRecDepth 8000 in
theorem fl_X1_15 (g : pq_g) : pq_F (SC g) RX1 15 1 1 .int := ⟨RX1, TX1, 4, tyX1, rfl, by decide, pq_t1 56 rfl rfl, uw_X1, tyX1_ok, nmX1, rfl⟩
set_option maxRecDepth 8000 in
theorem fl_X1_19 (g : pq_g) : pq_F (SC g) RX1 19 1 2 .int := ⟨RX1, TX1, 4, tyX1, rfl, by decide, pq_t1 59 rfl rfl, uw_X1, tyX1_ok, nmX1, rfl⟩
set_option maxRecDepth 8000 in
theorem fl_X1_22 (g : pq_g) : pq_F (SC g) RX1 22 1 3 .int := ⟨RX1, TX1, 4, tyX1, rfl, by decide, pq_t1 62 rfl rfl, uw_X1, tyX1_ok, nmX1, rfl⟩
set_option maxRecDepth 8000 in
theorem fl_X2_9 (g : pq_g) : pq_F (SC g) RX2 9 2 0 (.array .int) := ⟨RX2, TX2, 5, tyX2, rfl, by decide, pq_t1 120 rfl rfl, uw_X2, tyX2_ok, nmX2, rfl⟩
set_option maxRecDepth 8000 in
theorem fl_X2_15 (g : pq_g) : pq_F (SC g) RX2 15 2 1 (.object "FormsAboveNought$Letters") := ⟨RX2, TX2, 5, tyX2, rfl, by decide, pq_t1 121 rfl rfl, uw_X2, tyX2_ok, nmX2, rfl⟩
set_option maxRecDepth 8000 in
theorem fl_X2_19 (g : pq_g) : pq_F (SC g) RX2 19 2 2 .int := ⟨RX2, TX2, 5, tyX2, rfl, by decide, pq_t1 122 rfl rfl, uw_X2, tyX2_ok, nmX2, rfl⟩
set_option maxRecDepth 8000 in
theorem fl_X2_23 (g : pq_g) : pq_F (SC g) RX2 23 2 4 .int := ⟨RX2, TX2, 5, tyX2, rfl, by decide, pq_t1 124 rfl rfl, uw_X2, tyX2_ok, nmX2, rfl⟩
set_option maxRecDepth 8000 in
theorem fl_X2_41 (g : pq_g) : pq_F (SC g) RX2 41 3 1 .int := ⟨RX3, TX3, 2, tyX3, rfl, by decide, pq_t1 108 rfl rfl, uw_X3, tyX3_ok, nmX3, rfl⟩
set_option maxRecDepth 8000 in
theorem fl_X2_44 (g : pq_g) : pq_F (SC g) RX2 44 1 3 .int := ⟨RX1, TX1, 4, tyX1, rfl, by decide, pq_t1 64 rfl rfl, uw_X1, tyX1_ok, nmX1, rfl⟩
set_option maxRecDepth 8000 in
theorem fl_X2_51 (g : pq_g) : pq_F (SC g) RX2 51 2 3 .int := ⟨RX2, TX2, 5, tyX2, rfl, by decide, pq_t1 123 rfl rfl, uw_X2, tyX2_ok, nmX2, rfl⟩
set_option maxRecDepth 8000 in
theorem fl_X2_56 (g : pq_g) : pq_F (SC g) RX2 56 1 0 (.array .int) := ⟨RX1, TX1, 4, tyX1, rfl, by decide, pq_t1 52 rfl rfl, uw_X1, tyX1_ok, nmX1, rfl⟩
set_option maxRecDepth 8000 in
theorem fl_X3_9 (g : pq_g) : pq_F (SC g) RX3 9 3 0 (.array .int) := ⟨RX3, TX3, 2, tyX3, rfl, by decide, pq_t1 105 rfl rfl, uw_X3, tyX3_ok, nmX3, rfl⟩
set_option maxRecDepth 8000 in
theorem fl_X3_15 (g : pq_g) : pq_F (SC g) RX3 15 3 1 .int := ⟨RX3, TX3, 2, tyX3, rfl, by decide, pq_t1 106 rfl rfl, uw_X3, tyX3_ok, nmX3, rfl⟩
set_option maxRecDepth 8000 in
theorem fl_X4_11 (g : pq_g) : pq_F (SC g) RX4 11 4 0 (.array (.array .int)) := ⟨RX4, TX4, 2, tyX4, rfl, by decide, pq_t1 232 rfl rfl, uw_X4, tyX4_ok, nmX4, rfl⟩
set_option maxRecDepth 8000 in
theorem fl_X4_16 (g : pq_g) : pq_F (SC g) RX4 16 4 1 (.array .int) := ⟨RX4, TX4, 2, tyX4, rfl, by decide, pq_t1 234 rfl rfl, uw_X4, tyX4_ok, nmX4, rfl⟩
set_option maxRecDepth 8000 in
theorem fl_X5_11 (g : pq_g) : pq_F (SC g) RX5 11 5 0 (.array (.array .long)) := ⟨RX5, TX5, 4, tyX5, rfl, by decide, pq_t1 187 rfl rfl, uw_X5, tyX5_ok, nmX5, rfl⟩
set_option maxRecDepth 8000 in
theorem fl_X5_16 (g : pq_g) : pq_F (SC g) RX5 16 5 1 (.array .int) := ⟨RX5, TX5, 4, tyX5, rfl, by decide, pq_t1 188 rfl rfl, uw_X5, tyX5_ok, nmX5, rfl⟩
set_option maxRecDepth 8000 in
theorem fl_X6_11 (g : pq_g) : pq_F (SC g) RX6 11 6 0 (.array (.object "FormsAboveNought$Form")) := ⟨RX6, TX6, 5, tyX6, rfl, by decide, pq_t1 78 rfl rfl, uw_X6, tyX6_ok, nmX6, rfl⟩
set_option maxRecDepth 8000 in
theorem fl_X6_17 (g : pq_g) : pq_F (SC g) RX6 17 6 1 (.array (.object "FormsAboveNought$Form")) := ⟨RX6, TX6, 5, tyX6, rfl, by decide, pq_t1 81 rfl rfl, uw_X6, tyX6_ok, nmX6, rfl⟩
set_option maxRecDepth 8000 in
theorem fl_X6_23 (g : pq_g) : pq_F (SC g) RX6 23 6 2 (.object "FormsAboveNought$Work") := ⟨RX6, TX6, 5, tyX6, rfl, by decide, pq_t1 82 rfl rfl, uw_X6, tyX6_ok, nmX6, rfl⟩
set_option maxRecDepth 8000 in
theorem fl_X6_27 (g : pq_g) : pq_F (SC g) RX6 27 6 4 .int := ⟨RX6, TX6, 5, tyX6, rfl, by decide, pq_t1 86 rfl rfl, uw_X6, tyX6_ok, nmX6, rfl⟩
set_option maxRecDepth 8000 in
theorem fl_X6_32 (g : pq_g) : pq_F (SC g) RX6 32 6 3 .int := ⟨RX6, TX6, 5, tyX6, rfl, by decide, pq_t1 84 rfl rfl, uw_X6, tyX6_ok, nmX6, rfl⟩
set_option maxRecDepth 8000 in
theorem fl_X6_43 (g : pq_g) : pq_F (SC g) RX6 43 1 3 .int := ⟨RX1, TX1, 4, tyX1, rfl, by decide, pq_t1 66 rfl rfl, uw_X1, tyX1_ok, nmX1, rfl⟩
set_option maxRecDepth 8000 in
theorem fl_X6_117 (g : pq_g) : pq_F (SC g) RX6 117 9 1 .int := ⟨RX9, TX9, 2, tyX9, rfl, by decide, pq_t1 39 rfl rfl, uw_X9, tyX9_ok, nmX9, rfl⟩
set_option maxRecDepth 8000 in
theorem fl_X6_118 (g : pq_g) : pq_F (SC g) RX6 118 9 0 (.array .long) := ⟨RX9, TX9, 2, tyX9, rfl, by decide, pq_t1 37 rfl rfl, uw_X9, tyX9_ok, nmX9, rfl⟩
set_option maxRecDepth 8000 in
theorem fl_X6_155 (g : pq_g) : pq_F (SC g) RX6 155 1 0 (.array .int) := ⟨RX1, TX1, 4, tyX1, rfl, by decide, pq_t1 55 rfl rfl, uw_X1, tyX1_ok, nmX1, rfl⟩
set_option maxRecDepth 8000 in
theorem fl_X7_9 (g : pq_g) : pq_F (SC g) RX7 9 7 0 .int := ⟨RX7, TX7, 3, tyX7, rfl, by decide, pq_t1 167 rfl rfl, uw_X7, tyX7_ok, nmX7, rfl⟩
set_option maxRecDepth 8000 in
theorem fl_X7_15 (g : pq_g) : pq_F (SC g) RX7 15 7 1 .int := ⟨RX7, TX7, 3, tyX7, rfl, by decide, pq_t1 169 rfl rfl, uw_X7, tyX7_ok, nmX7, rfl⟩
set_option maxRecDepth 8000 in
theorem fl_X7_18 (g : pq_g) : pq_F (SC g) RX7 18 7 2 .int := ⟨RX7, TX7, 3, tyX7, rfl, by decide, pq_t1 171 rfl rfl, uw_X7, tyX7_ok, nmX7, rfl⟩
set_option maxRecDepth 8000 in
theorem fl_X7_21 (g : pq_g) : pq_F (SC g) RX7 21 1 3 .int := ⟨RX1, TX1, 4, tyX1, rfl, by decide, pq_t1 63 rfl rfl, uw_X1, tyX1_ok, nmX1, rfl⟩
set_option maxRecDepth 8000 in
theorem fl_X8_9 (g : pq_g) : pq_F (SC g) RX8 9 8 1 (.array .int) := ⟨RX8, TX8, 6, tyX8, rfl, by decide, pq_t1 206 rfl rfl, uw_X8, tyX8_ok, nmX8, rfl⟩
set_option maxRecDepth 8000 in
theorem fl_X8_15 (g : pq_g) : pq_F (SC g) RX8 15 8 2 (.array .int) := ⟨RX8, TX8, 6, tyX8, rfl, by decide, pq_t1 207 rfl rfl, uw_X8, tyX8_ok, nmX8, rfl⟩
set_option maxRecDepth 8000 in
theorem fl_X8_18 (g : pq_g) : pq_F (SC g) RX8 18 8 3 (.array .int) := ⟨RX8, TX8, 6, tyX8, rfl, by decide, pq_t1 208 rfl rfl, uw_X8, tyX8_ok, nmX8, rfl⟩
set_option maxRecDepth 8000 in
theorem fl_X8_21 (g : pq_g) : pq_F (SC g) RX8 21 8 4 (.array .int) := ⟨RX8, TX8, 6, tyX8, rfl, by decide, pq_t1 209 rfl rfl, uw_X8, tyX8_ok, nmX8, rfl⟩
set_option maxRecDepth 8000 in
theorem fl_X8_24 (g : pq_g) : pq_F (SC g) RX8 24 8 5 .int := ⟨RX8, TX8, 6, tyX8, rfl, by decide, pq_t1 210 rfl rfl, uw_X8, tyX8_ok, nmX8, rfl⟩
set_option maxRecDepth 8000 in
theorem fl_X8_28 (g : pq_g) : pq_F (SC g) RX8 28 8 0 .int := ⟨RX8, TX8, 6, tyX8, rfl, by decide, pq_t1 204 rfl rfl, uw_X8, tyX8_ok, nmX8, rfl⟩
set_option maxRecDepth 8000 in
theorem fl_X8_43 (g : pq_g) : pq_F (SC g) RX8 43 6 0 (.array (.object "FormsAboveNought$Form")) := ⟨RX6, TX6, 5, tyX6, rfl, by decide, pq_t1 80 rfl rfl, uw_X6, tyX6_ok, nmX6, rfl⟩
set_option maxRecDepth 8000 in
theorem fl_X8_47 (g : pq_g) : pq_F (SC g) RX8 47 1 1 .int := ⟨RX1, TX1, 4, tyX1, rfl, by decide, pq_t1 57 rfl rfl, uw_X1, tyX1_ok, nmX1, rfl⟩
set_option maxRecDepth 8000 in
theorem fl_X8_52 (g : pq_g) : pq_F (SC g) RX8 52 1 2 .int := ⟨RX1, TX1, 4, tyX1, rfl, by decide, pq_t1 60 rfl rfl, uw_X1, tyX1_ok, nmX1, rfl⟩
set_option maxRecDepth 8000 in
theorem fl_X8_55 (g : pq_g) : pq_F (SC g) RX8 55 1 0 (.array .int) := ⟨RX1, TX1, 4, tyX1, rfl, by decide, pq_t1 53 rfl rfl, uw_X1, tyX1_ok, nmX1, rfl⟩
set_option maxRecDepth 8000 in
theorem fl_X9_9 (g : pq_g) : pq_F (SC g) RX9 9 9 0 (.array .long) := ⟨RX9, TX9, 2, tyX9, rfl, by decide, pq_t1 36 rfl rfl, uw_X9, tyX9_ok, nmX9, rfl⟩
set_option maxRecDepth 8000 in
theorem fl_X9_15 (g : pq_g) : pq_F (SC g) RX9 15 9 1 .int := ⟨RX9, TX9, 2, tyX9, rfl, by decide, pq_t1 38 rfl rfl, uw_X9, tyX9_ok, nmX9, rfl⟩
set_option maxRecDepth 8000 in
theorem fl_X9_23 (g : pq_g) : pq_F (SC g) RX9 23 1 3 .int := ⟨RX1, TX1, 4, tyX1, rfl, by decide, pq_t1 65 rfl rfl, uw_X1, tyX1_ok, nmX1, rfl⟩
set_option maxRecDepth 8000 in
theorem fin_X1_1 (g : pq_g) : pq_fin (SC g) 1 1 := ⟨RX1, TX1, 4, rfl, rfl⟩
set_option maxRecDepth 8000 in
theorem fin_X1_2 (g : pq_g) : pq_fin (SC g) 1 2 := ⟨RX1, TX1, 4, rfl, rfl⟩
set_option maxRecDepth 8000 in
theorem fin_X1_3 (g : pq_g) : pq_fin (SC g) 1 3 := ⟨RX1, TX1, 4, rfl, rfl⟩
set_option maxRecDepth 8000 in
theorem fin_X2_1 (g : pq_g) : pq_fin (SC g) 2 1 := ⟨RX2, TX2, 5, rfl, rfl⟩
set_option maxRecDepth 8000 in
theorem fin_X2_2 (g : pq_g) : pq_fin (SC g) 2 2 := ⟨RX2, TX2, 5, rfl, rfl⟩
set_option maxRecDepth 8000 in
theorem fin_X2_3 (g : pq_g) : pq_fin (SC g) 2 3 := ⟨RX2, TX2, 5, rfl, rfl⟩
set_option maxRecDepth 8000 in
theorem fin_X2_4 (g : pq_g) : pq_fin (SC g) 2 4 := ⟨RX2, TX2, 5, rfl, rfl⟩
set_option maxRecDepth 8000 in
theorem fin_X3_1 (g : pq_g) : pq_fin (SC g) 3 1 := ⟨RX3, TX3, 2, rfl, rfl⟩
set_option maxRecDepth 8000 in
theorem fin_X6_3 (g : pq_g) : pq_fin (SC g) 6 3 := ⟨RX6, TX6, 5, rfl, rfl⟩
set_option maxRecDepth 8000 in
theorem fin_X6_4 (g : pq_g) : pq_fin (SC g) 6 4 := ⟨RX6, TX6, 5, rfl, rfl⟩
set_option maxRecDepth 8000 in
theorem fin_X7_0 (g : pq_g) : pq_fin (SC g) 7 0 := ⟨RX7, TX7, 3, rfl, rfl⟩
set_option maxRecDepth 8000 in
theorem fin_X7_1 (g : pq_g) : pq_fin (SC g) 7 1 := ⟨RX7, TX7, 3, rfl, rfl⟩
set_option maxRecDepth 8000 in
theorem fin_X7_2 (g : pq_g) : pq_fin (SC g) 7 2 := ⟨RX7, TX7, 3, rfl, rfl⟩
set_option maxRecDepth 8000 in
theorem fin_X8_0 (g : pq_g) : pq_fin (SC g) 8 0 := ⟨RX8, TX8, 6, rfl, rfl⟩
set_option maxRecDepth 8000 in
theorem fin_X8_5 (g : pq_g) : pq_fin (SC g) 8 5 := ⟨RX8, TX8, 6, rfl, rfl⟩
set_option maxRecDepth 8000 in
theorem fin_X9_1 (g : pq_g) : pq_fin (SC g) 9 1 := ⟨RX9, TX9, 2, rfl, rfl⟩
set_option maxRecDepth 8000 in
theorem lv_X10_69 : Cond.methodLink RX10 69 yX10_refuse ∈ pq_G ∧ Cond.instanceMethod yX10_refuse ∈ pq_G ∧ Cond.selects yX10_refuse.cls yX10_refuse yX10_refuse ∈ pq_G := ⟨pq_t2 53 rfl rfl, pq_t2 55 rfl rfl, pq_t0 2 rfl rfl⟩
set_option maxRecDepth 8000 in
theorem lv_X10_77 : Cond.methodLink RX10 77 yX3_add ∈ pq_G ∧ Cond.instanceMethod yX3_add ∈ pq_G ∧ Cond.selects yX3_add.cls yX3_add yX3_add ∈ pq_G := ⟨pq_t3 62 rfl rfl, pq_t3 63 rfl rfl, pq_t3 64 rfl rfl⟩
set_option maxRecDepth 8000 in
theorem lv_X10_81 : Cond.methodLink RX10 81 yX6_isFull ∈ pq_G ∧ Cond.instanceMethod yX6_isFull ∈ pq_G ∧ Cond.selects yX6_isFull.cls yX6_isFull yX6_isFull ∈ pq_G := ⟨pq_t3 73 rfl rfl, pq_t2 189 rfl rfl, pq_t2 190 rfl rfl⟩
set_option maxRecDepth 8000 in
theorem lv_X10_90 : Cond.methodLink RX10 90 yX2_read ∈ pq_G ∧ Cond.instanceMethod yX2_read ∈ pq_G ∧ Cond.selects yX2_read.cls yX2_read yX2_read ∈ pq_G := ⟨pq_t3 74 rfl rfl, pq_t3 75 rfl rfl, pq_t3 76 rfl rfl⟩
set_option maxRecDepth 8000 in
theorem lv_X10_94 : Cond.methodLink RX10 94 yX10_cameOr ∈ pq_G ∧ Cond.instanceMethod yX10_cameOr ∈ pq_G ∧ Cond.selects yX10_cameOr.cls yX10_cameOr yX10_cameOr ∈ pq_G := ⟨pq_t2 198 rfl rfl, pq_t2 200 rfl rfl, pq_t0 7 rfl rfl⟩
set_option maxRecDepth 8000 in
theorem lv_X10_107 : Cond.methodLink RX10 107 yX6_lacks ∈ pq_G ∧ Cond.instanceMethod yX6_lacks ∈ pq_G ∧ Cond.selects yX6_lacks.cls yX6_lacks yX6_lacks ∈ pq_G := ⟨pq_t2 33 rfl rfl, pq_t2 34 rfl rfl, pq_t2 35 rfl rfl⟩
set_option maxRecDepth 8000 in
theorem lv_X10_111 : Cond.methodLink RX10 111 yX10_lacksTerm ∈ pq_G ∧ Cond.instanceMethod yX10_lacksTerm ∈ pq_G ∧ Cond.selects yX10_lacksTerm.cls yX10_lacksTerm yX10_lacksTerm ∈ pq_G := ⟨pq_t2 40 rfl rfl, pq_t2 42 rfl rfl, pq_t0 0 rfl rfl⟩
set_option maxRecDepth 8000 in
theorem lv_X10_115 : Cond.methodLink RX10 115 yX10_refuseFarInt ∈ pq_G ∧ Cond.instanceMethod yX10_refuseFarInt ∈ pq_G ∧ Cond.selects yX10_refuseFarInt.cls yX10_refuseFarInt yX10_refuseFarInt ∈ pq_G := ⟨pq_t2 48 rfl rfl, pq_t2 50 rfl rfl, pq_t0 1 rfl rfl⟩
set_option maxRecDepth 8000 in
theorem lv_X10_125 : Cond.methodLink RX10 125 yX8_add ∈ pq_G ∧ Cond.instanceMethod yX8_add ∈ pq_G ∧ Cond.selects yX8_add.cls yX8_add yX8_add ∈ pq_G := ⟨pq_t2 59 rfl rfl, pq_t2 60 rfl rfl, pq_t2 61 rfl rfl⟩
set_option maxRecDepth 8000 in
theorem lv_X10_128 : Cond.methodLink RX10 128 yX10_notBelow ∈ pq_G ∧ Cond.static yX10_notBelow ∈ pq_G := ⟨pq_t2 47 rfl rfl, pq_t2 38 rfl rfl⟩
set_option maxRecDepth 8000 in
theorem lv_X10_140 : Cond.methodLink RX10 140 yX10_termsOf ∈ pq_G ∧ Cond.static yX10_termsOf ∈ pq_G := ⟨pq_t2 44 rfl rfl, pq_t2 45 rfl rfl⟩
set_option maxRecDepth 8000 in
theorem lv_X10_143 : Cond.methodLink RX10 143 yX1_howMany ∈ pq_G ∧ Cond.instanceMethod yX1_howMany ∈ pq_G ∧ Cond.selects yX1_howMany.cls yX1_howMany yX1_howMany ∈ pq_G := ⟨pq_t2 74 rfl rfl, pq_t2 75 rfl rfl, pq_t2 76 rfl rfl⟩
set_option maxRecDepth 8000 in
theorem lv_X10_149 : Cond.methodLink RX10 149 yX1_at ∈ pq_G ∧ Cond.instanceMethod yX1_at ∈ pq_G ∧ Cond.selects yX1_at.cls yX1_at yX1_at ∈ pq_G := ⟨pq_t2 98 rfl rfl, pq_t2 80 rfl rfl, pq_t2 81 rfl rfl⟩
set_option maxRecDepth 8000 in
theorem lv_X10_152 : Cond.methodLink RX10 152 yX10_refuseFar ∈ pq_G ∧ Cond.instanceMethod yX10_refuseFar ∈ pq_G ∧ Cond.selects yX10_refuseFar.cls yX10_refuseFar yX10_refuseFar ∈ pq_G := ⟨pq_t2 103 rfl rfl, pq_t2 105 rfl rfl, pq_t0 3 rfl rfl⟩
set_option maxRecDepth 8000 in
theorem lv_X10_156 : Cond.methodLink RX10 156 yX10_workOn ∈ pq_G ∧ Cond.instanceMethod yX10_workOn ∈ pq_G ∧ Cond.selects yX10_workOn.cls yX10_workOn yX10_workOn ∈ pq_G := ⟨pq_t2 108 rfl rfl, pq_t2 110 rfl rfl, pq_t0 4 rfl rfl⟩
set_option maxRecDepth 8000 in
theorem lv_X10_160 : Cond.methodLink RX10 160 yX9_worth ∈ pq_G ∧ Cond.instanceMethod yX9_worth ∈ pq_G ∧ Cond.selects yX9_worth.cls yX9_worth yX9_worth ∈ pq_G := ⟨pq_t2 121 rfl rfl, pq_t2 122 rfl rfl, pq_t2 123 rfl rfl⟩
set_option maxRecDepth 8000 in
theorem lv_X10_166 : Cond.methodLink RX10 166 yX10_isSide ∈ pq_G ∧ Cond.static yX10_isSide ∈ pq_G := ⟨pq_t2 129 rfl rfl, pq_t2 130 rfl rfl⟩
set_option maxRecDepth 8000 in
theorem lv_X10_169 : Cond.methodLink RX10 169 yX10_placesOn ∈ pq_G ∧ Cond.static yX10_placesOn ∈ pq_G := ⟨pq_t2 132 rfl rfl, pq_t2 133 rfl rfl⟩
set_option maxRecDepth 8000 in
theorem lv_X10_173 : Cond.methodLink RX10 173 yX9_raise ∈ pq_G ∧ Cond.instanceMethod yX9_raise ∈ pq_G ∧ Cond.selects yX9_raise.cls yX9_raise yX9_raise ∈ pq_G := ⟨pq_t2 141 rfl rfl, pq_t2 142 rfl rfl, pq_t2 143 rfl rfl⟩
set_option maxRecDepth 8000 in
theorem lv_X10_177 : Cond.methodLink RX10 177 yX9_among ∈ pq_G ∧ Cond.instanceMethod yX9_among ∈ pq_G ∧ Cond.selects yX9_among.cls yX9_among yX9_among ∈ pq_G := ⟨pq_t2 149 rfl rfl, pq_t2 150 rfl rfl, pq_t2 151 rfl rfl⟩
set_option maxRecDepth 8000 in
theorem lv_X10_181 : Cond.methodLink RX10 181 yX9_firstFault ∈ pq_G ∧ Cond.instanceMethod yX9_firstFault ∈ pq_G ∧ Cond.selects yX9_firstFault.cls yX9_firstFault yX9_firstFault ∈ pq_G := ⟨pq_t3 132 rfl rfl, pq_t2 165 rfl rfl, pq_t2 166 rfl rfl⟩
set_option maxRecDepth 8000 in
theorem lv_X10_184 : Cond.methodLink RX10 184 yX9_leastLift ∈ pq_G ∧ Cond.instanceMethod yX9_leastLift ∈ pq_G ∧ Cond.selects yX9_leastLift.cls yX9_leastLift yX9_leastLift ∈ pq_G := ⟨pq_t2 160 rfl rfl, pq_t2 161 rfl rfl, pq_t2 162 rfl rfl⟩
set_option maxRecDepth 8000 in
theorem lv_X10_187 : Cond.methodLink RX10 187 yX9_failingSize ∈ pq_G ∧ Cond.instanceMethod yX9_failingSize ∈ pq_G ∧ Cond.selects yX9_failingSize.cls yX9_failingSize yX9_failingSize ∈ pq_G := ⟨pq_t3 113 rfl rfl, pq_t3 114 rfl rfl, pq_t3 115 rfl rfl⟩
set_option maxRecDepth 8000 in
theorem lv_X10_190 : Cond.methodLink RX10 190 yX9_failingPoint ∈ pq_G ∧ Cond.instanceMethod yX9_failingPoint ∈ pq_G ∧ Cond.selects yX9_failingPoint.cls yX9_failingPoint yX9_failingPoint ∈ pq_G := ⟨pq_t3 127 rfl rfl, pq_t3 118 rfl rfl, pq_t3 119 rfl rfl⟩
set_option maxRecDepth 8000 in
theorem lv_X10_194 : Cond.methodLink RX10 194 yX10_pointsRefused ∈ pq_G ∧ Cond.instanceMethod yX10_pointsRefused ∈ pq_G ∧ Cond.selects yX10_pointsRefused.cls yX10_pointsRefused yX10_pointsRefused ∈ pq_G := ⟨pq_t3 137 rfl rfl, pq_t3 139 rfl rfl, pq_t0 13 rfl rfl⟩
set_option maxRecDepth 8000 in
theorem lv_X10_198 : Cond.methodLink RX10 198 yX9_lowestPoint ∈ pq_G ∧ Cond.instanceMethod yX9_lowestPoint ∈ pq_G ∧ Cond.selects yX9_lowestPoint.cls yX9_lowestPoint yX9_lowestPoint ∈ pq_G := ⟨pq_t3 141 rfl rfl, pq_t3 142 rfl rfl, pq_t3 143 rfl rfl⟩
set_option maxRecDepth 8000 in
theorem lv_X10_201 : Cond.methodLink RX10 201 yX9_worthAt ∈ pq_G ∧ Cond.instanceMethod yX9_worthAt ∈ pq_G ∧ Cond.selects yX9_worthAt.cls yX9_worthAt yX9_worthAt ∈ pq_G := ⟨pq_t3 145 rfl rfl, pq_t3 122 rfl rfl, pq_t3 123 rfl rfl⟩
set_option maxRecDepth 8000 in
theorem lv_X10_211 : Cond.methodLink RX10 211 yX4_misses ∈ pq_G ∧ Cond.instanceMethod yX4_misses ∈ pq_G ∧ Cond.selects yX4_misses.cls yX4_misses yX4_misses ∈ pq_G := ⟨pq_t3 200 rfl rfl, pq_t3 201 rfl rfl, pq_t3 202 rfl rfl⟩
set_option maxRecDepth 8000 in
theorem lv_X10_214 : Cond.methodLink RX10 214 yX4_isPolynomial ∈ pq_G ∧ Cond.instanceMethod yX4_isPolynomial ∈ pq_G ∧ Cond.selects yX4_isPolynomial.cls yX4_isPolynomial yX4_isPolynomial ∈ pq_G := ⟨pq_t3 208 rfl rfl, pq_t3 209 rfl rfl, pq_t3 210 rfl rfl⟩
set_option maxRecDepth 8000 in
theorem lv_X10_219 : Cond.methodLink RX10 219 yX4_wall ∈ pq_G ∧ Cond.instanceMethod yX4_wall ∈ pq_G ∧ Cond.selects yX4_wall.cls yX4_wall yX4_wall ∈ pq_G := ⟨pq_t3 214 rfl rfl, pq_t3 215 rfl rfl, pq_t3 216 rfl rfl⟩
set_option maxRecDepth 8000 in
theorem lv_X10_227 : Cond.methodLink RX10 227 yX4_wallsClear ∈ pq_G ∧ Cond.instanceMethod yX4_wallsClear ∈ pq_G ∧ Cond.selects yX4_wallsClear.cls yX4_wallsClear yX4_wallsClear ∈ pq_G := ⟨pq_t3 230 rfl rfl, pq_t3 231 rfl rfl, pq_t3 232 rfl rfl⟩
set_option maxRecDepth 8000 in
theorem lv_X10_244 : Cond.methodLink RX10 244 yX6_bringSum ∈ pq_G ∧ Cond.instanceMethod yX6_bringSum ∈ pq_G ∧ Cond.selects yX6_bringSum.cls yX6_bringSum yX6_bringSum ∈ pq_G := ⟨pq_t2 177 rfl rfl, pq_t2 178 rfl rfl, pq_t2 179 rfl rfl⟩
set_option maxRecDepth 8000 in
theorem lv_X10_247 : Cond.methodLink RX10 247 yX6_bringProduct ∈ pq_G ∧ Cond.instanceMethod yX6_bringProduct ∈ pq_G ∧ Cond.selects yX6_bringProduct.cls yX6_bringProduct yX6_bringProduct ∈ pq_G := ⟨pq_t2 206 rfl rfl, pq_t2 207 rfl rfl, pq_t2 208 rfl rfl⟩
set_option maxRecDepth 8000 in
theorem lv_X10_250 : Cond.methodLink RX10 250 yX6_bringLift ∈ pq_G ∧ Cond.instanceMethod yX6_bringLift ∈ pq_G ∧ Cond.selects yX6_bringLift.cls yX6_bringLift yX6_bringLift ∈ pq_G := ⟨pq_t2 225 rfl rfl, pq_t2 226 rfl rfl, pq_t2 227 rfl rfl⟩
set_option maxRecDepth 8000 in
theorem lv_X10_253 : Cond.methodLink RX10 253 yX6_bringNegative ∈ pq_G ∧ Cond.instanceMethod yX6_bringNegative ∈ pq_G ∧ Cond.selects yX6_bringNegative.cls yX6_bringNegative yX6_bringNegative ∈ pq_G := ⟨pq_t2 234 rfl rfl, pq_t2 235 rfl rfl, pq_t2 236 rfl rfl⟩
set_option maxRecDepth 8000 in
theorem lv_X10_256 : Cond.methodLink RX10 256 yX6_bringOn ∈ pq_G ∧ Cond.instanceMethod yX6_bringOn ∈ pq_G ∧ Cond.selects yX6_bringOn.cls yX6_bringOn yX6_bringOn ∈ pq_G := ⟨pq_t3 2 rfl rfl, pq_t3 3 rfl rfl, pq_t3 4 rfl rfl⟩
set_option maxRecDepth 8000 in
theorem lv_X10_259 : Cond.methodLink RX10 259 yX7_spell ∈ pq_G ∧ Cond.instanceMethod yX7_spell ∈ pq_G ∧ Cond.selects yX7_spell.cls yX7_spell yX7_spell ∈ pq_G := ⟨pq_t3 157 rfl rfl, pq_t3 158 rfl rfl, pq_t3 159 rfl rfl⟩
set_option maxRecDepth 8000 in
theorem lv_X10_273 : Cond.methodLink RX10 273 yX4_renew ∈ pq_G ∧ Cond.instanceMethod yX4_renew ∈ pq_G ∧ Cond.selects yX4_renew.cls yX4_renew yX4_renew ∈ pq_G := ⟨pq_t3 192 rfl rfl, pq_t3 193 rfl rfl, pq_t3 194 rfl rfl⟩
set_option maxRecDepth 8000 in
theorem lv_X10_280 : Cond.methodLink RX10 280 yX8_takeBack ∈ pq_G ∧ Cond.instanceMethod yX8_takeBack ∈ pq_G ∧ Cond.selects yX8_takeBack.cls yX8_takeBack yX8_takeBack ∈ pq_G := ⟨pq_t3 10 rfl rfl, pq_t3 11 rfl rfl, pq_t3 12 rfl rfl⟩
set_option maxRecDepth 8000 in
theorem lv_X10_284 : Cond.methodLink RX10 284 yX6_keepImage ∈ pq_G ∧ Cond.instanceMethod yX6_keepImage ∈ pq_G ∧ Cond.selects yX6_keepImage.cls yX6_keepImage yX6_keepImage ∈ pq_G := ⟨pq_t3 19 rfl rfl, pq_t3 20 rfl rfl, pq_t3 21 rfl rfl⟩
set_option maxRecDepth 8000 in
theorem lv_X10_290 : Cond.methodLink RX10 290 yX6_restoreImage ∈ pq_G ∧ Cond.instanceMethod yX6_restoreImage ∈ pq_G ∧ Cond.selects yX6_restoreImage.cls yX6_restoreImage yX6_restoreImage ∈ pq_G := ⟨pq_t3 31 rfl rfl, pq_t3 32 rfl rfl, pq_t3 33 rfl rfl⟩
set_option maxRecDepth 8000 in
theorem lv_X10_293 : Cond.methodLink RX10 293 yX6_termsOfAll ∈ pq_G ∧ Cond.instanceMethod yX6_termsOfAll ∈ pq_G ∧ Cond.selects yX6_termsOfAll.cls yX6_termsOfAll yX6_termsOfAll ∈ pq_G := ⟨pq_t3 39 rfl rfl, pq_t3 40 rfl rfl, pq_t3 41 rfl rfl⟩
set_option maxRecDepth 8000 in
theorem lv_X10_297 : Cond.methodLink RX10 297 yX6_clearForms ∈ pq_G ∧ Cond.instanceMethod yX6_clearForms ∈ pq_G ∧ Cond.selects yX6_clearForms.cls yX6_clearForms yX6_clearForms ∈ pq_G := ⟨pq_t3 43 rfl rfl, pq_t3 44 rfl rfl, pq_t3 45 rfl rfl⟩
set_option maxRecDepth 8000 in
theorem lv_X10_307 : Cond.methodLink RX10 307 yX9_takeOn ∈ pq_G ∧ Cond.instanceMethod yX9_takeOn ∈ pq_G ∧ Cond.selects yX9_takeOn.cls yX9_takeOn yX9_takeOn ∈ pq_G := ⟨pq_t2 112 rfl rfl, pq_t2 113 rfl rfl, pq_t2 114 rfl rfl⟩
set_option maxRecDepth 8000 in
theorem lv_X10_310 : Cond.methodLink RX10 310 yX10_termOf ∈ pq_G ∧ Cond.static yX10_termOf ∈ pq_G := ⟨pq_t2 86 rfl rfl, pq_t2 87 rfl rfl⟩
set_option maxRecDepth 8000 in
theorem lv_X10_316 : Cond.methodLink RX10 316 yJ6_bitCount_0f7a4 ∈ pq_G ∧ Cond.static yJ6_bitCount_0f7a4 ∈ pq_G := ⟨pq_t2 135 rfl rfl, pq_t2 136 rfl rfl⟩
set_option maxRecDepth 8000 in
theorem lv_X1_25 : Cond.static yX10_termOf ∈ pq_G := pq_t2 87 rfl rfl
set_option maxRecDepth 8000 in
theorem lv_X1_29 : Cond.static yX10_behindA ∈ pq_G := pq_t2 84 rfl rfl
set_option maxRecDepth 8000 in
theorem lv_X1_33 : Cond.methodLink RX1 33 yX1_has ∈ pq_G ∧ Cond.instanceMethod yX1_has ∈ pq_G ∧ Cond.selects yX1_has.cls yX1_has yX1_has ∈ pq_G := ⟨pq_t2 90 rfl rfl, pq_t2 91 rfl rfl, pq_t2 92 rfl rfl⟩
set_option maxRecDepth 8000 in
theorem lv_X1_37 : Cond.static yX10_termsOf ∈ pq_G := pq_t2 45 rfl rfl
set_option maxRecDepth 8000 in
theorem lv_X1_40 : Cond.methodLink RX1 40 yX1_at ∈ pq_G ∧ Cond.instanceMethod yX1_at ∈ pq_G ∧ Cond.selects yX1_at.cls yX1_at yX1_at ∈ pq_G := ⟨pq_t2 79 rfl rfl, pq_t2 80 rfl rfl, pq_t2 81 rfl rfl⟩
set_option maxRecDepth 8000 in
theorem lv_X2_26 : Cond.methodLink RX2 26 yX1_makeNought ∈ pq_G ∧ Cond.instanceMethod yX1_makeNought ∈ pq_G ∧ Cond.selects yX1_makeNought.cls yX1_makeNought yX1_makeNought ∈ pq_G := ⟨pq_t3 78 rfl rfl, pq_t2 195 rfl rfl, pq_t2 196 rfl rfl⟩
set_option maxRecDepth 8000 in
theorem lv_X2_31 : Cond.methodLink RX2 31 yX3_at ∈ pq_G ∧ Cond.instanceMethod yX3_at ∈ pq_G ∧ Cond.selects yX3_at.cls yX3_at yX3_at ∈ pq_G := ⟨pq_t3 79 rfl rfl, pq_t3 80 rfl rfl, pq_t3 81 rfl rfl⟩
set_option maxRecDepth 8000 in
theorem lv_X2_37 : Cond.methodLink RX2 37 yX2_readMember ∈ pq_G ∧ Cond.instanceMethod yX2_readMember ∈ pq_G ∧ Cond.selects yX2_readMember.cls yX2_readMember yX2_readMember ∈ pq_G := ⟨pq_t3 84 rfl rfl, pq_t3 86 rfl rfl, pq_t0 9 rfl rfl⟩
set_option maxRecDepth 8000 in
theorem lv_X2_47 : Cond.methodLink RX2 47 yX2_readNumber ∈ pq_G ∧ Cond.instanceMethod yX2_readNumber ∈ pq_G ∧ Cond.selects yX2_readNumber.cls yX2_readNumber yX2_readNumber ∈ pq_G := ⟨pq_t3 88 rfl rfl, pq_t3 90 rfl rfl, pq_t0 10 rfl rfl⟩
set_option maxRecDepth 8000 in
theorem lv_X2_52 : Cond.methodLink RX2 52 yX2_readPower ∈ pq_G ∧ Cond.instanceMethod yX2_readPower ∈ pq_G ∧ Cond.selects yX2_readPower.cls yX2_readPower yX2_readPower ∈ pq_G := ⟨pq_t3 97 rfl rfl, pq_t3 99 rfl rfl, pq_t0 11 rfl rfl⟩
set_option maxRecDepth 8000 in
theorem lv_X2_59 : Cond.static yX10_termOf ∈ pq_G := pq_t2 87 rfl rfl
set_option maxRecDepth 8000 in
theorem lv_X2_63 : Cond.methodLink RX2 63 yX3_hasDigit ∈ pq_G ∧ Cond.instanceMethod yX3_hasDigit ∈ pq_G ∧ Cond.selects yX3_hasDigit.cls yX3_hasDigit yX3_hasDigit ∈ pq_G := ⟨pq_t3 92 rfl rfl, pq_t3 93 rfl rfl, pq_t3 94 rfl rfl⟩
set_option maxRecDepth 8000 in
theorem lv_X2_66 : Cond.methodLink RX2 66 yX2_fits ∈ pq_G ∧ Cond.instanceMethod yX2_fits ∈ pq_G ∧ Cond.selects yX2_fits.cls yX2_fits yX2_fits ∈ pq_G := ⟨pq_t3 101 rfl rfl, pq_t3 103 rfl rfl, pq_t0 12 rfl rfl⟩
set_option maxRecDepth 8000 in
theorem lv_X3_19 : Cond.static yX10_notBelow ∈ pq_G := pq_t2 38 rfl rfl
set_option maxRecDepth 8000 in
theorem lv_X3_23 : Cond.methodLink RX3 23 yX3_at ∈ pq_G ∧ Cond.instanceMethod yX3_at ∈ pq_G ∧ Cond.selects yX3_at.cls yX3_at yX3_at ∈ pq_G := ⟨pq_t3 96 rfl rfl, pq_t3 80 rfl rfl, pq_t3 81 rfl rfl⟩
set_option maxRecDepth 8000 in
theorem lv_X4_22 : Cond.methodLink RX4 22 yX4_ways ∈ pq_G ∧ Cond.static yX4_ways ∈ pq_G := ⟨pq_t3 218 rfl rfl, pq_t3 219 rfl rfl⟩
set_option maxRecDepth 8000 in
theorem lv_X4_26 : Cond.methodLink RX4 26 yX4_wall ∈ pq_G ∧ Cond.instanceMethod yX4_wall ∈ pq_G ∧ Cond.selects yX4_wall.cls yX4_wall yX4_wall ∈ pq_G := ⟨pq_t3 234 rfl rfl, pq_t3 215 rfl rfl, pq_t3 216 rfl rfl⟩
set_option maxRecDepth 8000 in
theorem lv_X4_30 : Cond.static yX10_fails ∈ pq_G := pq_t2 171 rfl rfl
set_option maxRecDepth 8000 in
theorem lv_X6_35 : Cond.static yX10_notBelow ∈ pq_G := pq_t2 38 rfl rfl
set_option maxRecDepth 8000 in
theorem lv_X6_39 : Cond.methodLink RX6 39 yX1_copyOf ∈ pq_G ∧ Cond.instanceMethod yX1_copyOf ∈ pq_G ∧ Cond.selects yX1_copyOf.cls yX1_copyOf yX1_copyOf ∈ pq_G := ⟨pq_t3 23 rfl rfl, pq_t3 24 rfl rfl, pq_t3 25 rfl rfl⟩
set_option maxRecDepth 8000 in
theorem lv_X6_46 : Cond.static yX10_termsOf ∈ pq_G := pq_t2 45 rfl rfl
set_option maxRecDepth 8000 in
theorem lv_X6_50 : Cond.methodLink RX6 50 yX1_howMany ∈ pq_G ∧ Cond.instanceMethod yX1_howMany ∈ pq_G ∧ Cond.selects yX1_howMany.cls yX1_howMany yX1_howMany ∈ pq_G := ⟨pq_t3 47 rfl rfl, pq_t2 75 rfl rfl, pq_t2 76 rfl rfl⟩
set_option maxRecDepth 8000 in
theorem lv_X6_63 : Cond.methodLink RX6 63 yX1_at ∈ pq_G ∧ Cond.instanceMethod yX1_at ∈ pq_G ∧ Cond.selects yX1_at.cls yX1_at yX1_at ∈ pq_G := ⟨pq_t2 183 rfl rfl, pq_t2 80 rfl rfl, pq_t2 81 rfl rfl⟩
set_option maxRecDepth 8000 in
theorem lv_X6_113 : Cond.methodLink RX6 113 yX9_takeOn ∈ pq_G ∧ Cond.instanceMethod yX9_takeOn ∈ pq_G ∧ Cond.selects yX9_takeOn.cls yX9_takeOn yX9_takeOn ∈ pq_G := ⟨pq_t2 181 rfl rfl, pq_t2 113 rfl rfl, pq_t2 114 rfl rfl⟩
set_option maxRecDepth 8000 in
theorem lv_X6_122 : Cond.methodLink RX6 122 yX6_settle ∈ pq_G ∧ Cond.instanceMethod yX6_settle ∈ pq_G ∧ Cond.selects yX6_settle.cls yX6_settle yX6_settle ∈ pq_G := ⟨pq_t2 184 rfl rfl, pq_t2 186 rfl rfl, pq_t0 6 rfl rfl⟩
set_option maxRecDepth 8000 in
theorem lv_X6_126 : Cond.methodLink RX6 126 yX9_makeNought ∈ pq_G ∧ Cond.instanceMethod yX9_makeNought ∈ pq_G ∧ Cond.selects yX9_makeNought.cls yX9_makeNought yX9_makeNought ∈ pq_G := ⟨pq_t2 210 rfl rfl, pq_t2 211 rfl rfl, pq_t2 212 rfl rfl⟩
set_option maxRecDepth 8000 in
theorem lv_X6_130 : Cond.methodLink RX6 130 yX1_has ∈ pq_G ∧ Cond.instanceMethod yX1_has ∈ pq_G ∧ Cond.selects yX1_has.cls yX1_has yX1_has ∈ pq_G := ⟨pq_t2 215 rfl rfl, pq_t2 91 rfl rfl, pq_t2 92 rfl rfl⟩
set_option maxRecDepth 8000 in
theorem lv_X6_134 : Cond.methodLink RX6 134 yX6_addTimes ∈ pq_G ∧ Cond.instanceMethod yX6_addTimes ∈ pq_G ∧ Cond.selects yX6_addTimes.cls yX6_addTimes yX6_addTimes ∈ pq_G := ⟨pq_t2 216 rfl rfl, pq_t2 218 rfl rfl, pq_t0 8 rfl rfl⟩
set_option maxRecDepth 8000 in
theorem lv_X6_138 : Cond.static yX10_termOf ∈ pq_G := pq_t2 87 rfl rfl
set_option maxRecDepth 8000 in
theorem lv_X6_142 : Cond.methodLink RX6 142 yX9_raise ∈ pq_G ∧ Cond.instanceMethod yX9_raise ∈ pq_G ∧ Cond.selects yX9_raise.cls yX9_raise yX9_raise ∈ pq_G := ⟨pq_t2 229 rfl rfl, pq_t2 142 rfl rfl, pq_t2 143 rfl rfl⟩
set_option maxRecDepth 8000 in
theorem lv_X6_146 : Cond.methodLink RX6 146 yX6_isFull ∈ pq_G ∧ Cond.instanceMethod yX6_isFull ∈ pq_G ∧ Cond.selects yX6_isFull.cls yX6_isFull yX6_isFull ∈ pq_G := ⟨pq_t2 188 rfl rfl, pq_t2 189 rfl rfl, pq_t2 190 rfl rfl⟩
set_option maxRecDepth 8000 in
theorem lv_X6_153 : Cond.methodLink RX6 153 yX1_makeNought ∈ pq_G ∧ Cond.instanceMethod yX1_makeNought ∈ pq_G ∧ Cond.selects yX1_makeNought.cls yX1_makeNought yX1_makeNought ∈ pq_G := ⟨pq_t2 194 rfl rfl, pq_t2 195 rfl rfl, pq_t2 196 rfl rfl⟩
set_option maxRecDepth 8000 in
theorem lv_X7_26 : Cond.methodLink RX7 26 yX7_spellTerm ∈ pq_G ∧ Cond.instanceMethod yX7_spellTerm ∈ pq_G ∧ Cond.selects yX7_spellTerm.cls yX7_spellTerm yX7_spellTerm ∈ pq_G := ⟨pq_t3 161 rfl rfl, pq_t3 163 rfl rfl, pq_t0 14 rfl rfl⟩
set_option maxRecDepth 8000 in
theorem lv_X7_30 : Cond.methodLink RX7 30 yX7_add ∈ pq_G ∧ Cond.instanceMethod yX7_add ∈ pq_G ∧ Cond.selects yX7_add.cls yX7_add yX7_add ∈ pq_G := ⟨pq_t3 166 rfl rfl, pq_t3 168 rfl rfl, pq_t0 15 rfl rfl⟩
set_option maxRecDepth 8000 in
theorem lv_X7_34 : Cond.methodLink RX7 34 yX1_has ∈ pq_G ∧ Cond.instanceMethod yX1_has ∈ pq_G ∧ Cond.selects yX1_has.cls yX1_has yX1_has ∈ pq_G := ⟨pq_t3 165 rfl rfl, pq_t2 91 rfl rfl, pq_t2 92 rfl rfl⟩
set_option maxRecDepth 8000 in
theorem lv_X7_44 : Cond.methodLink RX7 44 yX7_spellNumber ∈ pq_G ∧ Cond.instanceMethod yX7_spellNumber ∈ pq_G ∧ Cond.selects yX7_spellNumber.cls yX7_spellNumber yX7_spellNumber ∈ pq_G := ⟨pq_t3 173 rfl rfl, pq_t3 175 rfl rfl, pq_t0 16 rfl rfl⟩
set_option maxRecDepth 8000 in
theorem lv_X7_47 : Cond.methodLink RX7 47 yX7_spellPower ∈ pq_G ∧ Cond.instanceMethod yX7_spellPower ∈ pq_G ∧ Cond.selects yX7_spellPower.cls yX7_spellPower yX7_spellPower ∈ pq_G := ⟨pq_t3 177 rfl rfl, pq_t3 179 rfl rfl, pq_t0 17 rfl rfl⟩
set_option maxRecDepth 8000 in
theorem lv_X8_37 : Cond.methodLink RX8 37 yX6_lacks ∈ pq_G ∧ Cond.instanceMethod yX6_lacks ∈ pq_G ∧ Cond.selects yX6_lacks.cls yX6_lacks yX6_lacks ∈ pq_G := ⟨pq_t3 14 rfl rfl, pq_t2 34 rfl rfl, pq_t2 35 rfl rfl⟩
set_option maxRecDepth 8000 in
theorem lv_X9_19 : Cond.static yX10_termsOf ∈ pq_G := pq_t2 45 rfl rfl
set_option maxRecDepth 8000 in
theorem lv_X9_26 : Cond.static yX10_termOf ∈ pq_G := pq_t2 87 rfl rfl
set_option maxRecDepth 8000 in
theorem lv_X9_30 : Cond.static yX10_standsOn ∈ pq_G := pq_t2 118 rfl rfl
set_option maxRecDepth 8000 in
theorem lv_X9_34 : Cond.methodLink RX9 34 yX1_has ∈ pq_G ∧ Cond.instanceMethod yX1_has ∈ pq_G ∧ Cond.selects yX1_has.cls yX1_has yX1_has ∈ pq_G := ⟨pq_t2 120 rfl rfl, pq_t2 91 rfl rfl, pq_t2 92 rfl rfl⟩
set_option maxRecDepth 8000 in
theorem lv_X9_38 : Cond.methodLink RX9 38 yX9_raiseOnce ∈ pq_G ∧ Cond.instanceMethod yX9_raiseOnce ∈ pq_G ∧ Cond.selects yX9_raiseOnce.cls yX9_raiseOnce yX9_raiseOnce ∈ pq_G := ⟨pq_t2 145 rfl rfl, pq_t2 147 rfl rfl, pq_t0 5 rfl rfl⟩
set_option maxRecDepth 8000 in
theorem lv_X9_42 : Cond.static yX10_numberOn ∈ pq_G := pq_t2 154 rfl rfl
set_option maxRecDepth 8000 in
theorem lv_X9_45 : Cond.static yX10_placesOn ∈ pq_G := pq_t2 133 rfl rfl
set_option maxRecDepth 8000 in
theorem lv_X9_48 : Cond.methodLink RX9 48 yX9_among ∈ pq_G ∧ Cond.instanceMethod yX9_among ∈ pq_G ∧ Cond.selects yX9_among.cls yX9_among yX9_among ∈ pq_G := ⟨pq_t2 169 rfl rfl, pq_t2 150 rfl rfl, pq_t2 151 rfl rfl⟩
set_option maxRecDepth 8000 in
theorem lv_X9_52 : Cond.static yX10_fails ∈ pq_G := pq_t2 171 rfl rfl
set_option maxRecDepth 8000 in
theorem lv_X9_56 : Cond.methodLink RX9 56 yX9_firstFault ∈ pq_G ∧ Cond.instanceMethod yX9_firstFault ∈ pq_G ∧ Cond.selects yX9_firstFault.cls yX9_firstFault yX9_firstFault ∈ pq_G := ⟨pq_t2 164 rfl rfl, pq_t2 165 rfl rfl, pq_t2 166 rfl rfl⟩
set_option maxRecDepth 8000 in
theorem lv_X9_59 : Cond.static yX10_behindA ∈ pq_G := pq_t2 84 rfl rfl
set_option maxRecDepth 8000 in
theorem lv_X9_62 : Cond.methodLink RX9 62 yX9_worth ∈ pq_G ∧ Cond.instanceMethod yX9_worth ∈ pq_G ∧ Cond.selects yX9_worth.cls yX9_worth yX9_worth ∈ pq_G := ⟨pq_t3 126 rfl rfl, pq_t2 122 rfl rfl, pq_t2 123 rfl rfl⟩
set_option maxRecDepth 8000 in
theorem lv_X9_66 : Cond.methodLink RX9 66 yX9_failingPoint ∈ pq_G ∧ Cond.instanceMethod yX9_failingPoint ∈ pq_G ∧ Cond.selects yX9_failingPoint.cls yX9_failingPoint yX9_failingPoint ∈ pq_G := ⟨pq_t3 117 rfl rfl, pq_t3 118 rfl rfl, pq_t3 119 rfl rfl⟩
set_option maxRecDepth 8000 in
theorem lv_X9_69 : Cond.methodLink RX9 69 yX9_worthAt ∈ pq_G ∧ Cond.instanceMethod yX9_worthAt ∈ pq_G ∧ Cond.selects yX9_worthAt.cls yX9_worthAt yX9_worthAt ∈ pq_G := ⟨pq_t3 121 rfl rfl, pq_t3 122 rfl rfl, pq_t3 123 rfl rfl⟩
set_option maxRecDepth 8000 in
theorem lv_L_8 : Cond.methodLink RL 8 yX10_letter ∈ pq_G ∧ Cond.instanceMethod yX10_letter ∈ pq_G ∧ Cond.selects yX10_letter.cls yX10_letter yX10_letter ∈ pq_G := ⟨pq_t3 58 rfl rfl, pq_t3 59 rfl rfl, pq_t3 60 rfl rfl⟩
set_option maxRecDepth 8000 in
theorem lv_L_20 : Cond.methodLink RL 20 yX10_form ∈ pq_G ∧ Cond.instanceMethod yX10_form ∈ pq_G ∧ Cond.selects yX10_form.cls yX10_form yX10_form ∈ pq_G := ⟨pq_t3 69 rfl rfl, pq_t3 70 rfl rfl, pq_t3 71 rfl rfl⟩
set_option maxRecDepth 8000 in
theorem lv_L_24 : Cond.methodLink RL 24 yX10_of ∈ pq_G ∧ Cond.instanceMethod yX10_of ∈ pq_G ∧ Cond.selects yX10_of.cls yX10_of yX10_of ∈ pq_G := ⟨pq_t2 70 rfl rfl, pq_t2 71 rfl rfl, pq_t2 72 rfl rfl⟩
set_option maxRecDepth 8000 in
theorem lv_L_27 : Cond.methodLink RL 27 yL_cell ∈ pq_G ∧ Cond.static yL_cell ∈ pq_G := ⟨pq_t3 48 rfl rfl, pq_t3 49 rfl rfl⟩
set_option maxRecDepth 8000 in
theorem lv_L_33 : Cond.methodLink RL 33 yL_pick ∈ pq_G ∧ Cond.static yL_pick ∈ pq_G := ⟨pq_t3 51 rfl rfl, pq_t3 52 rfl rfl⟩
set_option maxRecDepth 8000 in
theorem lv_L_36 : Cond.methodLink RL 36 yX10_change ∈ pq_G ∧ Cond.instanceMethod yX10_change ∈ pq_G ∧ Cond.selects yX10_change.cls yX10_change yX10_change ∈ pq_G := ⟨pq_t2 29 rfl rfl, pq_t2 30 rfl rfl, pq_t2 31 rfl rfl⟩
set_option maxRecDepth 8000 in
theorem lv_L_40 : Cond.methodLink RL 40 yX10_turn ∈ pq_G ∧ Cond.instanceMethod yX10_turn ∈ pq_G ∧ Cond.selects yX10_turn.cls yX10_turn yX10_turn ∈ pq_G := ⟨pq_t2 66 rfl rfl, pq_t2 67 rfl rfl, pq_t2 68 rfl rfl⟩
set_option maxRecDepth 8000 in
theorem lv_L_43 : Cond.methodLink RL 43 yX10_least ∈ pq_G ∧ Cond.instanceMethod yX10_least ∈ pq_G ∧ Cond.selects yX10_least.cls yX10_least yX10_least ∈ pq_G := ⟨pq_t2 156 rfl rfl, pq_t2 157 rfl rfl, pq_t2 158 rfl rfl⟩
set_option maxRecDepth 8000 in
theorem lv_L_46 : Cond.methodLink RL 46 yX10_failing ∈ pq_G ∧ Cond.instanceMethod yX10_failing ∈ pq_G ∧ Cond.selects yX10_failing.cls yX10_failing yX10_failing ∈ pq_G := ⟨pq_t3 109 rfl rfl, pq_t3 110 rfl rfl, pq_t3 111 rfl rfl⟩
set_option maxRecDepth 8000 in
theorem lv_L_50 : Cond.methodLink RL 50 yX10_fault ∈ pq_G ∧ Cond.instanceMethod yX10_fault ∈ pq_G ∧ Cond.selects yX10_fault.cls yX10_fault yX10_fault ∈ pq_G := ⟨pq_t3 128 rfl rfl, pq_t3 129 rfl rfl, pq_t3 130 rfl rfl⟩
set_option maxRecDepth 8000 in
theorem lv_L_53 : Cond.methodLink RL 53 yX10_lowest ∈ pq_G ∧ Cond.instanceMethod yX10_lowest ∈ pq_G ∧ Cond.selects yX10_lowest.cls yX10_lowest yX10_lowest ∈ pq_G := ⟨pq_t3 133 rfl rfl, pq_t3 134 rfl rfl, pq_t3 135 rfl rfl⟩
set_option maxRecDepth 8000 in
theorem lv_L_57 : Cond.methodLink RL 57 yX10_proof ∈ pq_G ∧ Cond.instanceMethod yX10_proof ∈ pq_G ∧ Cond.selects yX10_proof.cls yX10_proof yX10_proof ∈ pq_G := ⟨pq_t3 146 rfl rfl, pq_t3 147 rfl rfl, pq_t3 148 rfl rfl⟩
set_option maxRecDepth 8000 in
theorem lv_L_60 : Cond.methodLink RL 60 yX10_spelled ∈ pq_G ∧ Cond.instanceMethod yX10_spelled ∈ pq_G ∧ Cond.selects yX10_spelled.cls yX10_spelled yX10_spelled ∈ pq_G := ⟨pq_t3 153 rfl rfl, pq_t3 154 rfl rfl, pq_t3 155 rfl rfl⟩
set_option maxRecDepth 8000 in
theorem lv_L_63 : Cond.methodLink RL 63 yX10_coefficient ∈ pq_G ∧ Cond.instanceMethod yX10_coefficient ∈ pq_G ∧ Cond.selects yX10_coefficient.cls yX10_coefficient yX10_coefficient ∈ pq_G := ⟨pq_t2 94 rfl rfl, pq_t2 95 rfl rfl, pq_t2 96 rfl rfl⟩
set_option maxRecDepth 8000 in
theorem lv_L_66 : Cond.methodLink RL 66 yX10_drop ∈ pq_G ∧ Cond.instanceMethod yX10_drop ∈ pq_G ∧ Cond.selects yX10_drop.cls yX10_drop yX10_drop ∈ pq_G := ⟨pq_t3 181 rfl rfl, pq_t3 182 rfl rfl, pq_t3 183 rfl rfl⟩
set_option maxRecDepth 8000 in
theorem lv_L_69 : Cond.methodLink RL 69 yX10_list ∈ pq_G ∧ Cond.instanceMethod yX10_list ∈ pq_G ∧ Cond.selects yX10_list.cls yX10_list yX10_list ∈ pq_G := ⟨pq_t3 188 rfl rfl, pq_t3 189 rfl rfl, pq_t3 190 rfl rfl⟩
set_option maxRecDepth 8000 in
theorem lv_L_72 : Cond.methodLink RL 72 yX10_put ∈ pq_G ∧ Cond.instanceMethod yX10_put ∈ pq_G ∧ Cond.selects yX10_put.cls yX10_put yX10_put ∈ pq_G := ⟨pq_t3 196 rfl rfl, pq_t3 197 rfl rfl, pq_t3 198 rfl rfl⟩
set_option maxRecDepth 8000 in
theorem lv_L_75 : Cond.methodLink RL 75 yX10_walls ∈ pq_G ∧ Cond.instanceMethod yX10_walls ∈ pq_G ∧ Cond.selects yX10_walls.cls yX10_walls yX10_walls ∈ pq_G := ⟨pq_t3 204 rfl rfl, pq_t3 205 rfl rfl, pq_t3 206 rfl rfl⟩
set_option maxRecDepth 8000 in
theorem lv_L_79 : Cond.methodLink RL 79 yX10_look ∈ pq_G ∧ Cond.instanceMethod yX10_look ∈ pq_G ∧ Cond.selects yX10_look.cls yX10_look yX10_look ∈ pq_G := ⟨pq_t3 221 rfl rfl, pq_t3 222 rfl rfl, pq_t3 223 rfl rfl⟩
set_option maxRecDepth 8000 in
theorem lv_L_83 : Cond.methodLink RL 83 yX10_wallsLeast ∈ pq_G ∧ Cond.instanceMethod yX10_wallsLeast ∈ pq_G ∧ Cond.selects yX10_wallsLeast.cls yX10_wallsLeast yX10_wallsLeast ∈ pq_G := ⟨pq_t3 225 rfl rfl, pq_t3 226 rfl rfl, pq_t3 227 rfl rfl⟩
set_option maxRecDepth 8000 in
theorem lv_L_87 : Cond.methodLink RL 87 yL_comes ∈ pq_G ∧ Cond.static yL_comes ∈ pq_G := ⟨pq_t3 55 rfl rfl, pq_t3 56 rfl rfl⟩
set_option maxRecDepth 8000 in
theorem lv_L_91 : Cond.methodLink RL 91 yL_lifts ∈ pq_G ∧ Cond.static yL_lifts ∈ pq_G := ⟨pq_t3 106 rfl rfl, pq_t3 107 rfl rfl⟩
set_option maxRecDepth 8000 in
theorem lv_L_95 : Cond.methodLink RL 95 yL_reads ∈ pq_G ∧ Cond.static yL_reads ∈ pq_G := ⟨pq_t3 150 rfl rfl, pq_t3 151 rfl rfl⟩
set_option maxRecDepth 8000 in
theorem lv_L_98 : Cond.methodLink RL 98 yL_walls ∈ pq_G ∧ Cond.static yL_walls ∈ pq_G := ⟨pq_t3 185 rfl rfl, pq_t3 186 rfl rfl⟩
set_option maxRecDepth 8000 in
theorem lv_L_101 : Cond.methodLink RL 101 yX10_image ∈ pq_G ∧ Cond.instanceMethod yX10_image ∈ pq_G ∧ Cond.selects yX10_image.cls yX10_image yX10_image ∈ pq_G := ⟨pq_t3 15 rfl rfl, pq_t3 16 rfl rfl, pq_t3 17 rfl rfl⟩
set_option maxRecDepth 8000 in
theorem lv_L_104 : Cond.methodLink RL 104 yX10_sum ∈ pq_G ∧ Cond.instanceMethod yX10_sum ∈ pq_G ∧ Cond.selects yX10_sum.cls yX10_sum yX10_sum ∈ pq_G := ⟨pq_t2 173 rfl rfl, pq_t2 174 rfl rfl, pq_t2 175 rfl rfl⟩
set_option maxRecDepth 8000 in
theorem lv_L_107 : Cond.methodLink RL 107 yX10_product ∈ pq_G ∧ Cond.instanceMethod yX10_product ∈ pq_G ∧ Cond.selects yX10_product.cls yX10_product yX10_product ∈ pq_G := ⟨pq_t2 202 rfl rfl, pq_t2 203 rfl rfl, pq_t2 204 rfl rfl⟩
set_option maxRecDepth 8000 in
theorem lv_L_110 : Cond.methodLink RL 110 yX10_negative ∈ pq_G ∧ Cond.instanceMethod yX10_negative ∈ pq_G ∧ Cond.selects yX10_negative.cls yX10_negative yX10_negative ∈ pq_G := ⟨pq_t2 230 rfl rfl, pq_t2 231 rfl rfl, pq_t2 232 rfl rfl⟩
set_option maxRecDepth 8000 in
theorem lv_L_113 : Cond.methodLink RL 113 yX10_lift ∈ pq_G ∧ Cond.instanceMethod yX10_lift ∈ pq_G ∧ Cond.selects yX10_lift.cls yX10_lift yX10_lift ∈ pq_G := ⟨pq_t2 221 rfl rfl, pq_t2 222 rfl rfl, pq_t2 223 rfl rfl⟩
set_option maxRecDepth 8000 in
theorem lv_L_116 : Cond.methodLink RL 116 yX10_on ∈ pq_G ∧ Cond.instanceMethod yX10_on ∈ pq_G ∧ Cond.selects yX10_on.cls yX10_on yX10_on ∈ pq_G := ⟨pq_t2 238 rfl rfl, pq_t2 239 rfl rfl, pq_t3 0 rfl rfl⟩
set_option maxRecDepth 8000 in
theorem lv_L_119 : Cond.methodLink RL 119 yX10_value ∈ pq_G ∧ Cond.instanceMethod yX10_value ∈ pq_G ∧ Cond.selects yX10_value.cls yX10_value yX10_value ∈ pq_G := ⟨pq_t2 99 rfl rfl, pq_t2 100 rfl rfl, pq_t2 101 rfl rfl⟩
set_option maxRecDepth 8000 in
theorem lv_L_122 : Cond.methodLink RL 122 yX10_lifted ∈ pq_G ∧ Cond.instanceMethod yX10_lifted ∈ pq_G ∧ Cond.selects yX10_lifted.cls yX10_lifted yX10_lifted ∈ pq_G := ⟨pq_t2 125 rfl rfl, pq_t2 126 rfl rfl, pq_t2 127 rfl rfl⟩
set_option maxRecDepth 8000 in
theorem lv_L_128 : Cond.methodLink RL 128 yX10_undo ∈ pq_G ∧ Cond.instanceMethod yX10_undo ∈ pq_G ∧ Cond.selects yX10_undo.cls yX10_undo yX10_undo ∈ pq_G := ⟨pq_t3 6 rfl rfl, pq_t3 7 rfl rfl, pq_t3 8 rfl rfl⟩
set_option maxRecDepth 8000 in
theorem lv_L_131 : Cond.methodLink RL 131 yX10_back ∈ pq_G ∧ Cond.instanceMethod yX10_back ∈ pq_G ∧ Cond.selects yX10_back.cls yX10_back yX10_back ∈ pq_G := ⟨pq_t3 27 rfl rfl, pq_t3 28 rfl rfl, pq_t3 29 rfl rfl⟩
set_option maxRecDepth 8000 in
theorem lv_L_134 : Cond.methodLink RL 134 yX10_count ∈ pq_G ∧ Cond.instanceMethod yX10_count ∈ pq_G ∧ Cond.selects yX10_count.cls yX10_count yX10_count ∈ pq_G := ⟨pq_t3 35 rfl rfl, pq_t3 36 rfl rfl, pq_t3 37 rfl rfl⟩
set_option maxRecDepth 8000 in
theorem lb_X10_refuse : pq_LB yX10_refuse cX10_refuse 2 (some .int) 1 := ⟨pq_t1 1 rfl rfl, pq_t2 56 rfl rfl, by decide +kernel, by decide +kernel, by decide +kernel⟩
set_option maxRecDepth 8000 in
theorem lb_X3_add : pq_LB yX3_add cX3_add 2 none 1 := ⟨pq_t1 5 rfl rfl, pq_t3 65 rfl rfl, by decide +kernel, by decide +kernel, by decide +kernel⟩
set_option maxRecDepth 8000 in
theorem lb_X6_isFull : pq_LB yX6_isFull cX6_isFull 1 (some .boolean) 0 := ⟨pq_t1 2 rfl rfl, pq_t2 191 rfl rfl, by decide +kernel, by decide +kernel, by decide +kernel⟩
set_option maxRecDepth 8000 in
theorem lb_X2_read : pq_LB yX2_read cX2_read 6 (some .int) 2 := ⟨pq_t1 6 rfl rfl, pq_t3 77 rfl rfl, by decide +kernel, by decide +kernel, by decide +kernel⟩
set_option maxRecDepth 8000 in
theorem lb_X10_cameOr : pq_LB yX10_cameOr cX10_cameOr 2 (some .int) 1 := ⟨pq_t1 1 rfl rfl, pq_t2 201 rfl rfl, by decide +kernel, by decide +kernel, by decide +kernel⟩
set_option maxRecDepth 8000 in
theorem lb_X6_lacks : pq_LB yX6_lacks cX6_lacks 2 (some .boolean) 1 := ⟨pq_t1 2 rfl rfl, pq_t2 36 rfl rfl, by decide +kernel, by decide +kernel, by decide +kernel⟩
set_option maxRecDepth 8000 in
theorem lb_X10_lacksTerm : pq_LB yX10_lacksTerm cX10_lacksTerm 3 (some .boolean) 2 := ⟨pq_t1 1 rfl rfl, pq_t2 43 rfl rfl, by decide +kernel, by decide +kernel, by decide +kernel⟩
set_option maxRecDepth 8000 in
theorem lb_X10_refuseFarInt : pq_LB yX10_refuseFarInt cX10_refuseFarInt 2 (some .int) 1 := ⟨pq_t1 1 rfl rfl, pq_t2 51 rfl rfl, by decide +kernel, by decide +kernel, by decide +kernel⟩
set_option maxRecDepth 8000 in
theorem lb_X8_add : pq_LB yX8_add cX8_add 5 none 4 := ⟨pq_t1 10 rfl rfl, pq_t2 62 rfl rfl, by decide +kernel, by decide +kernel, by decide +kernel⟩
set_option maxRecDepth 8000 in
theorem lb_X10_notBelow : pq_LB yX10_notBelow cX10_notBelow 2 (some .boolean) 2 := ⟨pq_t1 1 rfl rfl, pq_t2 39 rfl rfl, by decide +kernel, by decide +kernel, by decide +kernel⟩
set_option maxRecDepth 8000 in
theorem lb_X10_termsOf : pq_LB yX10_termsOf cX10_termsOf 1 (some .int) 1 := ⟨pq_t1 1 rfl rfl, pq_t2 46 rfl rfl, by decide +kernel, by decide +kernel, by decide +kernel⟩
set_option maxRecDepth 8000 in
theorem lb_X1_howMany : pq_LB yX1_howMany cX1_howMany 5 (some .int) 1 := ⟨pq_t1 4 rfl rfl, pq_t2 77 rfl rfl, by decide +kernel, by decide +kernel, by decide +kernel⟩
set_option maxRecDepth 8000 in
theorem lb_X1_at : pq_LB yX1_at cX1_at 4 (some .int) 1 := ⟨pq_t1 4 rfl rfl, pq_t2 82 rfl rfl, by decide +kernel, by decide +kernel, by decide +kernel⟩
set_option maxRecDepth 8000 in
theorem lb_X10_refuseFar : pq_LB yX10_refuseFar cX10_refuseFar 2 (some .long) 1 := ⟨pq_t1 1 rfl rfl, pq_t2 106 rfl rfl, by decide +kernel, by decide +kernel, by decide +kernel⟩
set_option maxRecDepth 8000 in
theorem lb_X10_workOn : pq_LB yX10_workOn cX10_workOn 3 (some (.object "FormsAboveNought$Work")) 2 := ⟨pq_t1 1 rfl rfl, pq_t2 111 rfl rfl, by decide +kernel, by decide +kernel, by decide +kernel⟩
set_option maxRecDepth 8000 in
theorem lb_X9_worth : pq_LB yX9_worth cX9_worth 13 (some .long) 3 := ⟨pq_t1 3 rfl rfl, pq_t2 124 rfl rfl, by decide +kernel, by decide +kernel, by decide +kernel⟩
set_option maxRecDepth 8000 in
theorem lb_X10_isSide : pq_LB yX10_isSide cX10_isSide 1 (some .boolean) 1 := ⟨pq_t1 1 rfl rfl, pq_t2 131 rfl rfl, by decide +kernel, by decide +kernel, by decide +kernel⟩
set_option maxRecDepth 8000 in
theorem lb_X10_placesOn : pq_LB yX10_placesOn cX10_placesOn 3 (some .int) 2 := ⟨pq_t1 1 rfl rfl, pq_t2 134 rfl rfl, by decide +kernel, by decide +kernel, by decide +kernel⟩
set_option maxRecDepth 8000 in
theorem lb_X9_raise : pq_LB yX9_raise cX9_raise 4 none 2 := ⟨pq_t1 3 rfl rfl, pq_t2 144 rfl rfl, by decide +kernel, by decide +kernel, by decide +kernel⟩
set_option maxRecDepth 8000 in
theorem lb_X9_among : pq_LB yX9_among cX9_among 3 (some .long) 2 := ⟨pq_t1 3 rfl rfl, pq_t2 152 rfl rfl, by decide +kernel, by decide +kernel, by decide +kernel⟩
set_option maxRecDepth 8000 in
theorem lb_X9_firstFault : pq_LB yX9_firstFault cX9_firstFault 4 (some .int) 2 := ⟨pq_t1 3 rfl rfl, pq_t2 167 rfl rfl, by decide +kernel, by decide +kernel, by decide +kernel⟩
set_option maxRecDepth 8000 in
theorem lb_X9_leastLift : pq_LB yX9_leastLift cX9_leastLift 4 (some .int) 2 := ⟨pq_t1 3 rfl rfl, pq_t2 163 rfl rfl, by decide +kernel, by decide +kernel, by decide +kernel⟩
set_option maxRecDepth 8000 in
theorem lb_X9_failingSize : pq_LB yX9_failingSize cX9_failingSize 4 (some .int) 2 := ⟨pq_t1 3 rfl rfl, pq_t3 116 rfl rfl, by decide +kernel, by decide +kernel, by decide +kernel⟩
set_option maxRecDepth 8000 in
theorem lb_X9_failingPoint : pq_LB yX9_failingPoint cX9_failingPoint 5 (some .int) 3 := ⟨pq_t1 3 rfl rfl, pq_t3 120 rfl rfl, by decide +kernel, by decide +kernel, by decide +kernel⟩
set_option maxRecDepth 8000 in
theorem lb_X10_pointsRefused : pq_LB yX10_pointsRefused cX10_pointsRefused 5 (some .int) 4 := ⟨pq_t1 1 rfl rfl, pq_t3 140 rfl rfl, by decide +kernel, by decide +kernel, by decide +kernel⟩
set_option maxRecDepth 8000 in
theorem lb_X9_lowestPoint : pq_LB yX9_lowestPoint cX9_lowestPoint 9 (some .int) 2 := ⟨pq_t1 3 rfl rfl, pq_t3 144 rfl rfl, by decide +kernel, by decide +kernel, by decide +kernel⟩
set_option maxRecDepth 8000 in
theorem lb_X9_worthAt : pq_LB yX9_worthAt cX9_worthAt 7 (some .long) 3 := ⟨pq_t1 3 rfl rfl, pq_t3 124 rfl rfl, by decide +kernel, by decide +kernel, by decide +kernel⟩
set_option maxRecDepth 8000 in
theorem lb_X4_misses : pq_LB yX4_misses cX4_misses 2 (some .boolean) 1 := ⟨pq_t1 11 rfl rfl, pq_t3 203 rfl rfl, by decide +kernel, by decide +kernel, by decide +kernel⟩
set_option maxRecDepth 8000 in
theorem lb_X4_isPolynomial : pq_LB yX4_isPolynomial cX4_isPolynomial 3 (some .boolean) 1 := ⟨pq_t1 11 rfl rfl, pq_t3 211 rfl rfl, by decide +kernel, by decide +kernel, by decide +kernel⟩
set_option maxRecDepth 8000 in
theorem lb_X4_wall : pq_LB yX4_wall cX4_wall 7 (some .long) 3 := ⟨pq_t1 11 rfl rfl, pq_t3 217 rfl rfl, by decide +kernel, by decide +kernel, by decide +kernel⟩
set_option maxRecDepth 8000 in
theorem lb_X4_wallsClear : pq_LB yX4_wallsClear cX4_wallsClear 5 (some .boolean) 3 := ⟨pq_t1 11 rfl rfl, pq_t3 233 rfl rfl, by decide +kernel, by decide +kernel, by decide +kernel⟩
set_option maxRecDepth 8000 in
theorem lb_X6_bringSum : pq_LB yX6_bringSum cX6_bringSum 4 (some .boolean) 2 := ⟨pq_t1 2 rfl rfl, pq_t2 180 rfl rfl, by decide +kernel, by decide +kernel, by decide +kernel⟩
set_option maxRecDepth 8000 in
theorem lb_X6_bringProduct : pq_LB yX6_bringProduct cX6_bringProduct 7 (some .boolean) 2 := ⟨pq_t1 2 rfl rfl, pq_t2 209 rfl rfl, by decide +kernel, by decide +kernel, by decide +kernel⟩
set_option maxRecDepth 8000 in
theorem lb_X6_bringLift : pq_LB yX6_bringLift cX6_bringLift 3 (some .boolean) 2 := ⟨pq_t1 2 rfl rfl, pq_t2 228 rfl rfl, by decide +kernel, by decide +kernel, by decide +kernel⟩
set_option maxRecDepth 8000 in
theorem lb_X6_bringNegative : pq_LB yX6_bringNegative cX6_bringNegative 3 (some .boolean) 1 := ⟨pq_t1 2 rfl rfl, pq_t2 237 rfl rfl, by decide +kernel, by decide +kernel, by decide +kernel⟩
set_option maxRecDepth 8000 in
theorem lb_X6_bringOn : pq_LB yX6_bringOn cX6_bringOn 3 (some .boolean) 2 := ⟨pq_t1 2 rfl rfl, pq_t3 5 rfl rfl, by decide +kernel, by decide +kernel, by decide +kernel⟩
set_option maxRecDepth 8000 in
theorem lb_X7_spell : pq_LB yX7_spell cX7_spell 5 none 2 := ⟨pq_t1 8 rfl rfl, pq_t3 160 rfl rfl, by decide +kernel, by decide +kernel, by decide +kernel⟩
set_option maxRecDepth 8000 in
theorem lb_X4_renew : pq_LB yX4_renew cX4_renew 4 none 2 := ⟨pq_t1 11 rfl rfl, pq_t3 195 rfl rfl, by decide +kernel, by decide +kernel, by decide +kernel⟩
set_option maxRecDepth 8000 in
theorem lb_X8_takeBack : pq_LB yX8_takeBack cX8_takeBack 3 none 1 := ⟨pq_t1 10 rfl rfl, pq_t3 13 rfl rfl, by decide +kernel, by decide +kernel, by decide +kernel⟩
set_option maxRecDepth 8000 in
theorem lb_X6_keepImage : pq_LB yX6_keepImage cX6_keepImage 2 none 0 := ⟨pq_t1 2 rfl rfl, pq_t3 22 rfl rfl, by decide +kernel, by decide +kernel, by decide +kernel⟩
set_option maxRecDepth 8000 in
theorem lb_X6_restoreImage : pq_LB yX6_restoreImage cX6_restoreImage 2 none 0 := ⟨pq_t1 2 rfl rfl, pq_t3 34 rfl rfl, by decide +kernel, by decide +kernel, by decide +kernel⟩
set_option maxRecDepth 8000 in
theorem lb_X6_termsOfAll : pq_LB yX6_termsOfAll cX6_termsOfAll 3 (some .int) 0 := ⟨pq_t1 2 rfl rfl, pq_t3 42 rfl rfl, by decide +kernel, by decide +kernel, by decide +kernel⟩
set_option maxRecDepth 8000 in
theorem lb_X6_clearForms : pq_LB yX6_clearForms cX6_clearForms 3 (some .int) 0 := ⟨pq_t1 2 rfl rfl, pq_t3 46 rfl rfl, by decide +kernel, by decide +kernel, by decide +kernel⟩
set_option maxRecDepth 8000 in
theorem lb_X9_takeOn : pq_LB yX9_takeOn cX9_takeOn 7 none 2 := ⟨pq_t1 3 rfl rfl, pq_t2 115 rfl rfl, by decide +kernel, by decide +kernel, by decide +kernel⟩
set_option maxRecDepth 8000 in
theorem lb_X10_termOf : pq_LB yX10_termOf cX10_termOf 2 (some .int) 2 := ⟨pq_t1 1 rfl rfl, pq_t2 88 rfl rfl, by decide +kernel, by decide +kernel, by decide +kernel⟩
set_option maxRecDepth 8000 in
theorem lb_J6_bitCount_0f7a4 : pq_LB yJ6_bitCount_0f7a4 cJ6_bitCount_0f7a4 1 (some .int) 1 := ⟨pq_t1 13 rfl rfl, pq_t2 137 rfl rfl, by decide +kernel, by decide +kernel, by decide +kernel⟩
set_option maxRecDepth 8000 in
theorem lb_X10_behindA : pq_LB yX10_behindA cX10_behindA 2 (some .int) 1 := ⟨pq_t1 1 rfl rfl, pq_t2 85 rfl rfl, by decide +kernel, by decide +kernel, by decide +kernel⟩
set_option maxRecDepth 8000 in
theorem lb_X1_has : pq_LB yX1_has cX1_has 4 (some .int) 3 := ⟨pq_t1 4 rfl rfl, pq_t2 93 rfl rfl, by decide +kernel, by decide +kernel, by decide +kernel⟩
set_option maxRecDepth 8000 in
theorem lb_X1_makeNought : pq_LB yX1_makeNought cX1_makeNought 2 none 0 := ⟨pq_t1 4 rfl rfl, pq_t2 197 rfl rfl, by decide +kernel, by decide +kernel, by decide +kernel⟩
set_option maxRecDepth 8000 in
theorem lb_X3_at : pq_LB yX3_at cX3_at 2 (some .int) 1 := ⟨pq_t1 5 rfl rfl, pq_t3 82 rfl rfl, by decide +kernel, by decide +kernel, by decide +kernel⟩
set_option maxRecDepth 8000 in
theorem lb_X2_readMember : pq_LB yX2_readMember cX2_readMember 6 (some .boolean) 2 := ⟨pq_t1 6 rfl rfl, pq_t3 87 rfl rfl, by decide +kernel, by decide +kernel, by decide +kernel⟩
set_option maxRecDepth 8000 in
theorem lb_X2_readNumber : pq_LB yX2_readNumber cX2_readNumber 3 (some .int) 0 := ⟨pq_t1 6 rfl rfl, pq_t3 91 rfl rfl, by decide +kernel, by decide +kernel, by decide +kernel⟩
set_option maxRecDepth 8000 in
theorem lb_X2_readPower : pq_LB yX2_readPower cX2_readPower 3 (some .boolean) 1 := ⟨pq_t1 6 rfl rfl, pq_t3 100 rfl rfl, by decide +kernel, by decide +kernel, by decide +kernel⟩
set_option maxRecDepth 8000 in
theorem lb_X3_hasDigit : pq_LB yX3_hasDigit cX3_hasDigit 2 (some .boolean) 1 := ⟨pq_t1 5 rfl rfl, pq_t3 95 rfl rfl, by decide +kernel, by decide +kernel, by decide +kernel⟩
set_option maxRecDepth 8000 in
theorem lb_X2_fits : pq_LB yX2_fits cX2_fits 2 (some .boolean) 1 := ⟨pq_t1 6 rfl rfl, pq_t3 104 rfl rfl, by decide +kernel, by decide +kernel, by decide +kernel⟩
set_option maxRecDepth 8000 in
theorem lb_X4_ways : pq_LB yX4_ways cX4_ways 5 (some .long) 2 := ⟨pq_t1 11 rfl rfl, pq_t3 220 rfl rfl, by decide +kernel, by decide +kernel, by decide +kernel⟩
set_option maxRecDepth 8000 in
theorem lb_X10_fails : pq_LB yX10_fails cX10_fails 3 (some .boolean) 2 := ⟨pq_t1 1 rfl rfl, pq_t2 172 rfl rfl, by decide +kernel, by decide +kernel, by decide +kernel⟩
set_option maxRecDepth 8000 in
theorem lb_X1_copyOf : pq_LB yX1_copyOf cX1_copyOf 3 none 1 := ⟨pq_t1 4 rfl rfl, pq_t3 26 rfl rfl, by decide +kernel, by decide +kernel, by decide +kernel⟩
set_option maxRecDepth 8000 in
theorem lb_X6_settle : pq_LB yX6_settle cX6_settle 4 (some .boolean) 0 := ⟨pq_t1 2 rfl rfl, pq_t2 187 rfl rfl, by decide +kernel, by decide +kernel, by decide +kernel⟩
set_option maxRecDepth 8000 in
theorem lb_X9_makeNought : pq_LB yX9_makeNought cX9_makeNought 3 none 1 := ⟨pq_t1 3 rfl rfl, pq_t2 213 rfl rfl, by decide +kernel, by decide +kernel, by decide +kernel⟩
set_option maxRecDepth 8000 in
theorem lb_X6_addTimes : pq_LB yX6_addTimes cX6_addTimes 8 none 4 := ⟨pq_t1 2 rfl rfl, pq_t2 219 rfl rfl, by decide +kernel, by decide +kernel, by decide +kernel⟩
set_option maxRecDepth 8000 in
theorem lb_X7_spellTerm : pq_LB yX7_spellTerm cX7_spellTerm 7 none 4 := ⟨pq_t1 8 rfl rfl, pq_t3 164 rfl rfl, by decide +kernel, by decide +kernel, by decide +kernel⟩
set_option maxRecDepth 8000 in
theorem lb_X7_add : pq_LB yX7_add cX7_add 2 none 1 := ⟨pq_t1 8 rfl rfl, pq_t3 169 rfl rfl, by decide +kernel, by decide +kernel, by decide +kernel⟩
set_option maxRecDepth 8000 in
theorem lb_X7_spellNumber : pq_LB yX7_spellNumber cX7_spellNumber 4 none 1 := ⟨pq_t1 8 rfl rfl, pq_t3 176 rfl rfl, by decide +kernel, by decide +kernel, by decide +kernel⟩
set_option maxRecDepth 8000 in
theorem lb_X7_spellPower : pq_LB yX7_spellPower cX7_spellPower 3 none 2 := ⟨pq_t1 8 rfl rfl, pq_t3 180 rfl rfl, by decide +kernel, by decide +kernel, by decide +kernel⟩
set_option maxRecDepth 8000 in
theorem lb_X10_standsOn : pq_LB yX10_standsOn cX10_standsOn 4 (some .boolean) 4 := ⟨pq_t1 1 rfl rfl, pq_t2 119 rfl rfl, by decide +kernel, by decide +kernel, by decide +kernel⟩
set_option maxRecDepth 8000 in
theorem lb_X9_raiseOnce : pq_LB yX9_raiseOnce cX9_raiseOnce 7 none 1 := ⟨pq_t1 3 rfl rfl, pq_t2 148 rfl rfl, by decide +kernel, by decide +kernel, by decide +kernel⟩
set_option maxRecDepth 8000 in
theorem lb_X10_numberOn : pq_LB yX10_numberOn cX10_numberOn 3 (some .int) 3 := ⟨pq_t1 1 rfl rfl, pq_t2 155 rfl rfl, by decide +kernel, by decide +kernel, by decide +kernel⟩
set_option maxRecDepth 8000 in
theorem lb_X10_letter : pq_LB yX10_letter cX10_letter 2 (some .int) 1 := ⟨pq_t1 1 rfl rfl, pq_t3 61 rfl rfl, by decide +kernel, by decide +kernel, by decide +kernel⟩
set_option maxRecDepth 8000 in
theorem lb_X10_form : pq_LB yX10_form cX10_form 2 (some .int) 0 := ⟨pq_t1 1 rfl rfl, pq_t3 72 rfl rfl, by decide +kernel, by decide +kernel, by decide +kernel⟩
set_option maxRecDepth 8000 in
theorem lb_X10_of : pq_LB yX10_of cX10_of 4 (some .int) 2 := ⟨pq_t1 1 rfl rfl, pq_t2 73 rfl rfl, by decide +kernel, by decide +kernel, by decide +kernel⟩
set_option maxRecDepth 8000 in
theorem lb_L_cell : pq_LB yL_cell cL_cell 2 (some .int) 2 := ⟨pq_t1 0 rfl rfl, pq_t3 50 rfl rfl, by decide +kernel, by decide +kernel, by decide +kernel⟩
set_option maxRecDepth 8000 in
theorem lb_L_pick : pq_LB yL_pick cL_pick 2 (some .int) 2 := ⟨pq_t1 0 rfl rfl, pq_t3 53 rfl rfl, by decide +kernel, by decide +kernel, by decide +kernel⟩
set_option maxRecDepth 8000 in
theorem lb_X10_change : pq_LB yX10_change cX10_change 6 (some .int) 3 := ⟨pq_t1 1 rfl rfl, pq_t2 32 rfl rfl, by decide +kernel, by decide +kernel, by decide +kernel⟩
set_option maxRecDepth 8000 in
theorem lb_X10_turn : pq_LB yX10_turn cX10_turn 6 (some .int) 3 := ⟨pq_t1 1 rfl rfl, pq_t2 69 rfl rfl, by decide +kernel, by decide +kernel, by decide +kernel⟩
set_option maxRecDepth 8000 in
theorem lb_X10_least : pq_LB yX10_least cX10_least 4 (some .int) 3 := ⟨pq_t1 1 rfl rfl, pq_t2 159 rfl rfl, by decide +kernel, by decide +kernel, by decide +kernel⟩
set_option maxRecDepth 8000 in
theorem lb_X10_failing : pq_LB yX10_failing cX10_failing 7 (some .int) 4 := ⟨pq_t1 1 rfl rfl, pq_t3 112 rfl rfl, by decide +kernel, by decide +kernel, by decide +kernel⟩
set_option maxRecDepth 8000 in
theorem lb_X10_fault : pq_LB yX10_fault cX10_fault 6 (some .int) 4 := ⟨pq_t1 1 rfl rfl, pq_t3 131 rfl rfl, by decide +kernel, by decide +kernel, by decide +kernel⟩
set_option maxRecDepth 8000 in
theorem lb_X10_lowest : pq_LB yX10_lowest cX10_lowest 8 (some .long) 4 := ⟨pq_t1 1 rfl rfl, pq_t3 136 rfl rfl, by decide +kernel, by decide +kernel, by decide +kernel⟩
set_option maxRecDepth 8000 in
theorem lb_X10_proof : pq_LB yX10_proof cX10_proof 3 (some .int) 2 := ⟨pq_t1 1 rfl rfl, pq_t3 149 rfl rfl, by decide +kernel, by decide +kernel, by decide +kernel⟩
set_option maxRecDepth 8000 in
theorem lb_X10_spelled : pq_LB yX10_spelled cX10_spelled 3 (some .int) 2 := ⟨pq_t1 1 rfl rfl, pq_t3 156 rfl rfl, by decide +kernel, by decide +kernel, by decide +kernel⟩
set_option maxRecDepth 8000 in
theorem lb_X10_coefficient : pq_LB yX10_coefficient cX10_coefficient 3 (some .int) 2 := ⟨pq_t1 1 rfl rfl, pq_t2 97 rfl rfl, by decide +kernel, by decide +kernel, by decide +kernel⟩
set_option maxRecDepth 8000 in
theorem lb_X10_drop : pq_LB yX10_drop cX10_drop 1 (some .int) 0 := ⟨pq_t1 1 rfl rfl, pq_t3 184 rfl rfl, by decide +kernel, by decide +kernel, by decide +kernel⟩
set_option maxRecDepth 8000 in
theorem lb_X10_list : pq_LB yX10_list cX10_list 3 (some .int) 2 := ⟨pq_t1 1 rfl rfl, pq_t3 191 rfl rfl, by decide +kernel, by decide +kernel, by decide +kernel⟩
set_option maxRecDepth 8000 in
theorem lb_X10_put : pq_LB yX10_put cX10_put 4 (some .int) 3 := ⟨pq_t1 1 rfl rfl, pq_t3 199 rfl rfl, by decide +kernel, by decide +kernel, by decide +kernel⟩
set_option maxRecDepth 8000 in
theorem lb_X10_walls : pq_LB yX10_walls cX10_walls 4 (some .long) 3 := ⟨pq_t1 1 rfl rfl, pq_t3 207 rfl rfl, by decide +kernel, by decide +kernel, by decide +kernel⟩
set_option maxRecDepth 8000 in
theorem lb_X10_look : pq_LB yX10_look cX10_look 3 (some .long) 2 := ⟨pq_t1 1 rfl rfl, pq_t3 224 rfl rfl, by decide +kernel, by decide +kernel, by decide +kernel⟩
set_option maxRecDepth 8000 in
theorem lb_X10_wallsLeast : pq_LB yX10_wallsLeast cX10_wallsLeast 4 (some .int) 2 := ⟨pq_t1 1 rfl rfl, pq_t3 228 rfl rfl, by decide +kernel, by decide +kernel, by decide +kernel⟩
set_option maxRecDepth 8000 in
theorem lb_L_comes : pq_LB yL_comes cL_comes 9 (some .boolean) 4 := ⟨pq_t1 0 rfl rfl, pq_t3 57 rfl rfl, by decide +kernel, by decide +kernel, by decide +kernel⟩
set_option maxRecDepth 8000 in
theorem lb_L_lifts : pq_LB yL_lifts cL_lifts 6 (some .boolean) 3 := ⟨pq_t1 0 rfl rfl, pq_t3 108 rfl rfl, by decide +kernel, by decide +kernel, by decide +kernel⟩
set_option maxRecDepth 8000 in
theorem lb_L_reads : pq_LB yL_reads cL_reads 5 (some .boolean) 3 := ⟨pq_t1 0 rfl rfl, pq_t3 152 rfl rfl, by decide +kernel, by decide +kernel, by decide +kernel⟩
set_option maxRecDepth 8000 in
theorem lb_L_walls : pq_LB yL_walls cL_walls 7 (some .boolean) 2 := ⟨pq_t1 0 rfl rfl, pq_t3 187 rfl rfl, by decide +kernel, by decide +kernel, by decide +kernel⟩
set_option maxRecDepth 8000 in
theorem lb_X10_image : pq_LB yX10_image cX10_image 1 (some .int) 0 := ⟨pq_t1 1 rfl rfl, pq_t3 18 rfl rfl, by decide +kernel, by decide +kernel, by decide +kernel⟩
set_option maxRecDepth 8000 in
theorem lb_X10_sum : pq_LB yX10_sum cX10_sum 3 (some .int) 2 := ⟨pq_t1 1 rfl rfl, pq_t2 176 rfl rfl, by decide +kernel, by decide +kernel, by decide +kernel⟩
set_option maxRecDepth 8000 in
theorem lb_X10_product : pq_LB yX10_product cX10_product 3 (some .int) 2 := ⟨pq_t1 1 rfl rfl, pq_t2 205 rfl rfl, by decide +kernel, by decide +kernel, by decide +kernel⟩
set_option maxRecDepth 8000 in
theorem lb_X10_negative : pq_LB yX10_negative cX10_negative 2 (some .int) 1 := ⟨pq_t1 1 rfl rfl, pq_t2 233 rfl rfl, by decide +kernel, by decide +kernel, by decide +kernel⟩
set_option maxRecDepth 8000 in
theorem lb_X10_lift : pq_LB yX10_lift cX10_lift 3 (some .int) 2 := ⟨pq_t1 1 rfl rfl, pq_t2 224 rfl rfl, by decide +kernel, by decide +kernel, by decide +kernel⟩
set_option maxRecDepth 8000 in
theorem lb_X10_on : pq_LB yX10_on cX10_on 3 (some .int) 2 := ⟨pq_t1 1 rfl rfl, pq_t3 1 rfl rfl, by decide +kernel, by decide +kernel, by decide +kernel⟩
set_option maxRecDepth 8000 in
theorem lb_X10_value : pq_LB yX10_value cX10_value 5 (some .long) 4 := ⟨pq_t1 1 rfl rfl, pq_t2 102 rfl rfl, by decide +kernel, by decide +kernel, by decide +kernel⟩
set_option maxRecDepth 8000 in
theorem lb_X10_lifted : pq_LB yX10_lifted cX10_lifted 6 (some .long) 4 := ⟨pq_t1 1 rfl rfl, pq_t2 128 rfl rfl, by decide +kernel, by decide +kernel, by decide +kernel⟩
set_option maxRecDepth 8000 in
theorem lb_X10_undo : pq_LB yX10_undo cX10_undo 1 (some .int) 0 := ⟨pq_t1 1 rfl rfl, pq_t3 9 rfl rfl, by decide +kernel, by decide +kernel, by decide +kernel⟩
set_option maxRecDepth 8000 in
theorem lb_X10_back : pq_LB yX10_back cX10_back 1 (some .int) 0 := ⟨pq_t1 1 rfl rfl, pq_t3 30 rfl rfl, by decide +kernel, by decide +kernel, by decide +kernel⟩
set_option maxRecDepth 8000 in
theorem lb_X10_count : pq_LB yX10_count cX10_count 2 (some .int) 1 := ⟨pq_t1 1 rfl rfl, pq_t3 38 rfl rfl, by decide +kernel, by decide +kernel, by decide +kernel⟩
set_option maxRecDepth 8000 in
theorem lk_X8_31 : Cond.methodLink RX8 31 Lib.Math.min.name ∈ pq_G ∧ Cond.static Lib.Math.min.name ∈ pq_G ∧ Cond.initialized "java/lang/Math" ∈ pq_G ∧ Cond.code Lib.Math.min.name Lib.Math.min.code 2 (some .int) ∈ pq_G := ⟨pq_t2 63 rfl rfl, pq_t2 64 rfl rfl, pq_t1 12 rfl rfl, pq_t2 65 rfl rfl⟩
set_option maxRecDepth 8000 in
theorem lk_X10_222 : Cond.methodLink RX10 222 Lib.Math.max.name ∈ pq_G ∧ Cond.static Lib.Math.max.name ∈ pq_G ∧ Cond.initialized "java/lang/Math" ∈ pq_G ∧ Cond.code Lib.Math.max.name Lib.Math.max.code 2 (some .int) ∈ pq_G := ⟨pq_t3 229 rfl rfl, pq_t3 67 rfl rfl, pq_t1 12 rfl rfl, pq_t3 68 rfl rfl⟩
set_option maxRecDepth 8000 in
theorem lk_L_14 : Cond.methodLink RL 14 Lib.Math.max.name ∈ pq_G ∧ Cond.static Lib.Math.max.name ∈ pq_G ∧ Cond.initialized "java/lang/Math" ∈ pq_G ∧ Cond.code Lib.Math.max.name Lib.Math.max.code 2 (some .int) ∈ pq_G := ⟨pq_t3 66 rfl rfl, pq_t3 67 rfl rfl, pq_t1 12 rfl rfl, pq_t3 68 rfl rfl⟩
set_option maxRecDepth 8000 in
theorem lk_X7_38 : Cond.methodLink RX7 38 Lib.Math.abs.name ∈ pq_G ∧ Cond.static Lib.Math.abs.name ∈ pq_G ∧ Cond.initialized "java/lang/Math" ∈ pq_G ∧ Cond.code Lib.Math.abs.name Lib.Math.abs.code 1 (some .int) ∈ pq_G := ⟨pq_t3 170 rfl rfl, pq_t3 171 rfl rfl, pq_t1 12 rfl rfl, pq_t3 172 rfl rfl⟩
set_option maxRecDepth 8000 in
theorem k_X10_300 : Cond.constant RX10 300 1000000000 ∈ pq_G := pq_t2 52 rfl rfl
set_option maxRecDepth 8000 in
theorem k_X10_118 : Cond.constant RX10 118 (-1000000) ∈ pq_G := pq_t2 57 rfl rfl
set_option maxRecDepth 8000 in
theorem k_X10_119 : Cond.constant RX10 119 1000000 ∈ pq_G := pq_t2 58 rfl rfl
set_option maxRecDepth 8000 in
theorem k_X10_301 : Cond.constantLong RX10 301 4000000000000000000 ∈ pq_G := pq_t2 107 rfl rfl
set_option maxRecDepth 8000 in
theorem k_J6_265 : Cond.constant RJ6 265 1431655765 ∈ pq_G := pq_t2 138 rfl rfl
set_option maxRecDepth 8000 in
theorem k_J6_266 : Cond.constant RJ6 266 858993459 ∈ pq_G := pq_t2 139 rfl rfl
set_option maxRecDepth 8000 in
theorem k_J6_267 : Cond.constant RJ6 267 252645135 ∈ pq_G := pq_t2 140 rfl rfl
set_option maxRecDepth 8000 in
theorem k_X6_149 : Cond.constantLong RX6 149 (-1000000) ∈ pq_G := pq_t2 192 rfl rfl
set_option maxRecDepth 8000 in
theorem k_X6_151 : Cond.constantLong RX6 151 1000000 ∈ pq_G := pq_t2 193 rfl rfl
set_option maxRecDepth 8000 in
theorem k_L_7 : Cond.constant RL 7 2147483647 ∈ pq_G := pq_t3 54 rfl rfl
set_option maxRecDepth 8000 in
theorem k_X4_20 : Cond.constant RX4 20 (-1000000) ∈ pq_G := pq_t3 212 rfl rfl
set_option maxRecDepth 8000 in
theorem k_X4_21 : Cond.constant RX4 21 1000000 ∈ pq_G := pq_t3 213 rfl rfl
set_option maxRecDepth 8000 in
theorem k_L_125 : Cond.constant RL 125 2000001 ∈ pq_G := pq_t3 236 rfl rfl
set_option maxRecDepth 8000 in
theorem k_L_126 : Cond.constant RL 126 1000000 ∈ pq_G := pq_t3 237 rfl rfl
set_option maxRecDepth 8000 in
theorem k_L_127 : Cond.constant RL 127 (-1000000) ∈ pq_G := pq_t3 238 rfl rfl
