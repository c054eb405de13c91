def R_Fi : String := "TreeStore$Fields"
def T_Fi : u_T := fun k => match k with
  | 0 => ("TreeStore$Fields", "features", "[I", false)
  | 1 => ("TreeStore$Fields", "parts", "[I", false)
  | 2 => ("TreeStore$Fields", "used", "I", false)
  | 3 => ("TreeStore$Fields", "nextFeatures", "[I", false)
  | 4 => ("TreeStore$Fields", "nextParts", "[I", false)
  | _ => ("TreeStore$Fields", "nextUsed", "I", false)
def ty_Fi : Nat → FieldType := fun k => match k with
  | 0 => .array .int
  | 1 => .array .int
  | 2 => .int
  | 3 => .array .int
  | 4 => .array .int
  | _ => .int
def R_Ld : String := "TreeStore$Leaders"
def T_Ld : u_T := fun k => match k with
  | 0 => ("TreeStore$Leaders", "row", "[I", false)
  | _ => ("TreeStore$Leaders", "size", "I", false)
def ty_Ld : Nat → FieldType := fun k => match k with
  | 0 => .array .int
  | _ => .int
def R_Lk : String := "TreeStore$Likeness"
def T_Lk : u_T := fun k => match k with
  | 0 => ("TreeStore$Likeness", "nodes", "LTreeStore$Nodes;", true)
  | 1 => ("TreeStore$Likeness", "pairs", "LTreeStore$Pairs;", true)
  | 2 => ("TreeStore$Likeness", "up", "[I", false)
  | _ => ("TreeStore$Likeness", "given", "[I", false)
def ty_Lk : Nat → FieldType := fun k => match k with
  | 0 => .object "TreeStore$Nodes"
  | 1 => .object "TreeStore$Pairs"
  | 2 => .array .int
  | _ => .array .int
def R_No : String := "TreeStore$Nodes"
def T_No : u_T := fun k => match k with
  | 0 => ("TreeStore$Nodes", "kinds", "[I", false)
  | 1 => ("TreeStore$Nodes", "values", "[I", false)
  | 2 => ("TreeStore$Nodes", "starts", "[I", false)
  | 3 => ("TreeStore$Nodes", "sizes", "[I", false)
  | 4 => ("TreeStore$Nodes", "lead", "[I", false)
  | 5 => ("TreeStore$Nodes", "bodies", "[I", false)
  | 6 => ("TreeStore$Nodes", "needed", "[I", false)
  | 7 => ("TreeStore$Nodes", "marked", "[I", false)
  | 8 => ("TreeStore$Nodes", "top", "I", false)
  | 9 => ("TreeStore$Nodes", "lowest", "I", false)
  | 10 => ("TreeStore$Nodes", "alive", "I", false)
  | 11 => ("TreeStore$Nodes", "marks", "I", false)
  | 12 => ("TreeStore$Nodes", "fields", "LTreeStore$Fields;", true)
  | _ => ("TreeStore$Nodes", "reached", "LTreeStore$Leaders;", true)
def ty_No : Nat → FieldType := fun k => match k with
  | 0 => .array .int
  | 1 => .array .int
  | 2 => .array .int
  | 3 => .array .int
  | 4 => .array .int
  | 5 => .array .int
  | 6 => .array .int
  | 7 => .array .int
  | 8 => .int
  | 9 => .int
  | 10 => .int
  | 11 => .int
  | 12 => .object "TreeStore$Fields"
  | _ => .object "TreeStore$Leaders"
def R_Pr : String := "TreeStore$Pairs"
def T_Pr : u_T := fun k => match k with
  | 0 => ("TreeStore$Pairs", "lefts", "[I", false)
  | 1 => ("TreeStore$Pairs", "rights", "[I", false)
  | _ => ("TreeStore$Pairs", "size", "I", false)
def ty_Pr : Nat → FieldType := fun k => match k with
  | 0 => .array .int
  | 1 => .array .int
  | _ => .int
def R_Pu : String := "TreeStore$Pushed"
def T_Pu : u_T := fun k => match k with
  | 0 => ("TreeStore$Pushed", "features", "[I", false)
  | 1 => ("TreeStore$Pushed", "parts", "[I", false)
  | _ => ("TreeStore$Pushed", "size", "I", false)
def ty_Pu : Nat → FieldType := fun k => match k with
  | 0 => .array .int
  | 1 => .array .int
  | _ => .int
def R_Tr : String := "TreeStore$Trial"
def T_Tr : u_T := fun k => match k with
  | 0 => ("TreeStore$Trial", "nodes", "LTreeStore$Nodes;", true)
  | 1 => ("TreeStore$Trial", "pairs", "LTreeStore$Pairs;", true)
  | 2 => ("TreeStore$Trial", "bound", "LTreeStore$Leaders;", true)
  | 3 => ("TreeStore$Trial", "up", "[I", false)
  | 4 => ("TreeStore$Trial", "bodies", "[I", false)
  | _ => ("TreeStore$Trial", "hit", "[I", false)
def ty_Tr : Nat → FieldType := fun k => match k with
  | 0 => .object "TreeStore$Nodes"
  | 1 => .object "TreeStore$Pairs"
  | 2 => .object "TreeStore$Leaders"
  | 3 => .array .int
  | 4 => .array .int
  | _ => .array .int
def R_Ts : String := "TreeStore"
def T_Ts : u_T := fun k => match k with
  | 0 => ("TreeStore", "nodes", "LTreeStore$Nodes;", true)
  | 1 => ("TreeStore", "pushed", "LTreeStore$Pushed;", true)
  | 2 => ("TreeStore", "trial", "LTreeStore$Trial;", true)
  | 3 => ("TreeStore", "likeness", "LTreeStore$Likeness;", true)
  | _ => ("TreeStore", "touchedLeaders", "LTreeStore$Leaders;", true)
def ty_Ts : Nat → FieldType := fun k => match k with
  | 0 => .object "TreeStore$Nodes"
  | 1 => .object "TreeStore$Pushed"
  | 2 => .object "TreeStore$Trial"
  | 3 => .object "TreeStore$Likeness"
  | _ => .object "TreeStore$Leaders"
def R_Md : String := "TreeStoreModel"
def T_Md : u_T := fun k => match k with
  | 0 => ("TreeStoreModel", "kinds", "[B", true)
  | 1 => ("TreeStoreModel", "values", "[I", true)
  | 2 => ("TreeStoreModel", "firsts", "[I", true)
  | 3 => ("TreeStoreModel", "manies", "[I", true)
  | 4 => ("TreeStoreModel", "said", "[Z", true)
  | 5 => ("TreeStoreModel", "marked", "[Z", true)
  | 6 => ("TreeStoreModel", "leaders", "[I", true)
  | 7 => ("TreeStoreModel", "trial", "[I", true)
  | 8 => ("TreeStoreModel", "shown", "[I", true)
  | 9 => ("TreeStoreModel", "end", "I", false)
  | 10 => ("TreeStoreModel", "nodes", "I", false)
  | 11 => ("TreeStoreModel", "features", "[I", true)
  | 12 => ("TreeStoreModel", "parts", "[I", true)
  | 13 => ("TreeStoreModel", "fields", "I", false)
  | 14 => ("TreeStoreModel", "pushedFeatures", "[I", true)
  | 15 => ("TreeStoreModel", "pushedParts", "[I", true)
  | 16 => ("TreeStoreModel", "pushed", "I", false)
  | 17 => ("TreeStoreModel", "touched", "[I", true)
  | 18 => ("TreeStoreModel", "touches", "I", false)
  | 19 => ("TreeStoreModel", "reached", "[I", true)
  | 20 => ("TreeStoreModel", "blocks", "[I", true)
  | 21 => ("TreeStoreModel", "newBlocks", "[I", true)
  | 22 => ("TreeStoreModel", "places", "[I", true)
  | 23 => ("TreeStoreModel", "written", "[I", false)
  | 24 => ("TreeStoreModel", "other", "[I", false)
  | _ => ("TreeStoreModel", "length", "I", false)
def ty_Md : Nat → FieldType := fun k => match k with
  | 0 => .array .byte
  | 1 => .array .int
  | 2 => .array .int
  | 3 => .array .int
  | 4 => .array .boolean
  | 5 => .array .boolean
  | 6 => .array .int
  | 7 => .array .int
  | 8 => .array .int
  | 9 => .int
  | 10 => .int
  | 11 => .array .int
  | 12 => .array .int
  | 13 => .int
  | 14 => .array .int
  | 15 => .array .int
  | 16 => .int
  | 17 => .array .int
  | 18 => .int
  | 19 => .array .int
  | 20 => .array .int
  | 21 => .array .int
  | 22 => .array .int
  | 23 => .array .int
  | 24 => .array .int
  | _ => .int
def R_Ja : String := "java/util/Arrays"
abbrev vwCl : List vw_C := [(R_Fi, T_Fi, 6), (R_Ld, T_Ld, 2), (R_Lk, T_Lk, 4), (R_No, T_No, 14), (R_Pr, T_Pr, 3), (R_Pu, T_Pu, 3), (R_Tr, T_Tr, 6), (R_Ts, T_Ts, 5), (R_Md, T_Md, 26)]
theorem nm_Fi : ∀ a, a < 6 → ∀ b, b < 6 → a ≠ b → (T_Fi a).2.1 ≠ (T_Fi b).2.1 := by decide +kernel
theorem tk_Fi : ∀ k, k < 6 → parseFieldDescriptor (T_Fi k).2.2.1 = some (ty_Fi k) := by decide +kernel
theorem nm_Ld : ∀ a, a < 2 → ∀ b, b < 2 → a ≠ b → (T_Ld a).2.1 ≠ (T_Ld b).2.1 := by decide +kernel
theorem tk_Ld : ∀ k, k < 2 → parseFieldDescriptor (T_Ld k).2.2.1 = some (ty_Ld k) := by decide +kernel
theorem nm_Lk : ∀ a, a < 4 → ∀ b, b < 4 → a ≠ b → (T_Lk a).2.1 ≠ (T_Lk b).2.1 := by decide +kernel
theorem tk_Lk : ∀ k, k < 4 → parseFieldDescriptor (T_Lk k).2.2.1 = some (ty_Lk k) := by decide +kernel
theorem nm_No : ∀ a, a < 14 → ∀ b, b < 14 → a ≠ b → (T_No a).2.1 ≠ (T_No b).2.1 := by decide +kernel
theorem tk_No : ∀ k, k < 14 → parseFieldDescriptor (T_No k).2.2.1 = some (ty_No k) := by decide +kernel
theorem nm_Pr : ∀ a, a < 3 → ∀ b, b < 3 → a ≠ b → (T_Pr a).2.1 ≠ (T_Pr b).2.1 := by decide +kernel
theorem tk_Pr : ∀ k, k < 3 → parseFieldDescriptor (T_Pr k).2.2.1 = some (ty_Pr k) := by decide +kernel
theorem nm_Pu : ∀ a, a < 3 → ∀ b, b < 3 → a ≠ b → (T_Pu a).2.1 ≠ (T_Pu b).2.1 := by decide +kernel
theorem tk_Pu : ∀ k, k < 3 → parseFieldDescriptor (T_Pu k).2.2.1 = some (ty_Pu k) := by decide +kernel
theorem nm_Tr : ∀ a, a < 6 → ∀ b, b < 6 → a ≠ b → (T_Tr a).2.1 ≠ (T_Tr b).2.1 := by decide +kernel
theorem tk_Tr : ∀ k, k < 6 → parseFieldDescriptor (T_Tr k).2.2.1 = some (ty_Tr k) := by decide +kernel
theorem nm_Ts : ∀ a, a < 5 → ∀ b, b < 5 → a ≠ b → (T_Ts a).2.1 ≠ (T_Ts b).2.1 := by decide +kernel
theorem tk_Ts : ∀ k, k < 5 → parseFieldDescriptor (T_Ts k).2.2.1 = some (ty_Ts k) := by decide +kernel
theorem nm_Md : ∀ a, a < 26 → ∀ b, b < 26 → a ≠ b → (T_Md a).2.1 ≠ (T_Md b).2.1 := by decide +kernel
theorem tk_Md : ∀ k, k < 26 → parseFieldDescriptor (T_Md k).2.2.1 = some (ty_Md k) := by decide +kernel
abbrev b_Ld_init : ByteArray := prog_3_method_1_code
def y_Ld_init : MethodName := ⟨R_Ld, "<init>", "()V"⟩
abbrev b_Ld_empty : ByteArray := prog_3_method_2_code
def y_Ld_empty : MethodName := ⟨R_Ld, "empty", "()V"⟩
abbrev b_Ja_copyOf : ByteArray := prog_14_method_123_code
def y_Ja_copyOf : MethodName := ⟨R_Ja, "copyOf", "([II)[I"⟩
abbrev b_Ts_withRoom : ByteArray := prog_1_method_27_code
def y_Ts_withRoom : MethodName := ⟨R_Ts, "withRoom", "([II)[I"⟩
abbrev b_Ld_append : ByteArray := prog_3_method_3_code
def y_Ld_append : MethodName := ⟨R_Ld, "append", "(I)V"⟩
abbrev b_Ld_numbered : ByteArray := prog_3_method_4_code
def y_Ld_numbered : MethodName := ⟨R_Ld, "numbered", "(I)I"⟩
abbrev b_Ld_become : ByteArray := prog_3_method_5_code
def y_Ld_become : MethodName := ⟨R_Ld, "become", "(LTreeStore$Leaders;)V"⟩
