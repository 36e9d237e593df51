def T_0 : u_T := fun k => match k with
  | 0 => ("AdaptiveTrees$Code", "row", "[I", true)
  | _ => ("AdaptiveTrees$Code", "length", "I", false)
def ty_0 : Nat → FieldType := fun k => match k with
  | 0 => .array .int
  | _ => .int
theorem nm_0 : ∀ a, a < 2 → ∀ b, b < 2 → a ≠ b → (T_0 a).2.1 ≠ (T_0 b).2.1 := by decide +kernel
theorem ty_0_ok : ∀ k, k < 2 → parseFieldDescriptor (T_0 k).2.2.1 = some (ty_0 k) := by decide +kernel
theorem in_0 : ∀ w ∈ u_ws "AdaptiveTrees$Code" T_0 2, w ∈ gW := by
  show ∀ w ∈ [Cond.laysFinal "AdaptiveTrees$Code" "AdaptiveTrees$Code" "row" "[I", Cond.lays "AdaptiveTrees$Code" "AdaptiveTrees$Code" "length" "I"], w ∈ gW
  exact List.forall_mem_cons.mpr ⟨w_114, List.forall_mem_cons.mpr ⟨w_116, fun _ h => absurd h List.not_mem_nil⟩⟩
theorem fs_0 : ∀ j, j < 2 → defaultValue (ty_0 j) = vp_V [.null, .int 0] j := by decide +kernel
def T_1 : u_T := fun k => match k with
  | 0 => ("AdaptiveTrees$Pieces", "count", "[I", true)
  | 1 => ("AdaptiveTrees$Pieces", "sign", "[I", true)
  | 2 => ("AdaptiveTrees$Pieces", "first", "[I", true)
  | _ => ("AdaptiveTrees$Pieces", "size", "I", false)
def ty_1 : Nat → FieldType := fun k => match k with
  | 0 => .array .int
  | 1 => .array .int
  | 2 => .array .int
  | _ => .int
theorem nm_1 : ∀ a, a < 4 → ∀ b, b < 4 → a ≠ b → (T_1 a).2.1 ≠ (T_1 b).2.1 := by decide +kernel
theorem ty_1_ok : ∀ k, k < 4 → parseFieldDescriptor (T_1 k).2.2.1 = some (ty_1 k) := by decide +kernel
theorem in_1 : ∀ w ∈ u_ws "AdaptiveTrees$Pieces" T_1 4, w ∈ gW := by
  show ∀ w ∈ [Cond.laysFinal "AdaptiveTrees$Pieces" "AdaptiveTrees$Pieces" "count" "[I", Cond.laysFinal "AdaptiveTrees$Pieces" "AdaptiveTrees$Pieces" "sign" "[I", Cond.laysFinal "AdaptiveTrees$Pieces" "AdaptiveTrees$Pieces" "first" "[I", Cond.lays "AdaptiveTrees$Pieces" "AdaptiveTrees$Pieces" "size" "I"], w ∈ gW
  exact List.forall_mem_cons.mpr ⟨w_133, List.forall_mem_cons.mpr ⟨w_135, List.forall_mem_cons.mpr ⟨w_137, List.forall_mem_cons.mpr ⟨w_139, fun _ h => absurd h List.not_mem_nil⟩⟩⟩⟩
theorem fs_1 : ∀ j, j < 4 → defaultValue (ty_1 j) = vp_V [.null, .null, .null, .int 0] j := by decide +kernel
def T_2 : u_T := fun k => match k with
  | 0 => ("AdaptiveTrees$Reading", "tree", "I", false)
  | 1 => ("AdaptiveTrees$Reading", "node", "I", false)
  | 2 => ("AdaptiveTrees$Reading", "number", "I", false)
  | _ => ("AdaptiveTrees$Reading", "numberBits", "I", false)
def ty_2 : Nat → FieldType := fun k => match k with
  | 0 => .int
  | 1 => .int
  | 2 => .int
  | _ => .int
theorem nm_2 : ∀ a, a < 4 → ∀ b, b < 4 → a ≠ b → (T_2 a).2.1 ≠ (T_2 b).2.1 := by decide +kernel
theorem ty_2_ok : ∀ k, k < 4 → parseFieldDescriptor (T_2 k).2.2.1 = some (ty_2 k) := by decide +kernel
theorem in_2 : ∀ w ∈ u_ws "AdaptiveTrees$Reading" T_2 4, w ∈ gW := by
  show ∀ w ∈ [Cond.lays "AdaptiveTrees$Reading" "AdaptiveTrees$Reading" "tree" "I", Cond.lays "AdaptiveTrees$Reading" "AdaptiveTrees$Reading" "node" "I", Cond.lays "AdaptiveTrees$Reading" "AdaptiveTrees$Reading" "number" "I", Cond.lays "AdaptiveTrees$Reading" "AdaptiveTrees$Reading" "numberBits" "I"], w ∈ gW
  exact List.forall_mem_cons.mpr ⟨w_82, List.forall_mem_cons.mpr ⟨w_84, List.forall_mem_cons.mpr ⟨w_86, List.forall_mem_cons.mpr ⟨w_88, fun _ h => absurd h List.not_mem_nil⟩⟩⟩⟩
theorem fs_2 : ∀ j, j < 4 → defaultValue (ty_2 j) = vp_V [.int 0, .int 0, .int 0, .int 0] j := by decide +kernel
def T_3 : u_T := fun k => match k with
  | 0 => ("AdaptiveTrees$Tree", "signs", "I", true)
  | 1 => ("AdaptiveTrees$Tree", "pieces", "LAdaptiveTrees$Pieces;", true)
  | 2 => ("AdaptiveTrees$Tree", "count", "[I", true)
  | 3 => ("AdaptiveTrees$Tree", "sign", "[I", true)
  | 4 => ("AdaptiveTrees$Tree", "parent", "[I", true)
  | 5 => ("AdaptiveTrees$Tree", "first", "[I", true)
  | 6 => ("AdaptiveTrees$Tree", "second", "[I", true)
  | 7 => ("AdaptiveTrees$Tree", "leaf", "[I", true)
  | 8 => ("AdaptiveTrees$Tree", "form", "I", false)
  | 9 => ("AdaptiveTrees$Tree", "size", "I", false)
  | 10 => ("AdaptiveTrees$Tree", "escapePlace", "I", false)
  | _ => ("AdaptiveTrees$Tree", "halvings", "I", false)
def ty_3 : Nat → FieldType := fun k => match k with
  | 0 => .int
  | 1 => .object "AdaptiveTrees$Pieces"
  | 2 => .array .int
  | 3 => .array .int
  | 4 => .array .int
  | 5 => .array .int
  | 6 => .array .int
  | 7 => .array .int
  | 8 => .int
  | 9 => .int
  | 10 => .int
  | _ => .int
theorem nm_3 : ∀ a, a < 12 → ∀ b, b < 12 → a ≠ b → (T_3 a).2.1 ≠ (T_3 b).2.1 := by decide +kernel
theorem ty_3_ok : ∀ k, k < 12 → parseFieldDescriptor (T_3 k).2.2.1 = some (ty_3 k) := by decide +kernel
theorem in_3 : ∀ w ∈ u_ws "AdaptiveTrees$Tree" T_3 12, w ∈ gW := by
  show ∀ w ∈ [Cond.laysFinal "AdaptiveTrees$Tree" "AdaptiveTrees$Tree" "signs" "I", Cond.laysFinal "AdaptiveTrees$Tree" "AdaptiveTrees$Tree" "pieces" "LAdaptiveTrees$Pieces;", Cond.laysFinal "AdaptiveTrees$Tree" "AdaptiveTrees$Tree" "count" "[I", Cond.laysFinal "AdaptiveTrees$Tree" "AdaptiveTrees$Tree" "sign" "[I", Cond.laysFinal "AdaptiveTrees$Tree" "AdaptiveTrees$Tree" "parent" "[I", Cond.laysFinal "AdaptiveTrees$Tree" "AdaptiveTrees$Tree" "first" "[I", Cond.laysFinal "AdaptiveTrees$Tree" "AdaptiveTrees$Tree" "second" "[I", Cond.laysFinal "AdaptiveTrees$Tree" "AdaptiveTrees$Tree" "leaf" "[I", Cond.lays "AdaptiveTrees$Tree" "AdaptiveTrees$Tree" "form" "I", Cond.lays "AdaptiveTrees$Tree" "AdaptiveTrees$Tree" "size" "I", Cond.lays "AdaptiveTrees$Tree" "AdaptiveTrees$Tree" "escapePlace" "I", Cond.lays "AdaptiveTrees$Tree" "AdaptiveTrees$Tree" "halvings" "I"], w ∈ gW
  exact List.forall_mem_cons.mpr ⟨w_176, List.forall_mem_cons.mpr ⟨w_178, List.forall_mem_cons.mpr ⟨w_180, List.forall_mem_cons.mpr ⟨w_182, List.forall_mem_cons.mpr ⟨w_184, List.forall_mem_cons.mpr ⟨w_186, List.forall_mem_cons.mpr ⟨w_188, List.forall_mem_cons.mpr ⟨w_190, List.forall_mem_cons.mpr ⟨w_192, List.forall_mem_cons.mpr ⟨w_194, List.forall_mem_cons.mpr ⟨w_196, List.forall_mem_cons.mpr ⟨w_198, fun _ h => absurd h List.not_mem_nil⟩⟩⟩⟩⟩⟩⟩⟩⟩⟩⟩⟩
theorem fs_3 : ∀ j, j < 12 → defaultValue (ty_3 j) = vp_V [.int 0, .null, .null, .null, .null, .null, .null, .null, .int 0, .int 0, .int 0, .int 0] j := by decide +kernel
def T_4 : u_T := fun k => match k with
  | 0 => ("AdaptiveTrees", "signs", "I", true)
  | 1 => ("AdaptiveTrees", "width", "I", true)
  | 2 => ("AdaptiveTrees", "writers", "[LAdaptiveTrees$Tree;", true)
  | 3 => ("AdaptiveTrees", "readers", "[LAdaptiveTrees$Tree;", true)
  | 4 => ("AdaptiveTrees", "slots", "[LAdaptiveTrees$Tree;", true)
  | 5 => ("AdaptiveTrees", "slotHasTree", "[Z", true)
  | 6 => ("AdaptiveTrees", "written", "[I", true)
  | 7 => ("AdaptiveTrees", "writtenBits", "I", false)
  | 8 => ("AdaptiveTrees", "takenBits", "I", false)
  | 9 => ("AdaptiveTrees", "stepLimit", "I", false)
  | 10 => ("AdaptiveTrees", "laid", "LAdaptiveTrees$Code;", true)
  | _ => ("AdaptiveTrees", "reading", "LAdaptiveTrees$Reading;", true)
def ty_4 : Nat → FieldType := fun k => match k with
  | 0 => .int
  | 1 => .int
  | 2 => .array (.object "AdaptiveTrees$Tree")
  | 3 => .array (.object "AdaptiveTrees$Tree")
  | 4 => .array (.object "AdaptiveTrees$Tree")
  | 5 => .array .boolean
  | 6 => .array .int
  | 7 => .int
  | 8 => .int
  | 9 => .int
  | 10 => .object "AdaptiveTrees$Code"
  | _ => .object "AdaptiveTrees$Reading"
theorem nm_4 : ∀ a, a < 12 → ∀ b, b < 12 → a ≠ b → (T_4 a).2.1 ≠ (T_4 b).2.1 := by decide +kernel
theorem ty_4_ok : ∀ k, k < 12 → parseFieldDescriptor (T_4 k).2.2.1 = some (ty_4 k) := by decide +kernel
theorem in_4 : ∀ w ∈ u_ws "AdaptiveTrees" T_4 12, w ∈ gW := by
  show ∀ w ∈ [Cond.laysFinal "AdaptiveTrees" "AdaptiveTrees" "signs" "I", Cond.laysFinal "AdaptiveTrees" "AdaptiveTrees" "width" "I", Cond.laysFinal "AdaptiveTrees" "AdaptiveTrees" "writers" "[LAdaptiveTrees$Tree;", Cond.laysFinal "AdaptiveTrees" "AdaptiveTrees" "readers" "[LAdaptiveTrees$Tree;", Cond.laysFinal "AdaptiveTrees" "AdaptiveTrees" "slots" "[LAdaptiveTrees$Tree;", Cond.laysFinal "AdaptiveTrees" "AdaptiveTrees" "slotHasTree" "[Z", Cond.laysFinal "AdaptiveTrees" "AdaptiveTrees" "written" "[I", Cond.lays "AdaptiveTrees" "AdaptiveTrees" "writtenBits" "I", Cond.lays "AdaptiveTrees" "AdaptiveTrees" "takenBits" "I", Cond.lays "AdaptiveTrees" "AdaptiveTrees" "stepLimit" "I", Cond.laysFinal "AdaptiveTrees" "AdaptiveTrees" "laid" "LAdaptiveTrees$Code;", Cond.laysFinal "AdaptiveTrees" "AdaptiveTrees" "reading" "LAdaptiveTrees$Reading;"], w ∈ gW
  exact List.forall_mem_cons.mpr ⟨w_213, List.forall_mem_cons.mpr ⟨w_215, List.forall_mem_cons.mpr ⟨w_217, List.forall_mem_cons.mpr ⟨w_219, List.forall_mem_cons.mpr ⟨w_221, List.forall_mem_cons.mpr ⟨w_223, List.forall_mem_cons.mpr ⟨w_225, List.forall_mem_cons.mpr ⟨w_227, List.forall_mem_cons.mpr ⟨w_229, List.forall_mem_cons.mpr ⟨w_231, List.forall_mem_cons.mpr ⟨w_233, List.forall_mem_cons.mpr ⟨w_235, fun _ h => absurd h List.not_mem_nil⟩⟩⟩⟩⟩⟩⟩⟩⟩⟩⟩⟩
theorem fs_4 : ∀ j, j < 12 → defaultValue (ty_4 j) = vp_V [.int 0, .int 0, .null, .null, .null, .null, .null, .int 0, .int 0, .int 0, .null, .null] j := by decide +kernel
def T_5 : u_T := fun k => match k with
  | 0 => ("AdaptiveTreesModel", "n", "I", true)
  | 1 => ("AdaptiveTreesModel", "width", "I", true)
  | 2 => ("AdaptiveTreesModel", "most", "I", false)
  | 3 => ("AdaptiveTreesModel", "forms", "[I", true)
  | 4 => ("AdaptiveTreesModel", "many", "[I", true)
  | 5 => ("AdaptiveTreesModel", "halves", "[I", true)
  | 6 => ("AdaptiveTreesModel", "hasSlot", "[Z", true)
  | 7 => ("AdaptiveTreesModel", "at", "[I", true)
  | 8 => ("AdaptiveTreesModel", "count", "[I", true)
  | 9 => ("AdaptiveTreesModel", "sign", "[I", true)
  | 10 => ("AdaptiveTreesModel", "owner", "[I", true)
  | 11 => ("AdaptiveTreesModel", "up", "[I", true)
  | 12 => ("AdaptiveTreesModel", "second", "[Z", true)
  | 13 => ("AdaptiveTreesModel", "bits", "I", false)
  | 14 => ("AdaptiveTreesModel", "bit", "[Z", true)
  | 15 => ("AdaptiveTreesModel", "taken", "I", false)
  | 16 => ("AdaptiveTreesModel", "reads", "I", false)
  | 17 => ("AdaptiveTreesModel", "place", "I", false)
  | 18 => ("AdaptiveTreesModel", "digits", "I", false)
  | 19 => ("AdaptiveTreesModel", "number", "I", false)
  | 20 => ("AdaptiveTreesModel", "threw", "I", false)
  | 21 => ("AdaptiveTreesModel", "piece", "[I", true)
  | 22 => ("AdaptiveTreesModel", "newCount", "[I", true)
  | 23 => ("AdaptiveTreesModel", "newSign", "[I", true)
  | 24 => ("AdaptiveTreesModel", "back", "[Z", true)
  | _ => ("AdaptiveTreesModel", "length", "I", false)
def ty_5 : Nat → FieldType := fun k => match k with
  | 0 => .int
  | 1 => .int
  | 2 => .int
  | 3 => .array .int
  | 4 => .array .int
  | 5 => .array .int
  | 6 => .array .boolean
  | 7 => .array .int
  | 8 => .array .int
  | 9 => .array .int
  | 10 => .array .int
  | 11 => .array .int
  | 12 => .array .boolean
  | 13 => .int
  | 14 => .array .boolean
  | 15 => .int
  | 16 => .int
  | 17 => .int
  | 18 => .int
  | 19 => .int
  | 20 => .int
  | 21 => .array .int
  | 22 => .array .int
  | 23 => .array .int
  | 24 => .array .boolean
  | _ => .int
theorem nm_5 : ∀ a, a < 26 → ∀ b, b < 26 → a ≠ b → (T_5 a).2.1 ≠ (T_5 b).2.1 := by decide +kernel
theorem ty_5_ok : ∀ k, k < 26 → parseFieldDescriptor (T_5 k).2.2.1 = some (ty_5 k) := by decide +kernel
theorem in_5 : ∀ w ∈ u_ws "AdaptiveTreesModel" T_5 26, w ∈ gW := by
  show ∀ w ∈ [Cond.laysFinal "AdaptiveTreesModel" "AdaptiveTreesModel" "n" "I", Cond.laysFinal "AdaptiveTreesModel" "AdaptiveTreesModel" "width" "I", Cond.lays "AdaptiveTreesModel" "AdaptiveTreesModel" "most" "I", Cond.laysFinal "AdaptiveTreesModel" "AdaptiveTreesModel" "forms" "[I", Cond.laysFinal "AdaptiveTreesModel" "AdaptiveTreesModel" "many" "[I", Cond.laysFinal "AdaptiveTreesModel" "AdaptiveTreesModel" "halves" "[I", Cond.laysFinal "AdaptiveTreesModel" "AdaptiveTreesModel" "hasSlot" "[Z", Cond.laysFinal "AdaptiveTreesModel" "AdaptiveTreesModel" "at" "[I", Cond.laysFinal "AdaptiveTreesModel" "AdaptiveTreesModel" "count" "[I", Cond.laysFinal "AdaptiveTreesModel" "AdaptiveTreesModel" "sign" "[I", Cond.laysFinal "AdaptiveTreesModel" "AdaptiveTreesModel" "owner" "[I", Cond.laysFinal "AdaptiveTreesModel" "AdaptiveTreesModel" "up" "[I", Cond.laysFinal "AdaptiveTreesModel" "AdaptiveTreesModel" "second" "[Z", Cond.lays "AdaptiveTreesModel" "AdaptiveTreesModel" "bits" "I", Cond.laysFinal "AdaptiveTreesModel" "AdaptiveTreesModel" "bit" "[Z", Cond.lays "AdaptiveTreesModel" "AdaptiveTreesModel" "taken" "I", Cond.lays "AdaptiveTreesModel" "AdaptiveTreesModel" "reads" "I", Cond.lays "AdaptiveTreesModel" "AdaptiveTreesModel" "place" "I", Cond.lays "AdaptiveTreesModel" "AdaptiveTreesModel" "digits" "I", Cond.lays "AdaptiveTreesModel" "AdaptiveTreesModel" "number" "I", Cond.lays "AdaptiveTreesModel" "AdaptiveTreesModel" "threw" "I", Cond.laysFinal "AdaptiveTreesModel" "AdaptiveTreesModel" "piece" "[I", Cond.laysFinal "AdaptiveTreesModel" "AdaptiveTreesModel" "newCount" "[I", Cond.laysFinal "AdaptiveTreesModel" "AdaptiveTreesModel" "newSign" "[I", Cond.laysFinal "AdaptiveTreesModel" "AdaptiveTreesModel" "back" "[Z", Cond.lays "AdaptiveTreesModel" "AdaptiveTreesModel" "length" "I"], w ∈ gW
  exact List.forall_mem_cons.mpr ⟨w_635, List.forall_mem_cons.mpr ⟨w_637, List.forall_mem_cons.mpr ⟨w_639, List.forall_mem_cons.mpr ⟨w_641, List.forall_mem_cons.mpr ⟨w_643, List.forall_mem_cons.mpr ⟨w_645, List.forall_mem_cons.mpr ⟨w_647, List.forall_mem_cons.mpr ⟨w_649, List.forall_mem_cons.mpr ⟨w_651, List.forall_mem_cons.mpr ⟨w_653, List.forall_mem_cons.mpr ⟨w_655, List.forall_mem_cons.mpr ⟨w_657, List.forall_mem_cons.mpr ⟨w_659, List.forall_mem_cons.mpr ⟨w_661, List.forall_mem_cons.mpr ⟨w_663, List.forall_mem_cons.mpr ⟨w_665, List.forall_mem_cons.mpr ⟨w_667, List.forall_mem_cons.mpr ⟨w_669, List.forall_mem_cons.mpr ⟨w_671, List.forall_mem_cons.mpr ⟨w_673, List.forall_mem_cons.mpr ⟨w_675, List.forall_mem_cons.mpr ⟨w_677, List.forall_mem_cons.mpr ⟨w_679, List.forall_mem_cons.mpr ⟨w_681, List.forall_mem_cons.mpr ⟨w_683, List.forall_mem_cons.mpr ⟨w_685, fun _ h => absurd h List.not_mem_nil⟩⟩⟩⟩⟩⟩⟩⟩⟩⟩⟩⟩⟩⟩⟩⟩⟩⟩⟩⟩⟩⟩⟩⟩⟩⟩
theorem fs_5 : ∀ j, j < 26 → defaultValue (ty_5 j) = vp_V [.int 0, .int 0, .int 0, .null, .null, .null, .null, .null, .null, .null, .null, .null, .null, .int 0, .null, .int 0, .int 0, .int 0, .int 0, .int 0, .int 0, .null, .null, .null, .null, .int 0] j := by decide +kernel
abbrev vwCl : List vw_C := [("AdaptiveTrees$Code", T_0, 2), ("AdaptiveTrees$Pieces", T_1, 4), ("AdaptiveTrees$Reading", T_2, 4), ("AdaptiveTrees$Tree", T_3, 12), ("AdaptiveTrees", T_4, 12), ("AdaptiveTreesModel", T_5, 26)]
theorem v_cl0 : vwCl[0]? = some ("AdaptiveTrees$Code", T_0, 2) := rfl
theorem v_cl1 : vwCl[1]? = some ("AdaptiveTrees$Pieces", T_1, 4) := rfl
theorem v_cl2 : vwCl[2]? = some ("AdaptiveTrees$Reading", T_2, 4) := rfl
theorem v_cl3 : vwCl[3]? = some ("AdaptiveTrees$Tree", T_3, 12) := rfl
theorem v_cl4 : vwCl[4]? = some ("AdaptiveTrees", T_4, 12) := rfl
theorem v_cl5 : vwCl[5]? = some ("AdaptiveTreesModel", T_5, 26) := rfl
/-- the types of arrays, by their numbers -/
abbrev vTy (dA : Nat → ClassId) : List (ClassId × FieldType) := [(dA 0, .int), (dA 1, .boolean), (dA 2, .long), (dA 3, .object "AdaptiveTrees$Tree")]
def gNF : List (String × Nat × String × String × String × String) := [("AdaptiveTrees", 87, "AdaptiveTrees$Tree", "form", "I", "AdaptiveTrees"), ("AdaptiveTrees", 104, "AdaptiveTrees$Code", "length", "I", "AdaptiveTrees"), ("AdaptiveTrees", 137, "AdaptiveTrees$Tree", "escapePlace", "I", "AdaptiveTrees"), ("AdaptiveTrees", 143, "AdaptiveTrees$Tree", "halvings", "I", "AdaptiveTrees"), ("AdaptiveTrees", 146, "AdaptiveTrees$Tree", "size", "I", "AdaptiveTrees"), ("AdaptiveTrees", 203, "AdaptiveTrees$Reading", "node", "I", "AdaptiveTrees"), ("AdaptiveTrees", 213, "AdaptiveTrees$Reading", "number", "I", "AdaptiveTrees"), ("AdaptiveTrees", 216, "AdaptiveTrees$Reading", "numberBits", "I", "AdaptiveTrees"), ("AdaptiveTrees$Tree", 115, "AdaptiveTrees$Pieces", "size", "I", "AdaptiveTrees"), ("AdaptiveTrees$Tree", 132, "AdaptiveTrees$Pieces", "first", "[I", "AdaptiveTrees"), ("AdaptiveTrees$Tree", 133, "AdaptiveTrees$Pieces", "count", "[I", "AdaptiveTrees"), ("AdaptiveTrees$Tree", 134, "AdaptiveTrees$Pieces", "sign", "[I", "AdaptiveTrees")]
def gNM : List (String × Nat × MethodName × String) := [("AdaptiveTrees", 41, ⟨"AdaptiveTrees$Reading", "<init>", "()V"⟩, "AdaptiveTrees"), ("AdaptiveTrees$Tree", 31, ⟨"AdaptiveTrees", "mostNodes", "(I)I"⟩, "AdaptiveTrees")]
/-- the links among nest mates -/
def vNx (s : State) : Prop := (∀ q ∈ gNF, va_Nw (.fieldLinkNest q.1 q.2.1 q.2.2.1 q.2.2.2.1 q.2.2.2.2.1 q.2.2.2.2.2) s) ∧ (∀ q ∈ gNM, va_Nw (.methodLinkNest q.1 q.2.1 q.2.2.1 q.2.2.2) s) ∧ va_AO "AdaptiveTrees$Tree" s
theorem vNx_warm {s U : State} (hW : s.WarmedH U.vm) (h : vNx s) : vNx U := ⟨fun q hq => va_Nw.warmF hW (h.1 q hq), fun q hq => va_Nw.warmM hW (h.2.1 q hq), h.2.2.moved hW.alike⟩
theorem vNx_same {s U : State} (hv : s.vm = U.vm) (h : vNx s) : vNx U := ⟨fun q hq => va_Nw.same rfl hv (h.1 q hq), fun q hq => va_Nw.same rfl hv (h.2.1 q hq), h.2.2.moved (by rw [hv]; exact Vm.Alike.refl _)⟩
theorem nf_0 {s : State} (h : vNx s) : va_Nw (.fieldLinkNest "AdaptiveTrees" 87 "AdaptiveTrees$Tree" "form" "I" "AdaptiveTrees") s := h.1 _ (List.mem_of_getElem? (i := 0) rfl)
theorem nf_1 {s : State} (h : vNx s) : va_Nw (.fieldLinkNest "AdaptiveTrees" 104 "AdaptiveTrees$Code" "length" "I" "AdaptiveTrees") s := h.1 _ (List.mem_of_getElem? (i := 1) rfl)
theorem nf_2 {s : State} (h : vNx s) : va_Nw (.fieldLinkNest "AdaptiveTrees" 137 "AdaptiveTrees$Tree" "escapePlace" "I" "AdaptiveTrees") s := h.1 _ (List.mem_of_getElem? (i := 2) rfl)
theorem nf_3 {s : State} (h : vNx s) : va_Nw (.fieldLinkNest "AdaptiveTrees" 143 "AdaptiveTrees$Tree" "halvings" "I" "AdaptiveTrees") s := h.1 _ (List.mem_of_getElem? (i := 3) rfl)
theorem nf_4 {s : State} (h : vNx s) : va_Nw (.fieldLinkNest "AdaptiveTrees" 146 "AdaptiveTrees$Tree" "size" "I" "AdaptiveTrees") s := h.1 _ (List.mem_of_getElem? (i := 4) rfl)
theorem nf_5 {s : State} (h : vNx s) : va_Nw (.fieldLinkNest "AdaptiveTrees" 203 "AdaptiveTrees$Reading" "node" "I" "AdaptiveTrees") s := h.1 _ (List.mem_of_getElem? (i := 5) rfl)
theorem nf_6 {s : State} (h : vNx s) : va_Nw (.fieldLinkNest "AdaptiveTrees" 213 "AdaptiveTrees$Reading" "number" "I" "AdaptiveTrees") s := h.1 _ (List.mem_of_getElem? (i := 6) rfl)
theorem nf_7 {s : State} (h : vNx s) : va_Nw (.fieldLinkNest "AdaptiveTrees" 216 "AdaptiveTrees$Reading" "numberBits" "I" "AdaptiveTrees") s := h.1 _ (List.mem_of_getElem? (i := 7) rfl)
theorem nf_8 {s : State} (h : vNx s) : va_Nw (.fieldLinkNest "AdaptiveTrees$Tree" 115 "AdaptiveTrees$Pieces" "size" "I" "AdaptiveTrees") s := h.1 _ (List.mem_of_getElem? (i := 8) rfl)
theorem nf_9 {s : State} (h : vNx s) : va_Nw (.fieldLinkNest "AdaptiveTrees$Tree" 132 "AdaptiveTrees$Pieces" "first" "[I" "AdaptiveTrees") s := h.1 _ (List.mem_of_getElem? (i := 9) rfl)
theorem nf_10 {s : State} (h : vNx s) : va_Nw (.fieldLinkNest "AdaptiveTrees$Tree" 133 "AdaptiveTrees$Pieces" "count" "[I" "AdaptiveTrees") s := h.1 _ (List.mem_of_getElem? (i := 10) rfl)
theorem nf_11 {s : State} (h : vNx s) : va_Nw (.fieldLinkNest "AdaptiveTrees$Tree" 134 "AdaptiveTrees$Pieces" "sign" "[I" "AdaptiveTrees") s := h.1 _ (List.mem_of_getElem? (i := 11) rfl)
theorem nmm_0 {s : State} (h : vNx s) : va_Nw (.methodLinkNest "AdaptiveTrees" 41 yR_init "AdaptiveTrees") s := h.2.1 _ (List.mem_of_getElem? (i := 0) rfl)
theorem nmm_1 {s : State} (h : vNx s) : va_Nw (.methodLinkNest "AdaptiveTrees$Tree" 31 yA_mostNodes "AdaptiveTrees") s := h.2.1 _ (List.mem_of_getElem? (i := 1) rfl)
/-- turns that no loop needs more of -/
def fu : Nat := 100000
