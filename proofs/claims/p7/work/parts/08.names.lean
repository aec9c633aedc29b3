theorem xw_sub {ws : List Cond} (ps : List Nat) (hp : ws = ps.filterMap (fun i => tables_1[i]?)) (hg : ws.all goodWord = true) : ∀ w ∈ ws, w ∈ lw_gd := by
  intro w hw
  have h1 := List.all_eq_true.mp hg w hw
  rw [hp] at hw
  obtain ⟨i, -, hi⟩ := List.mem_filterMap.mp hw
  exact lw_gd_in hi h1
def R_Bounds : String := "TripleDesk$Bounds"
def F_Bounds : u_T := fun k => match k with
  | 0 => ("TripleDesk$Bounds", "level", "[I", true)
  | 1 => ("TripleDesk$Bounds", "most", "[I", true)
  | 2 => ("TripleDesk$Bounds", "bound", "[I", true)
  | _ => ("TripleDesk$Bounds", "bounds", "I", false)
def t_Bounds : Nat → FieldType := fun k => match k with
  | 0 => .array .int
  | 1 => .array .int
  | 2 => .array .int
  | _ => .int
theorem n_Bounds : ∀ a, a < 4 → ∀ b, b < 4 → a ≠ b → (F_Bounds a).2.1 ≠ (F_Bounds b).2.1 := by decide +kernel
theorem t_Bounds_ok : ∀ k, k < 4 → parseFieldDescriptor (F_Bounds k).2.2.1 = some (t_Bounds k) := by decide +kernel
theorem i_Bounds : ∀ w ∈ u_ws R_Bounds F_Bounds 4, w ∈ lw_gd := xw_sub [166, 168, 170, 172] (by decide +kernel) (by decide +kernel)
def R_Findings : String := "TripleDesk$Findings"
def F_Findings : u_T := fun k => match k with
  | 0 => ("TripleDesk$Findings", "rows", "[S", true)
  | 1 => ("TripleDesk$Findings", "atoms", "[S", true)
  | 2 => ("TripleDesk$Findings", "first", "[S", true)
  | _ => ("TripleDesk$Findings", "numbers", "[I", true)
def t_Findings : Nat → FieldType := fun k => match k with
  | 0 => .array .short
  | 1 => .array .short
  | 2 => .array .short
  | _ => .array .int
theorem n_Findings : ∀ a, a < 4 → ∀ b, b < 4 → a ≠ b → (F_Findings a).2.1 ≠ (F_Findings b).2.1 := by decide +kernel
theorem t_Findings_ok : ∀ k, k < 4 → parseFieldDescriptor (F_Findings k).2.2.1 = some (t_Findings k) := by decide +kernel
theorem i_Findings : ∀ w ∈ u_ws R_Findings F_Findings 4, w ∈ lw_gd := xw_sub [221, 223, 225, 227] (by decide +kernel) (by decide +kernel)
def R_Listing : String := "TripleDesk$Listing"
def F_Listing : u_T := fun k => match k with
  | 0 => ("TripleDesk$Listing", "nodes", "LTripleDesk$Nodes;", true)
  | 1 => ("TripleDesk$Listing", "kind", "[B", true)
  | 2 => ("TripleDesk$Listing", "owner", "[B", true)
  | 3 => ("TripleDesk$Listing", "sibling", "[B", true)
  | 4 => ("TripleDesk$Listing", "first", "[B", true)
  | 5 => ("TripleDesk$Listing", "second", "[B", true)
  | 6 => ("TripleDesk$Listing", "test", "[S", true)
  | 7 => ("TripleDesk$Listing", "kept", "[S", true)
  | 8 => ("TripleDesk$Listing", "term", "[I", true)
  | 9 => ("TripleDesk$Listing", "name", "[B", true)
  | 10 => ("TripleDesk$Listing", "claimKind", "[B", true)
  | 11 => ("TripleDesk$Listing", "claimOf", "[B", true)
  | 12 => ("TripleDesk$Listing", "claims", "I", false)
  | 13 => ("TripleDesk$Listing", "size", "I", false)
  | 14 => ("TripleDesk$Listing", "branches", "I", false)
  | 15 => ("TripleDesk$Listing", "loops", "I", false)
  | _ => ("TripleDesk$Listing", "variants", "I", false)
def t_Listing : Nat → FieldType := fun k => match k with
  | 0 => .object "TripleDesk$Nodes"
  | 1 => .array .byte
  | 2 => .array .byte
  | 3 => .array .byte
  | 4 => .array .byte
  | 5 => .array .byte
  | 6 => .array .short
  | 7 => .array .short
  | 8 => .array .int
  | 9 => .array .byte
  | 10 => .array .byte
  | 11 => .array .byte
  | 12 => .int
  | 13 => .int
  | 14 => .int
  | 15 => .int
  | _ => .int
theorem n_Listing : ∀ a, a < 17 → ∀ b, b < 17 → a ≠ b → (F_Listing a).2.1 ≠ (F_Listing b).2.1 := by decide +kernel
theorem t_Listing_ok : ∀ k, k < 17 → parseFieldDescriptor (F_Listing k).2.2.1 = some (t_Listing k) := by decide +kernel
theorem i_Listing : ∀ w ∈ u_ws R_Listing F_Listing 17, w ∈ lw_gd := xw_sub [312, 314, 316, 318, 320, 322, 324, 326, 328, 330, 332, 334, 336, 338, 340, 342, 344] (by decide +kernel) (by decide +kernel)
def R_Maker : String := "TripleDesk$Maker"
def F_Maker : u_T := fun k => match k with
  | 0 => ("TripleDesk$Maker", "formula", "LTripleDesk$Nodes;", true)
  | 1 => ("TripleDesk$Maker", "stands", "[I", true)
  | 2 => ("TripleDesk$Maker", "listing", "LTripleDesk$Listing;", false)
  | 3 => ("TripleDesk$Maker", "after", "LTripleDesk$Nodes;", false)
  | _ => ("TripleDesk$Maker", "made", "I", false)
def t_Maker : Nat → FieldType := fun k => match k with
  | 0 => .object "TripleDesk$Nodes"
  | 1 => .array .int
  | 2 => .object "TripleDesk$Listing"
  | 3 => .object "TripleDesk$Nodes"
  | _ => .int
theorem n_Maker : ∀ a, a < 5 → ∀ b, b < 5 → a ≠ b → (F_Maker a).2.1 ≠ (F_Maker b).2.1 := by decide +kernel
theorem t_Maker_ok : ∀ k, k < 5 → parseFieldDescriptor (F_Maker k).2.2.1 = some (t_Maker k) := by decide +kernel
theorem i_Maker : ∀ w ∈ u_ws R_Maker F_Maker 5, w ∈ lw_gd := xw_sub [135, 137, 139, 141, 143] (by decide +kernel) (by decide +kernel)
def R_Nodes : String := "TripleDesk$Nodes"
def F_Nodes : u_T := fun k => match k with
  | 0 => ("TripleDesk$Nodes", "op", "[B", false)
  | 1 => ("TripleDesk$Nodes", "left", "[I", false)
  | 2 => ("TripleDesk$Nodes", "right", "[I", false)
  | _ => ("TripleDesk$Nodes", "size", "I", false)
def t_Nodes : Nat → FieldType := fun k => match k with
  | 0 => .array .byte
  | 1 => .array .int
  | 2 => .array .int
  | _ => .int
theorem n_Nodes : ∀ a, a < 4 → ∀ b, b < 4 → a ≠ b → (F_Nodes a).2.1 ≠ (F_Nodes b).2.1 := by decide +kernel
theorem t_Nodes_ok : ∀ k, k < 4 → parseFieldDescriptor (F_Nodes k).2.2.1 = some (t_Nodes k) := by decide +kernel
theorem i_Nodes : ∀ w ∈ u_ws R_Nodes F_Nodes 4, w ∈ lw_gd := xw_sub [120, 122, 124, 126] (by decide +kernel) (by decide +kernel)
def R_Paper : String := "TripleDesk$Paper"
def F_Paper : u_T := fun k => match k with
  | 0 => ("TripleDesk$Paper", "bytes", "[B", false)
  | _ => ("TripleDesk$Paper", "size", "I", false)
def t_Paper : Nat → FieldType := fun k => match k with
  | 0 => .array .byte
  | _ => .int
theorem n_Paper : ∀ a, a < 2 → ∀ b, b < 2 → a ≠ b → (F_Paper a).2.1 ≠ (F_Paper b).2.1 := by decide +kernel
theorem t_Paper_ok : ∀ k, k < 2 → parseFieldDescriptor (F_Paper k).2.2.1 = some (t_Paper k) := by decide +kernel
theorem i_Paper : ∀ w ∈ u_ws R_Paper F_Paper 2, w ∈ lw_gd := xw_sub [240, 242] (by decide +kernel) (by decide +kernel)
def R_Prover : String := "TripleDesk$Prover"
def F_Prover : u_T := fun k => match k with
  | 0 => ("TripleDesk$Prover", "bounds", "LTripleDesk$Bounds;", true)
  | 1 => ("TripleDesk$Prover", "rows", "I", false)
  | 2 => ("TripleDesk$Prover", "atoms", "I", false)
  | 3 => ("TripleDesk$Prover", "first", "I", false)
  | 4 => ("TripleDesk$Prover", "formula", "LTripleDesk$Nodes;", false)
  | 5 => ("TripleDesk$Prover", "rowsOf", "[S", false)
  | 6 => ("TripleDesk$Prover", "demand", "[I", true)
  | 7 => ("TripleDesk$Prover", "index", "[I", true)
  | _ => ("TripleDesk$Prover", "waiting", "I", false)
def t_Prover : Nat → FieldType := fun k => match k with
  | 0 => .object "TripleDesk$Bounds"
  | 1 => .int
  | 2 => .int
  | 3 => .int
  | 4 => .object "TripleDesk$Nodes"
  | 5 => .array .short
  | 6 => .array .int
  | 7 => .array .int
  | _ => .int
theorem n_Prover : ∀ a, a < 9 → ∀ b, b < 9 → a ≠ b → (F_Prover a).2.1 ≠ (F_Prover b).2.1 := by decide +kernel
theorem t_Prover_ok : ∀ k, k < 9 → parseFieldDescriptor (F_Prover k).2.2.1 = some (t_Prover k) := by decide +kernel
theorem i_Prover : ∀ w ∈ u_ws R_Prover F_Prover 9, w ∈ lw_gd := xw_sub [188, 190, 192, 194, 196, 198, 200, 202, 204] (by decide +kernel) (by decide +kernel)
def R_Reader : String := "TripleDesk$Reader"
def F_Reader : u_T := fun k => match k with
  | 0 => ("TripleDesk$Reader", "text", "LTripleDesk$Tokens;", true)
  | 1 => ("TripleDesk$Reader", "listing", "LTripleDesk$Listing;", false)
  | 2 => ("TripleDesk$Reader", "nodes", "LTripleDesk$Nodes;", false)
  | 3 => ("TripleDesk$Reader", "ghosts", "Z", false)
  | _ => ("TripleDesk$Reader", "atoms", "I", false)
def t_Reader : Nat → FieldType := fun k => match k with
  | 0 => .object "TripleDesk$Tokens"
  | 1 => .object "TripleDesk$Listing"
  | 2 => .object "TripleDesk$Nodes"
  | 3 => .boolean
  | _ => .int
theorem n_Reader : ∀ a, a < 5 → ∀ b, b < 5 → a ≠ b → (F_Reader a).2.1 ≠ (F_Reader b).2.1 := by decide +kernel
theorem t_Reader_ok : ∀ k, k < 5 → parseFieldDescriptor (F_Reader k).2.2.1 = some (t_Reader k) := by decide +kernel
theorem i_Reader : ∀ w ∈ u_ws R_Reader F_Reader 5, w ∈ lw_gd := xw_sub [80, 82, 84, 86, 88] (by decide +kernel) (by decide +kernel)
def R_Runner : String := "TripleDesk$Runner"
def F_Runner : u_T := fun k => match k with
  | _ => ("TripleDesk$Runner", "values", "[J", true)
def t_Runner : Nat → FieldType := fun k => match k with
  | _ => .array .long
theorem n_Runner : ∀ a, a < 1 → ∀ b, b < 1 → a ≠ b → (F_Runner a).2.1 ≠ (F_Runner b).2.1 := by decide +kernel
theorem t_Runner_ok : ∀ k, k < 1 → parseFieldDescriptor (F_Runner k).2.2.1 = some (t_Runner k) := by decide +kernel
theorem i_Runner : ∀ w ∈ u_ws R_Runner F_Runner 1, w ∈ lw_gd := xw_sub [253] (by decide +kernel) (by decide +kernel)
def R_Tokens : String := "TripleDesk$Tokens"
def F_Tokens : u_T := fun k => match k with
  | 0 => ("TripleDesk$Tokens", "tape", "[B", true)
  | 1 => ("TripleDesk$Tokens", "tokens", "[I", true)
  | 2 => ("TripleDesk$Tokens", "size", "I", false)
  | 3 => ("TripleDesk$Tokens", "ahead", "I", false)
  | 4 => ("TripleDesk$Tokens", "at", "I", false)
  | 5 => ("TripleDesk$Tokens", "fault", "I", false)
  | 6 => ("TripleDesk$Tokens", "next", "I", false)
  | _ => ("TripleDesk$Tokens", "amount", "I", false)
def t_Tokens : Nat → FieldType := fun k => match k with
  | 0 => .array .byte
  | 1 => .array .int
  | 2 => .int
  | 3 => .int
  | 4 => .int
  | 5 => .int
  | 6 => .int
  | _ => .int
theorem n_Tokens : ∀ a, a < 8 → ∀ b, b < 8 → a ≠ b → (F_Tokens a).2.1 ≠ (F_Tokens b).2.1 := by decide +kernel
theorem t_Tokens_ok : ∀ k, k < 8 → parseFieldDescriptor (F_Tokens k).2.2.1 = some (t_Tokens k) := by decide +kernel
theorem i_Tokens : ∀ w ∈ u_ws R_Tokens F_Tokens 8, w ∈ lw_gd := xw_sub [50, 52, 54, 56, 58, 60, 62, 64] (by decide +kernel) (by decide +kernel)
def R_Desk : String := "TripleDesk"
def F_Desk : u_T := fun k => match k with
  | 0 => ("TripleDesk", "tokens", "LTripleDesk$Tokens;", true)
  | 1 => ("TripleDesk", "reader", "LTripleDesk$Reader;", true)
  | 2 => ("TripleDesk", "maker", "LTripleDesk$Maker;", true)
  | 3 => ("TripleDesk", "prover", "LTripleDesk$Prover;", true)
  | 4 => ("TripleDesk", "findings", "LTripleDesk$Findings;", true)
  | 5 => ("TripleDesk", "paper", "LTripleDesk$Paper;", true)
  | 6 => ("TripleDesk", "runner", "LTripleDesk$Runner;", true)
  | 7 => ("TripleDesk", "before", "LTripleDesk$Nodes;", false)
  | 8 => ("TripleDesk", "after", "LTripleDesk$Nodes;", false)
  | 9 => ("TripleDesk", "spareNodes", "LTripleDesk$Nodes;", false)
  | 10 => ("TripleDesk", "listing", "LTripleDesk$Listing;", false)
  | 11 => ("TripleDesk", "spareListing", "LTripleDesk$Listing;", false)
  | _ => ("TripleDesk", "loaded", "Z", false)
def t_Desk : Nat → FieldType := fun k => match k with
  | 0 => .object "TripleDesk$Tokens"
  | 1 => .object "TripleDesk$Reader"
  | 2 => .object "TripleDesk$Maker"
  | 3 => .object "TripleDesk$Prover"
  | 4 => .object "TripleDesk$Findings"
  | 5 => .object "TripleDesk$Paper"
  | 6 => .object "TripleDesk$Runner"
  | 7 => .object "TripleDesk$Nodes"
  | 8 => .object "TripleDesk$Nodes"
  | 9 => .object "TripleDesk$Nodes"
  | 10 => .object "TripleDesk$Listing"
  | 11 => .object "TripleDesk$Listing"
  | _ => .boolean
theorem n_Desk : ∀ a, a < 13 → ∀ b, b < 13 → a ≠ b → (F_Desk a).2.1 ≠ (F_Desk b).2.1 := by decide +kernel
theorem t_Desk_ok : ∀ k, k < 13 → parseFieldDescriptor (F_Desk k).2.2.1 = some (t_Desk k) := by decide +kernel
theorem i_Desk : ∀ w ∈ u_ws R_Desk F_Desk 13, w ∈ lw_gd := xw_sub [388, 390, 392, 394, 396, 398, 400, 402, 404, 406, 408, 410, 412] (by decide +kernel) (by decide +kernel)
def R_Model : String := "TripleDeskModel"
def F_Model : u_T := fun k => match k with
  | 0 => ("TripleDeskModel", "thrown", "I", false)
  | 1 => ("TripleDeskModel", "taped", "I", false)
  | 2 => ("TripleDeskModel", "tape", "[I", true)
  | 3 => ("TripleDeskModel", "size", "I", false)
  | 4 => ("TripleDeskModel", "outSize", "I", false)
  | 5 => ("TripleDeskModel", "out", "[I", true)
  | 6 => ("TripleDeskModel", "kind", "I", false)
  | 7 => ("TripleDeskModel", "value", "I", false)
  | 8 => ("TripleDeskModel", "begin", "I", false)
  | 9 => ("TripleDeskModel", "end", "I", false)
  | 10 => ("TripleDeskModel", "failed", "Z", false)
  | 11 => ("TripleDeskModel", "text", "[I", true)
  | 12 => ("TripleDeskModel", "textSize", "[I", true)
  | 13 => ("TripleDeskModel", "now", "[I", true)
  | 14 => ("TripleDeskModel", "isProgram", "Z", false)
  | 15 => ("TripleDeskModel", "half", "I", false)
  | 16 => ("TripleDeskModel", "items", "[I", true)
  | 17 => ("TripleDeskModel", "op", "[I", true)
  | 18 => ("TripleDeskModel", "number", "[I", true)
  | 19 => ("TripleDeskModel", "target", "[I", true)
  | 20 => ("TripleDeskModel", "termName", "[I", true)
  | 21 => ("TripleDeskModel", "termNumber", "[I", true)
  | 22 => ("TripleDeskModel", "first", "[I", true)
  | 23 => ("TripleDeskModel", "firstSize", "[I", true)
  | 24 => ("TripleDeskModel", "second", "[I", true)
  | 25 => ("TripleDeskModel", "secondSize", "[I", true)
  | 26 => ("TripleDeskModel", "hasVariant", "[Z", true)
  | 27 => ("TripleDeskModel", "ghost", "[I", true)
  | 28 => ("TripleDeskModel", "link", "[I", true)
  | 29 => ("TripleDeskModel", "pool", "[I", true)
  | 30 => ("TripleDeskModel", "pooled", "[I", true)
  | 31 => ("TripleDeskModel", "signs", "I", false)
  | 32 => ("TripleDeskModel", "sign", "[I", true)
  | 33 => ("TripleDeskModel", "stacked", "I", false)
  | 34 => ("TripleDeskModel", "stack", "[I", true)
  | 35 => ("TripleDeskModel", "name", "I", false)
  | 36 => ("TripleDeskModel", "shift", "I", false)
  | 37 => ("TripleDeskModel", "statements", "I", false)
  | 38 => ("TripleDeskModel", "ifs", "I", false)
  | 39 => ("TripleDeskModel", "whiles", "I", false)
  | 40 => ("TripleDeskModel", "variants", "I", false)
  | 41 => ("TripleDeskModel", "open", "I", false)
  | 42 => ("TripleDeskModel", "opened", "[I", true)
  | 43 => ("TripleDeskModel", "isMade", "Z", false)
  | 44 => ("TripleDeskModel", "conditions", "I", false)
  | 45 => ("TripleDeskModel", "conditionKind", "[I", true)
  | 46 => ("TripleDeskModel", "conditionNumber", "[I", true)
  | 47 => ("TripleDeskModel", "conditionAt", "[I", true)
  | 48 => ("TripleDeskModel", "conditionSize", "[I", true)
  | 49 => ("TripleDeskModel", "kept", "I", false)
  | 50 => ("TripleDeskModel", "keep", "[I", true)
  | 51 => ("TripleDeskModel", "tops", "I", false)
  | 52 => ("TripleDeskModel", "top", "[I", true)
  | 53 => ("TripleDeskModel", "used", "I", false)
  | 54 => ("TripleDeskModel", "work", "[I", true)
  | 55 => ("TripleDeskModel", "aside", "[I", true)
  | 56 => ("TripleDeskModel", "looked", "I", false)
  | 57 => ("TripleDeskModel", "rows", "I", false)
  | 58 => ("TripleDeskModel", "firstRow", "I", false)
  | 59 => ("TripleDeskModel", "sizeOf", "[I", true)
  | 60 => ("TripleDeskModel", "whenTrue", "[I", true)
  | 61 => ("TripleDeskModel", "whenFalse", "[I", true)
  | 62 => ("TripleDeskModel", "path", "[I", true)
  | 63 => ("TripleDeskModel", "pathRow", "[I", true)
  | 64 => ("TripleDeskModel", "pathTrue", "[Z", true)
  | 65 => ("TripleDeskModel", "bound", "[I", true)
  | 66 => ("TripleDeskModel", "isBound", "[Z", true)
  | 67 => ("TripleDeskModel", "at", "[I", true)
  | 68 => ("TripleDeskModel", "isBroken", "Z", false)
  | 69 => ("TripleDeskModel", "values", "[J", true)
  | 70 => ("TripleDeskModel", "atoms", "I", false)
  | _ => ("TripleDeskModel", "truth", "[Z", true)
def t_Model : Nat → FieldType := fun k => match k with
  | 0 => .int
  | 1 => .int
  | 2 => .array .int
  | 3 => .int
  | 4 => .int
  | 5 => .array .int
  | 6 => .int
  | 7 => .int
  | 8 => .int
  | 9 => .int
  | 10 => .boolean
  | 11 => .array .int
  | 12 => .array .int
  | 13 => .array .int
  | 14 => .boolean
  | 15 => .int
  | 16 => .array .int
  | 17 => .array .int
  | 18 => .array .int
  | 19 => .array .int
  | 20 => .array .int
  | 21 => .array .int
  | 22 => .array .int
  | 23 => .array .int
  | 24 => .array .int
  | 25 => .array .int
  | 26 => .array .boolean
  | 27 => .array .int
  | 28 => .array .int
  | 29 => .array .int
  | 30 => .array .int
  | 31 => .int
  | 32 => .array .int
  | 33 => .int
  | 34 => .array .int
  | 35 => .int
  | 36 => .int
  | 37 => .int
  | 38 => .int
  | 39 => .int
  | 40 => .int
  | 41 => .int
  | 42 => .array .int
  | 43 => .boolean
  | 44 => .int
  | 45 => .array .int
  | 46 => .array .int
  | 47 => .array .int
  | 48 => .array .int
  | 49 => .int
  | 50 => .array .int
  | 51 => .int
  | 52 => .array .int
  | 53 => .int
  | 54 => .array .int
  | 55 => .array .int
  | 56 => .int
  | 57 => .int
  | 58 => .int
  | 59 => .array .int
  | 60 => .array .int
  | 61 => .array .int
  | 62 => .array .int
  | 63 => .array .int
  | 64 => .array .boolean
  | 65 => .array .int
  | 66 => .array .boolean
  | 67 => .array .int
  | 68 => .boolean
  | 69 => .array .long
  | 70 => .int
  | _ => .array .boolean
theorem n_Model : ∀ a, a < 72 → ∀ b, b < 72 → a ≠ b → (F_Model a).2.1 ≠ (F_Model b).2.1 := by decide +kernel
theorem t_Model_ok : ∀ k, k < 72 → parseFieldDescriptor (F_Model k).2.2.1 = some (t_Model k) := by decide +kernel
theorem i_Model : ∀ w ∈ u_ws R_Model F_Model 72, w ∈ lw_gd := xw_sub [1108, 1110, 1112, 1114, 1116, 1118, 1120, 1122, 1124, 1126, 1128, 1130, 1132, 1134, 1136, 1138, 1140, 1142, 1144, 1146, 1148, 1150, 1152, 1154, 1156, 1158, 1160, 1162, 1164, 1166, 1168, 1170, 1172, 1174, 1176, 1178, 1180, 1182, 1184, 1186, 1188, 1190, 1192, 1194, 1196, 1198, 1200, 1202, 1204, 1206, 1208, 1210, 1212, 1214, 1216, 1218, 1220, 1222, 1224, 1226, 1228, 1230, 1232, 1234, 1236, 1238, 1240, 1242, 1244, 1246, 1248, 1250] (by decide +kernel) (by decide +kernel)
def R_Arrays : String := "java/util/Arrays"
abbrev classes : List vw_C := [(R_Bounds, F_Bounds, 4), (R_Findings, F_Findings, 4), (R_Listing, F_Listing, 17), (R_Maker, F_Maker, 5), (R_Nodes, F_Nodes, 4), (R_Paper, F_Paper, 2), (R_Prover, F_Prover, 9), (R_Reader, F_Reader, 5), (R_Runner, F_Runner, 1), (R_Tokens, F_Tokens, 8), (R_Desk, F_Desk, 13), (R_Model, F_Model, 72)]
abbrev tyl (ax : Nat → ClassId) : List (ClassId × FieldType) := [(ax 0, .int), (ax 1, .byte), (ax 2, .short), (ax 3, .boolean), (ax 4, .long)]
def xk_n : List Cond := [.methodLinkNest "TripleDesk" (11 : Nat) ({ cls := "TripleDesk$Tokens", name := "<init>", desc := "()V" } : Jvm.MethodName) "TripleDesk", .methodLinkNest "TripleDesk" (27 : Nat) ({ cls := "TripleDesk$Maker", name := "<init>", desc := "()V" } : Jvm.MethodName) "TripleDesk", .methodLinkNest "TripleDesk$Maker" (11 : Nat) ({ cls := "TripleDesk$Nodes", name := "<init>", desc := "()V" } : Jvm.MethodName) "TripleDesk", .methodLinkNest "TripleDesk" (34 : Nat) ({ cls := "TripleDesk$Prover", name := "<init>", desc := "()V" } : Jvm.MethodName) "TripleDesk", .methodLinkNest "TripleDesk" (41 : Nat) ({ cls := "TripleDesk$Findings", name := "<init>", desc := "()V" } : Jvm.MethodName) "TripleDesk", .methodLinkNest "TripleDesk" (48 : Nat) ({ cls := "TripleDesk$Paper", name := "<init>", desc := "()V" } : Jvm.MethodName) "TripleDesk", .methodLinkNest "TripleDesk" (55 : Nat) ({ cls := "TripleDesk$Runner", name := "<init>", desc := "()V" } : Jvm.MethodName) "TripleDesk", .methodLinkNest "TripleDesk" (62 : Nat) ({ cls := "TripleDesk$Nodes", name := "<init>", desc := "()V" } : Jvm.MethodName) "TripleDesk", .methodLinkNest "TripleDesk" (75 : Nat) ({ cls := "TripleDesk$Listing", name := "<init>", desc := "()V" } : Jvm.MethodName) "TripleDesk", .methodLinkNest "TripleDesk$Listing" (11 : Nat) ({ cls := "TripleDesk$Nodes", name := "<init>", desc := "()V" } : Jvm.MethodName) "TripleDesk"]
def xk_c : List Cond := [.castable "[B" "java/lang/Cloneable", .castable "[I" "java/lang/Cloneable", .castable "java/lang/IllegalStateException" "java/lang/IllegalStateException", .castable "java/lang/IndexOutOfBoundsException" "java/lang/IndexOutOfBoundsException", .castable "java/lang/IllegalArgumentException" "java/lang/IllegalArgumentException"]
def xk_d : List Cond := [.declares ({ cls := "java/lang/RuntimeException", name := "<init>", desc := "()V" } : Jvm.MethodName), .declares ({ cls := "java/lang/RuntimeException", name := "<init>", desc := "(Ljava/lang/String;)V" } : Jvm.MethodName), .declares ({ cls := "java/lang/Exception", name := "<init>", desc := "()V" } : Jvm.MethodName), .declares ({ cls := "java/lang/Exception", name := "<init>", desc := "(Ljava/lang/String;)V" } : Jvm.MethodName), .declares ({ cls := "java/lang/Throwable", name := "<init>", desc := "()V" } : Jvm.MethodName), .declares ({ cls := "java/lang/Throwable", name := "<init>", desc := "(Ljava/lang/String;)V" } : Jvm.MethodName)]
def xk_a (ax : Nat → ClassId) (U : State) : Prop := U.vm.findClass ("[" ++ FieldType.int.toString) = some (ax 0) ∧ U.vm.findClass ("[" ++ FieldType.byte.toString) = some (ax 1) ∧ U.vm.findClass ("[" ++ FieldType.short.toString) = some (ax 2) ∧ U.vm.findClass ("[" ++ FieldType.boolean.toString) = some (ax 3) ∧ U.vm.findClass ("[" ++ FieldType.long.toString) = some (ax 4)
/-- what the tables and the statics say, in every state of the run -/
def xk (D : va_G) (ax : Nat → ClassId) (U : State) : Prop := va_K D classes (tyl ax) U ∧ xk_a ax U ∧ (∀ w ∈ xk_n, w.before #[] U = true) ∧ (∀ w ∈ xk_c, w.before #[] U = true) ∧ (∀ w ∈ xk_d, w.before #[] U = true) ∧ xt_st "java/lang/Throwable" "UNASSIGNED_STACK" "[Ljava/lang/StackTraceElement;" U ∧ xt_st "java/lang/Throwable" "SUPPRESSED_SENTINEL" "Ljava/util/List;" U
def xz (s : State) (H : Heap) : Prop := ∀ (q : Nat) (cell : Cell), s.heap[q]? = some cell → cell.vm.isStatics = true → H[q]? = some cell
theorem xk.moved {D : va_G} {ax : Nat → ClassId} {U U' : State} (h : xk D ax U) (hW : U.WarmedH U'.vm) (hH : xz U U'.heap) : xk D ax U' := by
  obtain ⟨h1, h2, h3, h4, h5, h6, h7⟩ := h
  have hA := hW.alike
  refine ⟨va_K.moved hA h1, ?_, ?_, ?_, ?_, h6.moved hA hH, h7.moved hA hH⟩
  · obtain ⟨a0, a1, a2, a3, a4⟩ := h2
    exact ⟨by rw [hA.findClass]; exact a0, by rw [hA.findClass]; exact a1, by rw [hA.findClass]; exact a2, by rw [hA.findClass]; exact a3, by rw [hA.findClass]; exact a4⟩
  · intro w hw
    have hz := h3 w hw
    simp only [xk_n, List.mem_cons, List.not_mem_nil, or_false] at hw
    rcases hw with rfl | rfl | rfl | rfl | rfl | rfl | rfl | rfl | rfl | rfl <;> exact xt_nest hW hz
  · intro w hw
    have hz := h4 w hw
    simp only [xk_c, List.mem_cons, List.not_mem_nil, or_false] at hw
    rcases hw with rfl | rfl | rfl | rfl | rfl <;> exact xt_castable hA hz
  · intro w hw
    have hz := h5 w hw
    simp only [xk_d, List.mem_cons, List.not_mem_nil, or_false] at hw
    rcases hw with rfl | rfl | rfl | rfl | rfl | rfl <;> exact xt_declares hA hz
theorem xz_entry {D : va_G} {ws : va_W} {s : State} (hP : va_P D classes ws s.heap) : ∀ (q : Nat) (cell : Cell), s.heap[q]? = some cell → cell.vm.isStatics = true → ¬ va_A ws s.heap.size q := by
  rintro q cell hc hs (⟨k, e, hk⟩ | hq)
  · have h := hP k _ hk
    rcases e with a | ⟨ci, fs⟩
    · have h2 : s.heap[q]? = some (vp_cell a.1 a.2) := h
      rw [hc] at h2
      have h3 := Option.some.inj h2
      rw [h3] at hs
      obtain ⟨cA, n, f | f | f | f | f⟩ := a <;> cases hs
    · obtain ⟨r, h1, cell', q1, q2, q3, q4⟩ := h
      have h3 := Option.some.inj (hc.symm.trans q1)
      rw [h3, q3] at hs
      cases hs
  · exact absurd (Array.getElem?_eq_some_iff.mp hc).1 (Nat.not_lt.mpr hq)
theorem xz_of {A : Nat → Prop} {s : State} {H : Heap} {locs : List Loc} (hN : ∀ (q : Nat) (cell : Cell), s.heap[q]? = some cell → cell.vm.isStatics = true → ¬ A q) (hS : va_S A s.heap H locs) : xz s H := fun q cell h1 h2 => by
  rw [hS.2.1 q (Array.getElem?_eq_some_iff.mp h1).1 (hN q cell h1 h2)]
  exact h1
def xo (D : va_G) (ax : Nat → ClassId) (ws : va_W) (sz : Nat) (U : State) : Prop := U.heap.size = sz ∧ va_P D classes ws U.heap ∧ xk D ax U ∧ va_D (fun _ => True) ws
theorem xo_blind {D : va_G} {ax : Nat → ClassId} {ws : va_W} {sz : Nat} {As : List Value} : FrameBlind (va_Pc As (xo D ax ws sz)) := by
  intro a U g mk h
  obtain ⟨h0, h1, h2, h3, h4⟩ := h
  exact ⟨h0, h1, h2, h3.moved (U' := U.calling g mk a) (State.WarmedH.refl U) (fun _ _ h _ => h), h4⟩
theorem xpS {D : va_G} {ax : Nat → ClassId} {ws : va_W} {A : Nat → Prop} {s : State} {H : Heap} {As : List Value} (hP : va_P D classes ws H) (hK : xk D ax s) (hz : xz s H) (hD : va_D A ws) : PreS s H (va_Pc As (xo D ax ws H.size)) As :=
  ⟨xo_blind, fun U hU hW => ⟨rfl, by rw [hU], by rw [hU]; exact hP, hK.moved hW (by rw [hU]; exact hz), hD.weaken (fun _ _ _ _ => trivial)⟩⟩
theorem xpV {D : va_G} {ax : Nat → ClassId} {ws : va_W} {A : Nat → Prop} {s : State} {H : Heap} {As : List Value} {b q0 ci : Nat} {q : vw_C} {fs : List Value} (hP : va_P D classes ws H) (hK : xk D ax s) (hz : xz s H) (hD : va_D A ws) (hc : classes[ci]? = some q) (he : ws[q0]? = some (b, .inr (ci, fs))) : PreV s H q.1 b (va_Pc (.ref b :: As) (xo D ax ws H.size)) As :=
  ⟨xo_blind, va_recv hK.1 hP hc he, fun U hU hW => ⟨rfl, by rw [hU], by rw [hU]; exact hP, hK.moved hW (by rw [hU]; exact hz), hD.weaken (fun _ _ _ _ => trivial)⟩⟩
abbrev xws (c : Cond) : List Cond := c :: lw_gd
theorem xw_hts {c : Cond} {args : Array Value} {s : State} {rm : Room} (h : (headSpec (xws c) rm).pre.before args s = true) : ∀ w ∈ lw_gd, w.before args s = true := fun w hw => atoms_spec (ws := xws c) h w (List.mem_cons_of_mem _ hw)
theorem xw_mv {args : Array Value} {s : State} (hts : ∀ w ∈ lw_gd, w.before args s = true) {c : Cond} (hc : c ∈ lw_gd) : ∀ w ∈ xws c, ∀ (a' : Array Value) (U : State), s.WarmedH U.vm → w.before a' U = true := by
  intro w hw a' U hW
  have hm : w ∈ lw_gd := by
    rcases List.mem_cons.mp hw with h | h
    · rw [h]; exact hc
    · exact h
  exact lw_gd_good w hm args a' s U (hts w hm) hW
section XC
variable {R : Room} {s : State} {args : Array Value} {own C host : String} {index maxL mc ms n : Nat} {y : MethodName} {bytes : ByteArray} {ret : Option FieldType} {rm : Room}
theorem xcB (hts : ∀ w ∈ lw_gd, w.before args s = true) (hc : Cond.code y bytes maxL ret ∈ lw_gd) (hi : Cond.initialized y.cls ∈ lw_gd) (hl : Cond.methodLink own index y ∈ lw_gd) (hrc : rm.cells = mc) (hrs : rm.slots = ms)
    (hd : y.cls ≠ "java/lang/invoke/MethodHandle" ∧ y.cls ≠ "java/lang/invoke/VarHandle" ∧ (parseMethodDescriptor y.desc).map (fun d => d.parameters.length) = some n) (hR : rm.frames + 1 ≤ R.frames ∧ 8 + (maxL + 11) + rm.locals ≤ R.locals) :
    CallB R s args own index y bytes maxL ret (xws (.code y bytes maxL ret)) rm mc ms n :=
  ⟨hrc, hrs, hR.1, hR.2, xw_mv hts hc, List.mem_cons_self, hts _ hc, hts _ hi, ⟨hd.1, hd.2.1⟩, fun sig h => by have h2 := hd.2.2; rw [h] at h2; exact (Option.some.inj h2).symm, hts _ hl⟩
theorem xcV (hts : ∀ w ∈ lw_gd, w.before args s = true) (hc : Cond.code y bytes maxL ret ∈ lw_gd) (hi : Cond.initialized y.cls ∈ lw_gd) (hl : Cond.methodLink own index y ∈ lw_gd) (hm : Cond.instanceMethod y ∈ lw_gd) (hse : Cond.selects C y y ∈ lw_gd) (hrc : rm.cells = mc) (hrs : rm.slots = ms)
    (hd : y.cls ≠ "java/lang/invoke/MethodHandle" ∧ y.cls ≠ "java/lang/invoke/VarHandle" ∧ (parseMethodDescriptor y.desc).map (fun d => d.parameters.length) = some n) (hR : rm.frames + 1 ≤ R.frames ∧ 8 + (maxL + 11) + rm.locals ≤ R.locals) :
    CallW R s args own C index y bytes maxL ret (xws (.code y bytes maxL ret)) rm mc ms n := ⟨xcB hts hc hi hl hrc hrs hd hR, hts _ hm, hts _ hse⟩
theorem xcI (hts : ∀ w ∈ lw_gd, w.before args s = true) (hc : Cond.code y bytes maxL none ∈ lw_gd) (hi : Cond.initialized y.cls ∈ lw_gd) (hl : Cond.methodLink own index y ∈ lw_gd) (hm : Cond.instanceMethod y ∈ lw_gd) (hy : y.name = "<init>") (hrc : rm.cells = mc) (hrs : rm.slots = ms)
    (hd : y.cls ≠ "java/lang/invoke/MethodHandle" ∧ y.cls ≠ "java/lang/invoke/VarHandle" ∧ (parseMethodDescriptor y.desc).map (fun d => d.parameters.length) = some n) (hR : rm.frames + 1 ≤ R.frames ∧ 8 + (maxL + 11) + rm.locals ≤ R.locals) :
    CallB R s args own index y bytes maxL none (xws (.code y bytes maxL none)) rm mc ms n ∧ y.name = "<init>" ∧ (Cond.instanceMethod y).before args s = true := ⟨xcB hts hc hi hl hrc hrs hd hR, hy, hts _ hm⟩
theorem xcS (hts : ∀ w ∈ lw_gd, w.before args s = true) (hc : Cond.code y bytes maxL ret ∈ lw_gd) (hi : Cond.initialized y.cls ∈ lw_gd) (hl : Cond.methodLink own index y ∈ lw_gd) (hm : Cond.static y ∈ lw_gd) (hrc : rm.cells = mc) (hrs : rm.slots = ms)
    (hd : y.cls ≠ "java/lang/invoke/MethodHandle" ∧ y.cls ≠ "java/lang/invoke/VarHandle" ∧ (parseMethodDescriptor y.desc).map (fun d => d.parameters.length) = some n) (hR : rm.frames + 1 ≤ R.frames ∧ 8 + (maxL + 11) + rm.locals ≤ R.locals) :
    CallB R s args own index y bytes maxL ret (xws (.code y bytes maxL ret)) rm mc ms n ∧ (Cond.static y).before args s = true := ⟨xcB hts hc hi hl hrc hrs hd hR, hts _ hm⟩
theorem xcN (hts : ∀ w ∈ lw_gd, w.before args s = true) (hc : Cond.code y bytes maxL none ∈ lw_gd) (hi : Cond.initialized y.cls ∈ lw_gd) (hl : va_Nw (.methodLinkNest own index y host) s) (hm : Cond.instanceMethod y ∈ lw_gd) (hy : y.name = "<init>") (hrc : rm.cells = mc) (hrs : rm.slots = ms)
    (hd : y.cls ≠ "java/lang/invoke/MethodHandle" ∧ y.cls ≠ "java/lang/invoke/VarHandle" ∧ (parseMethodDescriptor y.desc).map (fun d => d.parameters.length) = some n) (hR : rm.frames + 1 ≤ R.frames ∧ 8 + (maxL + 11) + rm.locals ≤ R.locals) :
    va_CN R s args own index y host bytes maxL none (xws (.code y bytes maxL none)) rm mc ms n ∧ y.name = "<init>" ∧ (Cond.instanceMethod y).before args s = true :=
  ⟨⟨⟨hrc, hrs, hR.1, hR.2, xw_mv hts hc, List.mem_cons_self⟩, hts _ hc, hts _ hi, ⟨hd.1, hd.2.1⟩, fun sig h => by have h2 := hd.2.2; rw [h] at h2; exact (Option.some.inj h2).symm, va_Nw.use rfl hl⟩, hy, hts _ hm⟩
end XC
def ixn (l : List Nat) (k : Nat) : Nat := l.getD k 0
/-- the world behind a method, its addresses by a row of numbers -/
def xb (D : va_G) (A : Nat → Prop) (ws : (Nat → Nat) → va_W) (u : Nat → Nat) (t : State) : Prop := va_P D classes (ws u) t.heap ∧ va_D A (ws u)
section XN
variable {p : Program} {l : Launch} {e : Env} {R : Room} {s : State} {m : MethodId} {args : Array Value} {below : List Frame} {meth : Method} {c : Code} {H H0 : Heap} {locs : List Loc} {cells slots : Nat} {Q : State → Prop} {D : va_G} {cl : List vw_C} {ws : va_W} {A : Nat → Prop} {cc : ByteArray} {pc : Nat} {ls : Array Slot} {rest : List Value}
theorem xnewa (hexec : p.tables.exec = Jvm.exec) (hb : c.code = cc) {atype : ArrayType} (harr : (Cond.arrayClass (newarray.typeOf atype)).before args s = true) {ty : FieldType} (hty : newarray.typeOf atype = ty) {aX : ClassId} (hnm : s.vm.findClass ("[" ++ ty.toString) = some aX) (hP : va_P D cl ws H) (hD : va_D A ws) (hS : va_S A H0 H locs) (hA : ∀ q, H0.size ≤ q → A q)
    {n : Int32} {N' : Nat} {a0 : vp_A} (ha : ∀ cA : ClassId, vp_cell cA a0 = arrV cA N' (fun _ => defaultValue ty)) (hn : ¬ n < 0) (hN : n.toNatClampNeg = N') (hbytes : N' * componentBytes ty ≤ 536870912) (hcells : cells + 1 ≤ R.cells) (hslots : slots + N' ≤ R.slots) (hdg : decode cc pc = .ok (.newarray atype, 2))
    (kk : ∀ (q : Nat) (H1 : Heap), va_P D cl (ws ++ [(q, .inl (aX, a0))]) H1 → va_D A (ws ++ [(q, .inl (aX, a0))]) → va_S A H0 H1 locs →
      W p l e R s m args below meth c H1 locs (cells + 1) (slots + N') Q (F0 m (pc + 2) ls (.ref q :: rest))) : W p l e R s m args below meth c H locs cells slots Q (F0 m pc ls (.int n :: rest)) := by
  subst hty
  refine va_newaK hexec hb harr rfl hdg rfl hn hN hbytes hcells hslots rfl fun H1 cA e1 z1 o1 hAr hNm => ?_
  cases Option.some.inj (hNm.symm.trans hnm)
  have hk : ∀ (k : Nat) (x : Nat × va_E), ws[k]? = some x → H1[x.1]? = H[x.1]? := fun k x hx => o1 x.1 ((hP k x hx).lt)
  refine kk H.size H1 ((hP.kept hk).app (fun k x hx => ?_)) (hD.push hP rfl (hA _ hS.1)) ⟨Nat.le_trans hS.1 (by omega), fun x h1 h2 => (o1 x (Nat.lt_of_lt_of_le h1 hS.1)).trans (hS.2.1 x h1 h2), hS.2.2⟩
  have hz : k < 1 := (List.getElem?_eq_some_iff.mp hx).1
  rw [show k = 0 by omega] at hx
  cases hx
  show H1[H.size]? = some (vp_cell _ _)
  rw [ha]
  exact e1
end XN
theorem xa_i (N : Nat) (cA : ClassId) : vp_cell cA (N, .inl (fun _ => (0 : Int32))) = arrV cA N (fun _ => defaultValue .int) := rfl
theorem xa_b (N : Nat) (cA : ClassId) : vp_cell cA (N, .inl (fun _ => (0 : Int32))) = arrV cA N (fun _ => defaultValue .byte) := rfl
theorem xa_s (N : Nat) (cA : ClassId) : vp_cell cA (N, .inl (fun _ => (0 : Int32))) = arrV cA N (fun _ => defaultValue .short) := rfl
theorem xa_z (N : Nat) (cA : ClassId) : vp_cell cA (N, .inl (fun _ => (0 : Int32))) = arrV cA N (fun _ => defaultValue .boolean) := rfl
theorem xa_j (N : Nat) (cA : ClassId) : vp_cell cA (N, .inr (.inl (fun _ => (0 : Int64)))) = arrV cA N (fun _ => defaultValue .long) := rfl
