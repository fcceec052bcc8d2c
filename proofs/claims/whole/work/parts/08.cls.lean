/-! CLASSES AND FIELDS. Printed by wip/gen/names.py -/
def R_Ch : String := "JoinedTrees$Change"
def F_Ch : u_T := fun k => match k with
  | 0 => ("JoinedTrees$Change", "actor", "I", true)
  | 1 => ("JoinedTrees$Change", "number", "I", true)
  | 2 => ("JoinedTrees$Change", "serial", "I", true)
  | 3 => ("JoinedTrees$Change", "firstCounter", "I", true)
  | 4 => ("JoinedTrees$Change", "size", "I", true)
  | 5 => ("JoinedTrees$Change", "deps", "[LJoinedTrees$Change;", true)
  | _ => ("JoinedTrees$Change", "clock", "[I", false)
def t_Ch : Nat → FieldType := fun k => match k with
  | 0 => .int
  | 1 => .int
  | 2 => .int
  | 3 => .int
  | 4 => .int
  | 5 => .array (.object "JoinedTrees$Change")
  | _ => .array (.int)
set_option maxRecDepth 20000 in
theorem i_Ch : ∀ w ∈ u_ws R_Ch F_Ch 7, w ∈ gb := List.forall_mem_cons.mpr ⟨kw_1032, List.forall_mem_cons.mpr ⟨kw_1034, List.forall_mem_cons.mpr ⟨kw_1036, List.forall_mem_cons.mpr ⟨kw_1038, List.forall_mem_cons.mpr ⟨kw_1040, List.forall_mem_cons.mpr ⟨kw_1042, List.forall_mem_cons.mpr ⟨kw_1044, fun _ h => absurd h List.not_mem_nil⟩⟩⟩⟩⟩⟩⟩
set_option maxRecDepth 20000 in
theorem n_Ch : ∀ a, a < 7 → ∀ b, b < 7 → a ≠ b → (F_Ch a).2.1 ≠ (F_Ch b).2.1 := by decide +kernel
theorem t_Ch_ok : ∀ k, k < 7 → parseFieldDescriptor (F_Ch k).2.2.1 = some (t_Ch k) := by decide +kernel
def R_Rd : String := "JoinedTrees$JsonReader"
def F_Rd : u_T := fun k => match k with
  | 0 => ("JoinedTrees$JsonReader", "values", "[LJoinedTrees$Value;", true)
  | 1 => ("JoinedTrees$JsonReader", "decoded", "LJoinedTrees$Row;", true)
  | 2 => ("JoinedTrees$JsonReader", "in", "LJoinedTrees$Row;", false)
  | 3 => ("JoinedTrees$JsonReader", "size", "I", false)
  | 4 => ("JoinedTrees$JsonReader", "at", "I", false)
  | 5 => ("JoinedTrees$JsonReader", "depth", "I", false)
  | 6 => ("JoinedTrees$JsonReader", "inside", "LJoinedTrees$Value;", false)
  | 7 => ("JoinedTrees$JsonReader", "valueIsDue", "Z", false)
  | 8 => ("JoinedTrees$JsonReader", "keyAt", "I", false)
  | _ => ("JoinedTrees$JsonReader", "keyLength", "I", false)
def t_Rd : Nat → FieldType := fun k => match k with
  | 0 => .array (.object "JoinedTrees$Value")
  | 1 => .object "JoinedTrees$Row"
  | 2 => .object "JoinedTrees$Row"
  | 3 => .int
  | 4 => .int
  | 5 => .int
  | 6 => .object "JoinedTrees$Value"
  | 7 => .boolean
  | 8 => .int
  | _ => .int
set_option maxRecDepth 20000 in
theorem i_Rd : ∀ w ∈ u_ws R_Rd F_Rd 10, w ∈ gb := List.forall_mem_cons.mpr ⟨kw_356, List.forall_mem_cons.mpr ⟨kw_358, List.forall_mem_cons.mpr ⟨kw_360, List.forall_mem_cons.mpr ⟨kw_362, List.forall_mem_cons.mpr ⟨kw_364, List.forall_mem_cons.mpr ⟨kw_366, List.forall_mem_cons.mpr ⟨kw_368, List.forall_mem_cons.mpr ⟨kw_370, List.forall_mem_cons.mpr ⟨kw_372, List.forall_mem_cons.mpr ⟨kw_374, fun _ h => absurd h List.not_mem_nil⟩⟩⟩⟩⟩⟩⟩⟩⟩⟩
set_option maxRecDepth 20000 in
theorem n_Rd : ∀ a, a < 10 → ∀ b, b < 10 → a ≠ b → (F_Rd a).2.1 ≠ (F_Rd b).2.1 := by decide +kernel
theorem t_Rd_ok : ∀ k, k < 10 → parseFieldDescriptor (F_Rd k).2.2.1 = some (t_Rd k) := by decide +kernel
def R_Wr : String := "JoinedTrees$JsonWriter"
def F_Wr : u_T := fun k => match k with
  | 0 => ("JoinedTrees$JsonWriter", "view", "LJoinedTrees$View;", true)
  | _ => ("JoinedTrees$JsonWriter", "row", "LJoinedTrees$Row;", true)
def t_Wr : Nat → FieldType := fun k => match k with
  | 0 => .object "JoinedTrees$View"
  | _ => .object "JoinedTrees$Row"
set_option maxRecDepth 20000 in
theorem i_Wr : ∀ w ∈ u_ws R_Wr F_Wr 2, w ∈ gb := List.forall_mem_cons.mpr ⟨kw_387, List.forall_mem_cons.mpr ⟨kw_389, fun _ h => absurd h List.not_mem_nil⟩⟩
set_option maxRecDepth 20000 in
theorem n_Wr : ∀ a, a < 2 → ∀ b, b < 2 → a ≠ b → (F_Wr a).2.1 ≠ (F_Wr b).2.1 := by decide +kernel
theorem t_Wr_ok : ∀ k, k < 2 → parseFieldDescriptor (F_Wr k).2.2.1 = some (t_Wr k) := by decide +kernel
def R_Op : String := "JoinedTrees$Op"
def F_Op : u_T := fun k => match k with
  | 0 => ("JoinedTrees$Op", "id", "I", true)
  | 1 => ("JoinedTrees$Op", "object", "LJoinedTrees$Op;", true)
  | 2 => ("JoinedTrees$Op", "sort", "I", true)
  | 3 => ("JoinedTrees$Op", "n", "J", true)
  | 4 => ("JoinedTrees$Op", "change", "I", false)
  | 5 => ("JoinedTrees$Op", "inserts", "Z", false)
  | 6 => ("JoinedTrees$Op", "behind", "LJoinedTrees$Op;", false)
  | 7 => ("JoinedTrees$Op", "preds", "[LJoinedTrees$Op;", false)
  | 8 => ("JoinedTrees$Op", "bytesAt", "I", false)
  | 9 => ("JoinedTrees$Op", "keyLength", "I", false)
  | 10 => ("JoinedTrees$Op", "stringLength", "I", false)
  | 11 => ("JoinedTrees$Op", "spot", "LJoinedTrees$Spot;", false)
  | 12 => ("JoinedTrees$Op", "below", "LJoinedTrees$Op;", false)
  | 13 => ("JoinedTrees$Op", "spots", "LJoinedTrees$Spot;", false)
  | _ => ("JoinedTrees$Op", "struck", "I", false)
def t_Op : Nat → FieldType := fun k => match k with
  | 0 => .int
  | 1 => .object "JoinedTrees$Op"
  | 2 => .int
  | 3 => .long
  | 4 => .int
  | 5 => .boolean
  | 6 => .object "JoinedTrees$Op"
  | 7 => .array (.object "JoinedTrees$Op")
  | 8 => .int
  | 9 => .int
  | 10 => .int
  | 11 => .object "JoinedTrees$Spot"
  | 12 => .object "JoinedTrees$Op"
  | 13 => .object "JoinedTrees$Spot"
  | _ => .int
set_option maxRecDepth 20000 in
theorem i_Op : ∀ w ∈ u_ws R_Op F_Op 15, w ∈ gb := List.forall_mem_cons.mpr ⟨kw_102, List.forall_mem_cons.mpr ⟨kw_104, List.forall_mem_cons.mpr ⟨kw_106, List.forall_mem_cons.mpr ⟨kw_108, List.forall_mem_cons.mpr ⟨kw_110, List.forall_mem_cons.mpr ⟨kw_112, List.forall_mem_cons.mpr ⟨kw_114, List.forall_mem_cons.mpr ⟨kw_116, List.forall_mem_cons.mpr ⟨kw_118, List.forall_mem_cons.mpr ⟨kw_120, List.forall_mem_cons.mpr ⟨kw_122, List.forall_mem_cons.mpr ⟨kw_124, List.forall_mem_cons.mpr ⟨kw_126, List.forall_mem_cons.mpr ⟨kw_128, List.forall_mem_cons.mpr ⟨kw_130, fun _ h => absurd h List.not_mem_nil⟩⟩⟩⟩⟩⟩⟩⟩⟩⟩⟩⟩⟩⟩⟩
set_option maxRecDepth 20000 in
theorem n_Op : ∀ a, a < 15 → ∀ b, b < 15 → a ≠ b → (F_Op a).2.1 ≠ (F_Op b).2.1 := by decide +kernel
theorem t_Op_ok : ∀ k, k < 15 → parseFieldDescriptor (F_Op k).2.2.1 = some (t_Op k) := by decide +kernel
def R_Rp : String := "JoinedTrees$Replica"
def F_Rp : u_T := fun k => match k with
  | 0 => ("JoinedTrees$Replica", "actor", "I", true)
  | 1 => ("JoinedTrees$Replica", "has", "[I", true)
  | 2 => ("JoinedTrees$Replica", "waits", "[Z", true)
  | 3 => ("JoinedTrees$Replica", "heads", "[LJoinedTrees$Change;", true)
  | 4 => ("JoinedTrees$Replica", "looked", "LJoinedTrees$Change;", false)
  | 5 => ("JoinedTrees$Replica", "changes", "I", false)
  | 6 => ("JoinedTrees$Replica", "waiting", "I", false)
  | 7 => ("JoinedTrees$Replica", "ops", "I", false)
  | 8 => ("JoinedTrees$Replica", "top", "I", false)
  | _ => ("JoinedTrees$Replica", "open", "I", false)
def t_Rp : Nat → FieldType := fun k => match k with
  | 0 => .int
  | 1 => .array (.int)
  | 2 => .array (.boolean)
  | 3 => .array (.object "JoinedTrees$Change")
  | 4 => .object "JoinedTrees$Change"
  | 5 => .int
  | 6 => .int
  | 7 => .int
  | 8 => .int
  | _ => .int
set_option maxRecDepth 20000 in
theorem i_Rp : ∀ w ∈ u_ws R_Rp F_Rp 10, w ∈ gb := List.forall_mem_cons.mpr ⟨kw_231, List.forall_mem_cons.mpr ⟨kw_233, List.forall_mem_cons.mpr ⟨kw_235, List.forall_mem_cons.mpr ⟨kw_237, List.forall_mem_cons.mpr ⟨kw_239, List.forall_mem_cons.mpr ⟨kw_241, List.forall_mem_cons.mpr ⟨kw_243, List.forall_mem_cons.mpr ⟨kw_245, List.forall_mem_cons.mpr ⟨kw_247, List.forall_mem_cons.mpr ⟨kw_249, fun _ h => absurd h List.not_mem_nil⟩⟩⟩⟩⟩⟩⟩⟩⟩⟩
set_option maxRecDepth 20000 in
theorem n_Rp : ∀ a, a < 10 → ∀ b, b < 10 → a ≠ b → (F_Rp a).2.1 ≠ (F_Rp b).2.1 := by decide +kernel
theorem t_Rp_ok : ∀ k, k < 10 → parseFieldDescriptor (F_Rp k).2.2.1 = some (t_Rp k) := by decide +kernel
def R_Rw : String := "JoinedTrees$Row"
def F_Rw : u_T := fun k => match k with
  | 0 => ("JoinedTrees$Row", "bytes", "[B", true)
  | 1 => ("JoinedTrees$Row", "length", "I", false)
  | _ => ("JoinedTrees$Row", "spilt", "Z", false)
def t_Rw : Nat → FieldType := fun k => match k with
  | 0 => .array (.byte)
  | 1 => .int
  | _ => .boolean
set_option maxRecDepth 20000 in
theorem i_Rw : ∀ w ∈ u_ws R_Rw F_Rw 3, w ∈ gb := List.forall_mem_cons.mpr ⟨kw_151, List.forall_mem_cons.mpr ⟨kw_153, List.forall_mem_cons.mpr ⟨kw_155, fun _ h => absurd h List.not_mem_nil⟩⟩⟩
set_option maxRecDepth 20000 in
theorem n_Rw : ∀ a, a < 3 → ∀ b, b < 3 → a ≠ b → (F_Rw a).2.1 ≠ (F_Rw b).2.1 := by decide +kernel
theorem t_Rw_ok : ∀ k, k < 3 → parseFieldDescriptor (F_Rw k).2.2.1 = some (t_Rw k) := by decide +kernel
def R_Sv : String := "JoinedTrees$Saver"
def F_Sv : u_T := fun k => match k with
  | 0 => ("JoinedTrees$Saver", "store", "LJoinedTrees$Store;", true)
  | 1 => ("JoinedTrees$Saver", "out", "LJoinedTrees$Row;", true)
  | 2 => ("JoinedTrees$Saver", "taken", "[I", true)
  | 3 => ("JoinedTrees$Saver", "compares", "Z", false)
  | 4 => ("JoinedTrees$Saver", "differs", "Z", false)
  | _ => ("JoinedTrees$Saver", "at", "I", false)
def t_Sv : Nat → FieldType := fun k => match k with
  | 0 => .object "JoinedTrees$Store"
  | 1 => .object "JoinedTrees$Row"
  | 2 => .array (.int)
  | 3 => .boolean
  | 4 => .boolean
  | _ => .int
set_option maxRecDepth 20000 in
theorem i_Sv : ∀ w ∈ u_ws R_Sv F_Sv 6, w ∈ gb := List.forall_mem_cons.mpr ⟨kw_408, List.forall_mem_cons.mpr ⟨kw_410, List.forall_mem_cons.mpr ⟨kw_412, List.forall_mem_cons.mpr ⟨kw_414, List.forall_mem_cons.mpr ⟨kw_416, List.forall_mem_cons.mpr ⟨kw_418, fun _ h => absurd h List.not_mem_nil⟩⟩⟩⟩⟩⟩
set_option maxRecDepth 20000 in
theorem n_Sv : ∀ a, a < 6 → ∀ b, b < 6 → a ≠ b → (F_Sv a).2.1 ≠ (F_Sv b).2.1 := by decide +kernel
theorem t_Sv_ok : ∀ k, k < 6 → parseFieldDescriptor (F_Sv k).2.2.1 = some (t_Sv k) := by decide +kernel
def R_Sp : String := "JoinedTrees$Spot"
def F_Sp : u_T := fun k => match k with
  | 0 => ("JoinedTrees$Spot", "maker", "LJoinedTrees$Op;", true)
  | 1 => ("JoinedTrees$Spot", "ops", "LJoinedTrees$Op;", false)
  | _ => ("JoinedTrees$Spot", "next", "LJoinedTrees$Spot;", false)
def t_Sp : Nat → FieldType := fun k => match k with
  | 0 => .object "JoinedTrees$Op"
  | 1 => .object "JoinedTrees$Op"
  | _ => .object "JoinedTrees$Spot"
set_option maxRecDepth 20000 in
theorem i_Sp : ∀ w ∈ u_ws R_Sp F_Sp 3, w ∈ gb := List.forall_mem_cons.mpr ⟨kw_750, List.forall_mem_cons.mpr ⟨kw_752, List.forall_mem_cons.mpr ⟨kw_754, fun _ h => absurd h List.not_mem_nil⟩⟩⟩
set_option maxRecDepth 20000 in
theorem n_Sp : ∀ a, a < 3 → ∀ b, b < 3 → a ≠ b → (F_Sp a).2.1 ≠ (F_Sp b).2.1 := by decide +kernel
theorem t_Sp_ok : ∀ k, k < 3 → parseFieldDescriptor (F_Sp k).2.2.1 = some (t_Sp k) := by decide +kernel
def R_St : String := "JoinedTrees$Store"
def F_St : u_T := fun k => match k with
  | 0 => ("JoinedTrees$Store", "root", "LJoinedTrees$Op;", true)
  | 1 => ("JoinedTrees$Store", "byId", "[LJoinedTrees$Op;", true)
  | 2 => ("JoinedTrees$Store", "kept", "LJoinedTrees$Row;", true)
  | 3 => ("JoinedTrees$Store", "changes", "[LJoinedTrees$Change;", true)
  | 4 => ("JoinedTrees$Store", "changesMade", "I", false)
  | _ => ("JoinedTrees$Store", "opsMade", "I", false)
def t_St : Nat → FieldType := fun k => match k with
  | 0 => .object "JoinedTrees$Op"
  | 1 => .array (.object "JoinedTrees$Op")
  | 2 => .object "JoinedTrees$Row"
  | 3 => .array (.object "JoinedTrees$Change")
  | 4 => .int
  | _ => .int
set_option maxRecDepth 20000 in
theorem i_St : ∀ w ∈ u_ws R_St F_St 6, w ∈ gb := List.forall_mem_cons.mpr ⟨kw_179, List.forall_mem_cons.mpr ⟨kw_181, List.forall_mem_cons.mpr ⟨kw_183, List.forall_mem_cons.mpr ⟨kw_185, List.forall_mem_cons.mpr ⟨kw_187, List.forall_mem_cons.mpr ⟨kw_189, fun _ h => absurd h List.not_mem_nil⟩⟩⟩⟩⟩⟩
set_option maxRecDepth 20000 in
theorem n_St : ∀ a, a < 6 → ∀ b, b < 6 → a ≠ b → (F_St a).2.1 ≠ (F_St b).2.1 := by decide +kernel
theorem t_St_ok : ∀ k, k < 6 → parseFieldDescriptor (F_St k).2.2.1 = some (t_St k) := by decide +kernel
def R_Va : String := "JoinedTrees$Value"
def F_Va : u_T := fun k => match k with
  | 0 => ("JoinedTrees$Value", "sort", "I", false)
  | 1 => ("JoinedTrees$Value", "n", "J", false)
  | 2 => ("JoinedTrees$Value", "around", "LJoinedTrees$Value;", false)
  | 3 => ("JoinedTrees$Value", "keyAt", "I", false)
  | 4 => ("JoinedTrees$Value", "keyLength", "I", false)
  | 5 => ("JoinedTrees$Value", "bytesAt", "I", false)
  | 6 => ("JoinedTrees$Value", "length", "I", false)
  | 7 => ("JoinedTrees$Value", "filled", "Z", false)
  | 8 => ("JoinedTrees$Value", "op", "LJoinedTrees$Op;", false)
  | _ => ("JoinedTrees$Value", "last", "LJoinedTrees$Op;", false)
def t_Va : Nat → FieldType := fun k => match k with
  | 0 => .int
  | 1 => .long
  | 2 => .object "JoinedTrees$Value"
  | 3 => .int
  | 4 => .int
  | 5 => .int
  | 6 => .int
  | 7 => .boolean
  | 8 => .object "JoinedTrees$Op"
  | _ => .object "JoinedTrees$Op"
set_option maxRecDepth 20000 in
theorem i_Va : ∀ w ∈ u_ws R_Va F_Va 10, w ∈ gb := List.forall_mem_cons.mpr ⟨kw_321, List.forall_mem_cons.mpr ⟨kw_323, List.forall_mem_cons.mpr ⟨kw_325, List.forall_mem_cons.mpr ⟨kw_327, List.forall_mem_cons.mpr ⟨kw_329, List.forall_mem_cons.mpr ⟨kw_331, List.forall_mem_cons.mpr ⟨kw_333, List.forall_mem_cons.mpr ⟨kw_335, List.forall_mem_cons.mpr ⟨kw_337, List.forall_mem_cons.mpr ⟨kw_339, fun _ h => absurd h List.not_mem_nil⟩⟩⟩⟩⟩⟩⟩⟩⟩⟩
set_option maxRecDepth 20000 in
theorem n_Va : ∀ a, a < 10 → ∀ b, b < 10 → a ≠ b → (F_Va a).2.1 ≠ (F_Va b).2.1 := by decide +kernel
theorem t_Va_ok : ∀ k, k < 10 → parseFieldDescriptor (F_Va k).2.2.1 = some (t_Va k) := by decide +kernel
def R_Vw : String := "JoinedTrees$View"
def F_Vw : u_T := fun k => match k with
  | 0 => ("JoinedTrees$View", "store", "LJoinedTrees$Store;", true)
  | 1 => ("JoinedTrees$View", "clock", "[I", true)
  | 2 => ("JoinedTrees$View", "found", "[LJoinedTrees$Op;", true)
  | 3 => ("JoinedTrees$View", "size", "I", false)
  | _ => ("JoinedTrees$View", "round", "I", false)
def t_Vw : Nat → FieldType := fun k => match k with
  | 0 => .object "JoinedTrees$Store"
  | 1 => .array (.int)
  | 2 => .array (.object "JoinedTrees$Op")
  | 3 => .int
  | _ => .int
set_option maxRecDepth 20000 in
theorem i_Vw : ∀ w ∈ u_ws R_Vw F_Vw 5, w ∈ gb := List.forall_mem_cons.mpr ⟨kw_269, List.forall_mem_cons.mpr ⟨kw_271, List.forall_mem_cons.mpr ⟨kw_273, List.forall_mem_cons.mpr ⟨kw_275, List.forall_mem_cons.mpr ⟨kw_277, fun _ h => absurd h List.not_mem_nil⟩⟩⟩⟩⟩
set_option maxRecDepth 20000 in
theorem n_Vw : ∀ a, a < 5 → ∀ b, b < 5 → a ≠ b → (F_Vw a).2.1 ≠ (F_Vw b).2.1 := by decide +kernel
theorem t_Vw_ok : ∀ k, k < 5 → parseFieldDescriptor (F_Vw k).2.2.1 = some (t_Vw k) := by decide +kernel
def R_JT : String := "JoinedTrees"
def F_JT : u_T := fun k => match k with
  | 0 => ("JoinedTrees", "store", "LJoinedTrees$Store;", true)
  | 1 => ("JoinedTrees", "replicas", "[LJoinedTrees$Replica;", true)
  | 2 => ("JoinedTrees", "view", "LJoinedTrees$View;", true)
  | 3 => ("JoinedTrees", "reader", "LJoinedTrees$JsonReader;", true)
  | 4 => ("JoinedTrees", "writer", "LJoinedTrees$JsonWriter;", true)
  | 5 => ("JoinedTrees", "saver", "LJoinedTrees$Saver;", true)
  | 6 => ("JoinedTrees", "out", "LJoinedTrees$Row;", true)
  | 7 => ("JoinedTrees", "outIsSaved", "Z", false)
  | 8 => ("JoinedTrees", "input", "LJoinedTrees$Row;", false)
  | 9 => ("JoinedTrees", "first", "LJoinedTrees$Row;", false)
  | 10 => ("JoinedTrees", "second", "LJoinedTrees$Row;", false)
  | 11 => ("JoinedTrees", "arguments", "I", false)
  | _ => ("JoinedTrees", "where", "I", false)
def t_JT : Nat → FieldType := fun k => match k with
  | 0 => .object "JoinedTrees$Store"
  | 1 => .array (.object "JoinedTrees$Replica")
  | 2 => .object "JoinedTrees$View"
  | 3 => .object "JoinedTrees$JsonReader"
  | 4 => .object "JoinedTrees$JsonWriter"
  | 5 => .object "JoinedTrees$Saver"
  | 6 => .object "JoinedTrees$Row"
  | 7 => .boolean
  | 8 => .object "JoinedTrees$Row"
  | 9 => .object "JoinedTrees$Row"
  | 10 => .object "JoinedTrees$Row"
  | 11 => .int
  | _ => .int
set_option maxRecDepth 20000 in
theorem i_JT : ∀ w ∈ u_ws R_JT F_JT 13, w ∈ gb := List.forall_mem_cons.mpr ⟨kw_434, List.forall_mem_cons.mpr ⟨kw_436, List.forall_mem_cons.mpr ⟨kw_438, List.forall_mem_cons.mpr ⟨kw_440, List.forall_mem_cons.mpr ⟨kw_442, List.forall_mem_cons.mpr ⟨kw_444, List.forall_mem_cons.mpr ⟨kw_446, List.forall_mem_cons.mpr ⟨kw_448, List.forall_mem_cons.mpr ⟨kw_450, List.forall_mem_cons.mpr ⟨kw_452, List.forall_mem_cons.mpr ⟨kw_454, List.forall_mem_cons.mpr ⟨kw_456, List.forall_mem_cons.mpr ⟨kw_458, fun _ h => absurd h List.not_mem_nil⟩⟩⟩⟩⟩⟩⟩⟩⟩⟩⟩⟩⟩
set_option maxRecDepth 20000 in
theorem n_JT : ∀ a, a < 13 → ∀ b, b < 13 → a ≠ b → (F_JT a).2.1 ≠ (F_JT b).2.1 := by decide +kernel
theorem t_JT_ok : ∀ k, k < 13 → parseFieldDescriptor (F_JT k).2.2.1 = some (t_JT k) := by decide +kernel
def R_MM : String := "JoinedTreesModel"
def F_MM : u_T := fun k => match k with
  | 0 => ("JoinedTreesModel", "thrown", "I", false)
  | 1 => ("JoinedTreesModel", "input", "[B", true)
  | 2 => ("JoinedTreesModel", "first", "[B", true)
  | 3 => ("JoinedTreesModel", "second", "[B", true)
  | 4 => ("JoinedTreesModel", "inputSize", "I", false)
  | 5 => ("JoinedTreesModel", "firstSize", "I", false)
  | 6 => ("JoinedTreesModel", "secondSize", "I", false)
  | 7 => ("JoinedTreesModel", "arguments", "I", false)
  | 8 => ("JoinedTreesModel", "opid", "[I", true)
  | 9 => ("JoinedTreesModel", "object", "[I", true)
  | 10 => ("JoinedTreesModel", "place", "[I", true)
  | 11 => ("JoinedTreesModel", "action", "[I", true)
  | 12 => ("JoinedTreesModel", "owner", "[I", true)
  | 13 => ("JoinedTreesModel", "change", "[I", true)
  | 14 => ("JoinedTreesModel", "keyAt", "[I", true)
  | 15 => ("JoinedTreesModel", "keyLong", "[I", true)
  | 16 => ("JoinedTreesModel", "textAt", "[I", true)
  | 17 => ("JoinedTreesModel", "textLong", "[I", true)
  | 18 => ("JoinedTreesModel", "predAt", "[I", true)
  | 19 => ("JoinedTreesModel", "predMany", "[I", true)
  | 20 => ("JoinedTreesModel", "inserts", "[Z", true)
  | 21 => ("JoinedTreesModel", "gone", "[Z", true)
  | 22 => ("JoinedTreesModel", "number", "[J", true)
  | 23 => ("JoinedTreesModel", "ops", "I", false)
  | 24 => ("JoinedTreesModel", "pred", "[I", true)
  | 25 => ("JoinedTreesModel", "preds", "I", false)
  | 26 => ("JoinedTreesModel", "bytes", "[B", true)
  | 27 => ("JoinedTreesModel", "byteMany", "I", false)
  | 28 => ("JoinedTreesModel", "order", "[I", true)
  | 29 => ("JoinedTreesModel", "actor", "[I", true)
  | 30 => ("JoinedTreesModel", "serial", "[I", true)
  | 31 => ("JoinedTreesModel", "depAt", "[I", true)
  | 32 => ("JoinedTreesModel", "depMany", "[I", true)
  | 33 => ("JoinedTreesModel", "dep", "[I", true)
  | 34 => ("JoinedTreesModel", "changes", "I", false)
  | 35 => ("JoinedTreesModel", "deps", "I", false)
  | 36 => ("JoinedTreesModel", "has", "[[Z", true)
  | 37 => ("JoinedTreesModel", "waits", "[[Z", true)
  | 38 => ("JoinedTreesModel", "viewed", "[[Z", true)
  | 39 => ("JoinedTreesModel", "look", "[I", true)
  | 40 => ("JoinedTreesModel", "out", "[B", true)
  | 41 => ("JoinedTreesModel", "outSize", "I", false)
  | 42 => ("JoinedTreesModel", "where", "I", false)
  | 43 => ("JoinedTreesModel", "saved", "Z", false)
  | 44 => ("JoinedTreesModel", "savedHas", "[Z", true)
  | 45 => ("JoinedTreesModel", "hidden", "[Z", true)
  | 46 => ("JoinedTreesModel", "cand", "[I", true)
  | 47 => ("JoinedTreesModel", "cands", "I", false)
  | 48 => ("JoinedTreesModel", "element", "[I", true)
  | 49 => ("JoinedTreesModel", "chain", "[I", true)
  | 50 => ("JoinedTreesModel", "elements", "I", false)
  | 51 => ("JoinedTreesModel", "there", "[Z", true)
  | 52 => ("JoinedTreesModel", "pointElement", "I", false)
  | 53 => ("JoinedTreesModel", "jSort", "[I", true)
  | 54 => ("JoinedTreesModel", "jIn", "[I", true)
  | 55 => ("JoinedTreesModel", "jKeyAt", "[I", true)
  | 56 => ("JoinedTreesModel", "jKeyLong", "[I", true)
  | 57 => ("JoinedTreesModel", "jTextAt", "[I", true)
  | 58 => ("JoinedTreesModel", "jTextLong", "[I", true)
  | 59 => ("JoinedTreesModel", "jOp", "[I", true)
  | 60 => ("JoinedTreesModel", "jLast", "[I", true)
  | 61 => ("JoinedTreesModel", "jNumber", "[J", true)
  | 62 => ("JoinedTreesModel", "jBytes", "[B", true)
  | 63 => ("JoinedTreesModel", "nest", "[I", true)
  | 64 => ("JoinedTreesModel", "jMany", "I", false)
  | 65 => ("JoinedTreesModel", "jSize", "I", false)
  | 66 => ("JoinedTreesModel", "jAt", "I", false)
  | 67 => ("JoinedTreesModel", "deep", "I", false)
  | 68 => ("JoinedTreesModel", "wrong", "Z", false)
  | 69 => ("JoinedTreesModel", "state", "I", false)
  | 70 => ("JoinedTreesModel", "keys", "[I", true)
  | 71 => ("JoinedTreesModel", "keyMany", "I", false)
  | 72 => ("JoinedTreesModel", "pile", "[I", true)
  | 73 => ("JoinedTreesModel", "piled", "I", false)
  | 74 => ("JoinedTreesModel", "keptOut", "I", true)
  | 75 => ("JoinedTreesModel", "loadAt", "I", false)
  | _ => ("JoinedTreesModel", "keptLength", "I", false)
def t_MM : Nat → FieldType := fun k => match k with
  | 0 => .int
  | 1 => .array (.byte)
  | 2 => .array (.byte)
  | 3 => .array (.byte)
  | 4 => .int
  | 5 => .int
  | 6 => .int
  | 7 => .int
  | 8 => .array (.int)
  | 9 => .array (.int)
  | 10 => .array (.int)
  | 11 => .array (.int)
  | 12 => .array (.int)
  | 13 => .array (.int)
  | 14 => .array (.int)
  | 15 => .array (.int)
  | 16 => .array (.int)
  | 17 => .array (.int)
  | 18 => .array (.int)
  | 19 => .array (.int)
  | 20 => .array (.boolean)
  | 21 => .array (.boolean)
  | 22 => .array (.long)
  | 23 => .int
  | 24 => .array (.int)
  | 25 => .int
  | 26 => .array (.byte)
  | 27 => .int
  | 28 => .array (.int)
  | 29 => .array (.int)
  | 30 => .array (.int)
  | 31 => .array (.int)
  | 32 => .array (.int)
  | 33 => .array (.int)
  | 34 => .int
  | 35 => .int
  | 36 => .array (.array (.boolean))
  | 37 => .array (.array (.boolean))
  | 38 => .array (.array (.boolean))
  | 39 => .array (.int)
  | 40 => .array (.byte)
  | 41 => .int
  | 42 => .int
  | 43 => .boolean
  | 44 => .array (.boolean)
  | 45 => .array (.boolean)
  | 46 => .array (.int)
  | 47 => .int
  | 48 => .array (.int)
  | 49 => .array (.int)
  | 50 => .int
  | 51 => .array (.boolean)
  | 52 => .int
  | 53 => .array (.int)
  | 54 => .array (.int)
  | 55 => .array (.int)
  | 56 => .array (.int)
  | 57 => .array (.int)
  | 58 => .array (.int)
  | 59 => .array (.int)
  | 60 => .array (.int)
  | 61 => .array (.long)
  | 62 => .array (.byte)
  | 63 => .array (.int)
  | 64 => .int
  | 65 => .int
  | 66 => .int
  | 67 => .int
  | 68 => .boolean
  | 69 => .int
  | 70 => .array (.int)
  | 71 => .int
  | 72 => .array (.int)
  | 73 => .int
  | 74 => .int
  | 75 => .int
  | _ => .int
set_option maxRecDepth 20000 in
theorem i_MM : ∀ w ∈ u_ws R_MM F_MM 77, w ∈ gb := List.forall_mem_cons.mpr ⟨kw_1459, List.forall_mem_cons.mpr ⟨kw_1461, List.forall_mem_cons.mpr ⟨kw_1463, List.forall_mem_cons.mpr ⟨kw_1465, List.forall_mem_cons.mpr ⟨kw_1467, List.forall_mem_cons.mpr ⟨kw_1469, List.forall_mem_cons.mpr ⟨kw_1471, List.forall_mem_cons.mpr ⟨kw_1473, List.forall_mem_cons.mpr ⟨kw_1475, List.forall_mem_cons.mpr ⟨kw_1477, List.forall_mem_cons.mpr ⟨kw_1479, List.forall_mem_cons.mpr ⟨kw_1481, List.forall_mem_cons.mpr ⟨kw_1483, List.forall_mem_cons.mpr ⟨kw_1485, List.forall_mem_cons.mpr ⟨kw_1487, List.forall_mem_cons.mpr ⟨kw_1489, List.forall_mem_cons.mpr ⟨kw_1491, List.forall_mem_cons.mpr ⟨kw_1493, List.forall_mem_cons.mpr ⟨kw_1495, List.forall_mem_cons.mpr ⟨kw_1497, List.forall_mem_cons.mpr ⟨kw_1499, List.forall_mem_cons.mpr ⟨kw_1501, List.forall_mem_cons.mpr ⟨kw_1503, List.forall_mem_cons.mpr ⟨kw_1505, List.forall_mem_cons.mpr ⟨kw_1507, List.forall_mem_cons.mpr ⟨kw_1509, List.forall_mem_cons.mpr ⟨kw_1511, List.forall_mem_cons.mpr ⟨kw_1513, List.forall_mem_cons.mpr ⟨kw_1515, List.forall_mem_cons.mpr ⟨kw_1517, List.forall_mem_cons.mpr ⟨kw_1519, List.forall_mem_cons.mpr ⟨kw_1521, List.forall_mem_cons.mpr ⟨kw_1523, List.forall_mem_cons.mpr ⟨kw_1525, List.forall_mem_cons.mpr ⟨kw_1527, List.forall_mem_cons.mpr ⟨kw_1529, List.forall_mem_cons.mpr ⟨kw_1531, List.forall_mem_cons.mpr ⟨kw_1533, List.forall_mem_cons.mpr ⟨kw_1535, List.forall_mem_cons.mpr ⟨kw_1537, List.forall_mem_cons.mpr ⟨kw_1539, List.forall_mem_cons.mpr ⟨kw_1541, List.forall_mem_cons.mpr ⟨kw_1543, List.forall_mem_cons.mpr ⟨kw_1545, List.forall_mem_cons.mpr ⟨kw_1547, List.forall_mem_cons.mpr ⟨kw_1549, List.forall_mem_cons.mpr ⟨kw_1551, List.forall_mem_cons.mpr ⟨kw_1553, List.forall_mem_cons.mpr ⟨kw_1555, List.forall_mem_cons.mpr ⟨kw_1557, List.forall_mem_cons.mpr ⟨kw_1559, List.forall_mem_cons.mpr ⟨kw_1561, List.forall_mem_cons.mpr ⟨kw_1563, List.forall_mem_cons.mpr ⟨kw_1565, List.forall_mem_cons.mpr ⟨kw_1567, List.forall_mem_cons.mpr ⟨kw_1569, List.forall_mem_cons.mpr ⟨kw_1571, List.forall_mem_cons.mpr ⟨kw_1573, List.forall_mem_cons.mpr ⟨kw_1575, List.forall_mem_cons.mpr ⟨kw_1577, List.forall_mem_cons.mpr ⟨kw_1579, List.forall_mem_cons.mpr ⟨kw_1581, List.forall_mem_cons.mpr ⟨kw_1583, List.forall_mem_cons.mpr ⟨kw_1585, List.forall_mem_cons.mpr ⟨kw_1587, List.forall_mem_cons.mpr ⟨kw_1589, List.forall_mem_cons.mpr ⟨kw_1591, List.forall_mem_cons.mpr ⟨kw_1593, List.forall_mem_cons.mpr ⟨kw_1595, List.forall_mem_cons.mpr ⟨kw_1597, List.forall_mem_cons.mpr ⟨kw_1599, List.forall_mem_cons.mpr ⟨kw_1601, List.forall_mem_cons.mpr ⟨kw_1603, List.forall_mem_cons.mpr ⟨kw_1605, List.forall_mem_cons.mpr ⟨kw_1607, List.forall_mem_cons.mpr ⟨kw_1609, List.forall_mem_cons.mpr ⟨kw_1611, fun _ h => absurd h List.not_mem_nil⟩⟩⟩⟩⟩⟩⟩⟩⟩⟩⟩⟩⟩⟩⟩⟩⟩⟩⟩⟩⟩⟩⟩⟩⟩⟩⟩⟩⟩⟩⟩⟩⟩⟩⟩⟩⟩⟩⟩⟩⟩⟩⟩⟩⟩⟩⟩⟩⟩⟩⟩⟩⟩⟩⟩⟩⟩⟩⟩⟩⟩⟩⟩⟩⟩⟩⟩⟩⟩⟩⟩⟩⟩⟩⟩⟩⟩
set_option maxRecDepth 20000 in
theorem n_MM : ∀ a, a < 77 → ∀ b, b < 77 → a ≠ b → (F_MM a).2.1 ≠ (F_MM b).2.1 := by decide +kernel
theorem t_MM_ok : ∀ k, k < 77 → parseFieldDescriptor (F_MM k).2.2.1 = some (t_MM k) := by decide +kernel
abbrev cls : List vw_C := [(R_Ch, F_Ch, 7), (R_Rd, F_Rd, 10), (R_Wr, F_Wr, 2), (R_Op, F_Op, 15), (R_Rp, F_Rp, 10), (R_Rw, F_Rw, 3), (R_Sv, F_Sv, 6), (R_Sp, F_Sp, 3), (R_St, F_St, 6), (R_Va, F_Va, 10), (R_Vw, F_Vw, 5), (R_JT, F_JT, 13), (R_MM, F_MM, 77)]
