/-! the classes whose objects the worlds hold (printed by wip/whole/gen.py) -/
def RX0 : String := "ZigzagPieces$Bars"
def TX0 : u_T := fun k => match k with
  | 0 => ("ZigzagPieces$Bars", "begins", "[I", true)
  | 1 => ("ZigzagPieces$Bars", "ends", "[I", true)
  | 2 => ("ZigzagPieces$Bars", "size", "I", false)
  | _ => ("ZigzagPieces$Bars", "open", "I", false)
def tyX0 : Nat → FieldType := fun k => match k with
  | 0 => .array .int
  | 1 => .array .int
  | 2 => .int
  | _ => .int
theorem nmX0 : ∀ a, a < 4 → ∀ b, b < 4 → a ≠ b → (TX0 a).2.1 ≠ (TX0 b).2.1 := by decide +kernel
theorem tyX0_ok : ∀ k, k < 4 → parseFieldDescriptor (TX0 k).2.2.1 = some (tyX0 k) := by decide +kernel
def RX1 : String := "ZigzagPieces$Kinship"
def TX1 : u_T := fun k => match k with
  | 0 => ("ZigzagPieces$Kinship", "roots", "[I", true)
  | 1 => ("ZigzagPieces$Kinship", "since", "[I", true)
  | 2 => ("ZigzagPieces$Kinship", "withFirst", "[I", true)
  | _ => ("ZigzagPieces$Kinship", "withSecond", "[I", true)
def tyX1 : Nat → FieldType := fun k => match k with
  | 0 => .array .int
  | 1 => .array .int
  | 2 => .array .int
  | _ => .array .int
theorem nmX1 : ∀ a, a < 4 → ∀ b, b < 4 → a ≠ b → (TX1 a).2.1 ≠ (TX1 b).2.1 := by decide +kernel
theorem tyX1_ok : ∀ k, k < 4 → parseFieldDescriptor (TX1 k).2.2.1 = some (tyX1 k) := by decide +kernel
def RX2 : String := "ZigzagPieces$Net"
def TX2 : u_T := fun k => match k with
  | 0 => ("ZigzagPieces$Net", "near", "[I", true)
  | 1 => ("ZigzagPieces$Net", "points", "I", false)
  | _ => ("ZigzagPieces$Net", "edges", "I", false)
def tyX2 : Nat → FieldType := fun k => match k with
  | 0 => .array .int
  | 1 => .int
  | _ => .int
theorem nmX2 : ∀ a, a < 3 → ∀ b, b < 3 → a ≠ b → (TX2 a).2.1 ≠ (TX2 b).2.1 := by decide +kernel
theorem tyX2_ok : ∀ k, k < 3 → parseFieldDescriptor (TX2 k).2.2.1 = some (tyX2 k) := by decide +kernel
def RX3 : String := "ZigzagPieces$Row"
def TX3 : u_T := fun k => match k with
  | 0 => ("ZigzagPieces$Row", "acts", "[I", true)
  | _ => ("ZigzagPieces$Row", "size", "I", false)
def tyX3 : Nat → FieldType := fun k => match k with
  | 0 => .array .int
  | _ => .int
theorem nmX3 : ∀ a, a < 2 → ∀ b, b < 2 → a ≠ b → (TX3 a).2.1 ≠ (TX3 b).2.1 := by decide +kernel
theorem tyX3_ok : ∀ k, k < 2 → parseFieldDescriptor (TX3 k).2.2.1 = some (tyX3 k) := by decide +kernel
def RX4 : String := "ZigzagPieces$Shelf"
def TX4 : u_T := fun k => match k with
  | 0 => ("ZigzagPieces$Shelf", "rows", "[LZigzagPieces$Row;", true)
  | _ => ("ZigzagPieces$Shelf", "size", "I", false)
def tyX4 : Nat → FieldType := fun k => match k with
  | 0 => .array (.object "ZigzagPieces$Row")
  | _ => .int
theorem nmX4 : ∀ a, a < 2 → ∀ b, b < 2 → a ≠ b → (TX4 a).2.1 ≠ (TX4 b).2.1 := by decide +kernel
theorem tyX4_ok : ∀ k, k < 2 → parseFieldDescriptor (TX4 k).2.2.1 = some (tyX4 k) := by decide +kernel
def RX5 : String := "ZigzagPieces$Story"
def TX5 : u_T := fun k => match k with
  | 0 => ("ZigzagPieces$Story", "net", "LZigzagPieces$Net;", true)
  | 1 => ("ZigzagPieces$Story", "kinship", "LZigzagPieces$Kinship;", true)
  | _ => ("ZigzagPieces$Story", "bars", "LZigzagPieces$Bars;", true)
def tyX5 : Nat → FieldType := fun k => match k with
  | 0 => .object "ZigzagPieces$Net"
  | 1 => .object "ZigzagPieces$Kinship"
  | _ => .object "ZigzagPieces$Bars"
theorem nmX5 : ∀ a, a < 3 → ∀ b, b < 3 → a ≠ b → (TX5 a).2.1 ≠ (TX5 b).2.1 := by decide +kernel
theorem tyX5_ok : ∀ k, k < 3 → parseFieldDescriptor (TX5 k).2.2.1 = some (tyX5 k) := by decide +kernel
def RX6 : String := "ZigzagPieces$Text"
def TX6 : u_T := fun k => match k with
  | 0 => ("ZigzagPieces$Text", "letters", "[I", true)
  | _ => ("ZigzagPieces$Text", "length", "I", false)
def tyX6 : Nat → FieldType := fun k => match k with
  | 0 => .array .int
  | _ => .int
theorem nmX6 : ∀ a, a < 2 → ∀ b, b < 2 → a ≠ b → (TX6 a).2.1 ≠ (TX6 b).2.1 := by decide +kernel
theorem tyX6_ok : ∀ k, k < 2 → parseFieldDescriptor (TX6 k).2.2.1 = some (tyX6 k) := by decide +kernel
def RX7 : String := "ZigzagPieces"
def TX7 : u_T := fun k => match k with
  | 0 => ("ZigzagPieces", "text", "LZigzagPieces$Text;", true)
  | 1 => ("ZigzagPieces", "row", "LZigzagPieces$Row;", true)
  | 2 => ("ZigzagPieces", "trial", "LZigzagPieces$Row;", true)
  | 3 => ("ZigzagPieces", "undoable", "LZigzagPieces$Shelf;", true)
  | 4 => ("ZigzagPieces", "kept", "LZigzagPieces$Shelf;", true)
  | 5 => ("ZigzagPieces", "now", "LZigzagPieces$Story;", true)
  | _ => ("ZigzagPieces", "aside", "LZigzagPieces$Story;", true)
def tyX7 : Nat → FieldType := fun k => match k with
  | 0 => .object "ZigzagPieces$Text"
  | 1 => .object "ZigzagPieces$Row"
  | 2 => .object "ZigzagPieces$Row"
  | 3 => .object "ZigzagPieces$Shelf"
  | 4 => .object "ZigzagPieces$Shelf"
  | 5 => .object "ZigzagPieces$Story"
  | _ => .object "ZigzagPieces$Story"
theorem nmX7 : ∀ a, a < 7 → ∀ b, b < 7 → a ≠ b → (TX7 a).2.1 ≠ (TX7 b).2.1 := by decide +kernel
theorem tyX7_ok : ∀ k, k < 7 → parseFieldDescriptor (TX7 k).2.2.1 = some (tyX7 k) := by decide +kernel
def RX8 : String := "ZigzagPiecesModel"
def TX8 : u_T := fun k => match k with
  | 0 => ("ZigzagPiecesModel", "thrown", "I", false)
  | 1 => ("ZigzagPiecesModel", "text", "[B", true)
  | 2 => ("ZigzagPiecesModel", "letters", "I", false)
  | 3 => ("ZigzagPiecesModel", "s", "[I", true)
  | 4 => ("ZigzagPiecesModel", "past", "[I", true)
  | 5 => ("ZigzagPiecesModel", "undos", "I", false)
  | 6 => ("ZigzagPiecesModel", "kept", "[I", true)
  | 7 => ("ZigzagPiecesModel", "keeps", "I", false)
  | 8 => ("ZigzagPiecesModel", "there", "I", false)
  | 9 => ("ZigzagPiecesModel", "beside", "[I", true)
  | 10 => ("ZigzagPiecesModel", "pieceOf", "[I", true)
  | 11 => ("ZigzagPiecesModel", "pieces", "I", false)
  | 12 => ("ZigzagPiecesModel", "root", "[I", true)
  | 13 => ("ZigzagPiecesModel", "kin", "[I", true)
  | 14 => ("ZigzagPiecesModel", "begin", "[I", true)
  | 15 => ("ZigzagPiecesModel", "end", "[I", true)
  | 16 => ("ZigzagPiecesModel", "bars", "I", false)
  | 17 => ("ZigzagPiecesModel", "told", "[I", true)
  | 18 => ("ZigzagPiecesModel", "at", "I", false)
  | 19 => ("ZigzagPiecesModel", "wasBegin", "[I", true)
  | 20 => ("ZigzagPiecesModel", "wasEnd", "[I", true)
  | _ => ("ZigzagPiecesModel", "wasBars", "I", false)
def tyX8 : Nat → FieldType := fun k => match k with
  | 0 => .int
  | 1 => .array .byte
  | 2 => .int
  | 3 => .array .int
  | 4 => .array .int
  | 5 => .int
  | 6 => .array .int
  | 7 => .int
  | 8 => .int
  | 9 => .array .int
  | 10 => .array .int
  | 11 => .int
  | 12 => .array .int
  | 13 => .array .int
  | 14 => .array .int
  | 15 => .array .int
  | 16 => .int
  | 17 => .array .int
  | 18 => .int
  | 19 => .array .int
  | 20 => .array .int
  | _ => .int
theorem nmX8 : ∀ a, a < 22 → ∀ b, b < 22 → a ≠ b → (TX8 a).2.1 ≠ (TX8 b).2.1 := by decide +kernel
theorem tyX8_ok : ∀ k, k < 22 → parseFieldDescriptor (TX8 k).2.2.1 = some (tyX8 k) := by decide +kernel
theorem Tb_all (ws : List Cond) (ix : List Nat) (h : ws.map some = ix.map (fun i => lw_tbl[i]?)) (hg : ws.all goodWord = true) : ∀ w ∈ ws, w ∈ Tb := by
  intro w hw
  have h1 : some w ∈ ws.map some := List.mem_map.mpr ⟨w, hw, rfl⟩
  rw [h] at h1
  obtain ⟨i, -, hi⟩ := List.mem_map.mp h1
  exact Tb_at i hi (List.all_eq_true.mp hg w hw)
set_option maxRecDepth 20000 in
theorem inX0 : ∀ w ∈ u_ws RX0 TX0 4, w ∈ Tb := Tb_all _ [167, 169, 171, 173] rfl rfl
set_option maxRecDepth 20000 in
theorem inX1 : ∀ w ∈ u_ws RX1 TX1 4, w ∈ Tb := Tb_all _ [148, 150, 152, 154] rfl rfl
set_option maxRecDepth 20000 in
theorem inX2 : ∀ w ∈ u_ws RX2 TX2 3, w ∈ Tb := Tb_all _ [131, 133, 135] rfl rfl
set_option maxRecDepth 20000 in
theorem inX3 : ∀ w ∈ u_ws RX3 TX3 2, w ∈ Tb := Tb_all _ [92, 94] rfl rfl
set_option maxRecDepth 20000 in
theorem inX4 : ∀ w ∈ u_ws RX4 TX4 2, w ∈ Tb := Tb_all _ [111, 113] rfl rfl
set_option maxRecDepth 20000 in
theorem inX5 : ∀ w ∈ u_ws RX5 TX5 3, w ∈ Tb := Tb_all _ [182, 184, 186] rfl rfl
set_option maxRecDepth 20000 in
theorem inX6 : ∀ w ∈ u_ws RX6 TX6 2, w ∈ Tb := Tb_all _ [78, 80] rfl rfl
set_option maxRecDepth 20000 in
theorem inX7 : ∀ w ∈ u_ws RX7 TX7 7, w ∈ Tb := Tb_all _ [480, 482, 484, 486, 488, 490, 492] rfl rfl
set_option maxRecDepth 20000 in
theorem inX8 : ∀ w ∈ u_ws RX8 TX8 22, w ∈ Tb := Tb_all _ [742, 744, 746, 748, 750, 752, 754, 756, 758, 760, 762, 764, 766, 768, 770, 772, 774, 776, 778, 780, 782, 784] rfl rfl
abbrev mcl : List vw_C := [(RX0, TX0, 4), (RX1, TX1, 4), (RX2, TX2, 3), (RX3, TX3, 2), (RX4, TX4, 2), (RX5, TX5, 3), (RX6, TX6, 2), (RX7, TX7, 7), (RX8, TX8, 22)]
/-- a class of the worlds: its words stand in the tables, its fields have types and names of their own -/
def clOK (q : vw_C) : Prop := (∀ w ∈ u_ws q.1 q.2.1 q.2.2, w ∈ Tb) ∧ ∃ ty : Nat → FieldType, (∀ k, k < q.2.2 → parseFieldDescriptor (q.2.1 k).2.2.1 = some (ty k)) ∧ ∀ a, a < q.2.2 → ∀ b, b < q.2.2 → a ≠ b → (q.2.1 a).2.1 ≠ (q.2.1 b).2.1
theorem mcl_ok : ∀ q ∈ mcl, clOK q := List.forall_mem_cons.mpr ⟨⟨inX0, tyX0, tyX0_ok, nmX0⟩, List.forall_mem_cons.mpr ⟨⟨inX1, tyX1, tyX1_ok, nmX1⟩, List.forall_mem_cons.mpr ⟨⟨inX2, tyX2, tyX2_ok, nmX2⟩, List.forall_mem_cons.mpr ⟨⟨inX3, tyX3, tyX3_ok, nmX3⟩, List.forall_mem_cons.mpr ⟨⟨inX4, tyX4, tyX4_ok, nmX4⟩, List.forall_mem_cons.mpr ⟨⟨inX5, tyX5, tyX5_ok, nmX5⟩, List.forall_mem_cons.mpr ⟨⟨inX6, tyX6, tyX6_ok, nmX6⟩, List.forall_mem_cons.mpr ⟨⟨inX7, tyX7, tyX7_ok, nmX7⟩, List.forall_mem_cons.mpr ⟨⟨inX8, tyX8, tyX8_ok, nmX8⟩, fun _ h => absurd h List.not_mem_nil⟩⟩⟩⟩⟩⟩⟩⟩⟩
