/-! Names: the fields of each kind of object, the methods, the words of the tables that are used (by program, wip/whole/gen.py). -/
def q_T0 : u_T := fun k => match k with
  | 0 => ("RedoQuorum", "log", "LRedoQuorum$Log;", true)
  | 1 => ("RedoQuorum", "transactions", "LRedoQuorum$Transactions;", true)
  | 2 => ("RedoQuorum", "groups", "[LRedoQuorum$Group;", true)
  | 3 => ("RedoQuorum", "cache", "LRedoQuorum$Cache;", true)
  | 4 => ("RedoQuorum", "views", "[I", true)
  | 5 => ("RedoQuorum", "up", "Z", false)
  | _ => ("RedoQuorum", "durable", "I", false)
def q_y0 : Nat → FieldType := fun k => match k with
  | 0 => .object "RedoQuorum$Log"
  | 1 => .object "RedoQuorum$Transactions"
  | 2 => .array (.object "RedoQuorum$Group")
  | 3 => .object "RedoQuorum$Cache"
  | 4 => .array .int
  | 5 => .boolean
  | _ => .int
def q_T1 : u_T := fun k => match k with
  | 0 => ("RedoQuorum$Log", "kind", "[I", true)
  | 1 => ("RedoQuorum$Log", "owner", "[I", true)
  | 2 => ("RedoQuorum$Log", "key", "[I", true)
  | 3 => ("RedoQuorum$Log", "value", "[I", true)
  | 4 => ("RedoQuorum$Log", "group", "[I", true)
  | 5 => ("RedoQuorum$Log", "end", "[I", true)
  | _ => ("RedoQuorum$Log", "size", "I", false)
def q_y1 : Nat → FieldType := fun k => match k with
  | 0 => .array .int
  | 1 => .array .int
  | 2 => .array .int
  | 3 => .array .int
  | 4 => .array .int
  | 5 => .array .int
  | _ => .int
def q_T2 : u_T := fun k => match k with
  | 0 => ("RedoQuorum$Transactions", "active", "[Z", true)
  | 1 => ("RedoQuorum$Transactions", "holder", "[I", true)
  | 2 => ("RedoQuorum$Transactions", "begun", "I", false)
  | _ => ("RedoQuorum$Transactions", "activeCount", "I", false)
def q_y2 : Nat → FieldType := fun k => match k with
  | 0 => .array .boolean
  | 1 => .array .int
  | 2 => .int
  | _ => .int
def q_T3 : u_T := fun k => match k with
  | _ => ("RedoQuorum$Group", "copies", "[LRedoQuorum$StorageCopy;", true)
def q_y3 : Nat → FieldType := fun k => match k with
  | _ => .array (.object "RedoQuorum$StorageCopy")
def q_T4 : u_T := fun k => match k with
  | 0 => ("RedoQuorum$StorageCopy", "group", "I", true)
  | 1 => ("RedoQuorum$StorageCopy", "held", "[Z", true)
  | 2 => ("RedoQuorum$StorageCopy", "state", "I", false)
  | 3 => ("RedoQuorum$StorageCopy", "fold", "I", false)
  | _ => ("RedoQuorum$StorageCopy", "reported", "I", false)
def q_y4 : Nat → FieldType := fun k => match k with
  | 0 => .int
  | 1 => .array .boolean
  | 2 => .int
  | 3 => .int
  | _ => .int
def q_T5 : u_T := fun k => match k with
  | 0 => ("RedoQuorum$Cache", "pages", "[I", true)
  | _ => ("RedoQuorum$Cache", "count", "I", false)
def q_y5 : Nat → FieldType := fun k => match k with
  | 0 => .array .int
  | _ => .int
def q_T6 : u_T := fun k => match k with
  | 0 => ("RedoQuorumModel", "n", "I", false)
  | 1 => ("RedoQuorumModel", "owner", "[I", false)
  | 2 => ("RedoQuorumModel", "keyOf", "[I", false)
  | 3 => ("RedoQuorumModel", "valueOf", "[I", false)
  | 4 => ("RedoQuorumModel", "ends", "[I", false)
  | 5 => ("RedoQuorumModel", "closes", "[Z", false)
  | 6 => ("RedoQuorumModel", "holds", "[Z", false)
  | 7 => ("RedoQuorumModel", "stateOf", "[I", false)
  | 8 => ("RedoQuorumModel", "fold", "[I", false)
  | 9 => ("RedoQuorumModel", "reported", "[I", false)
  | 10 => ("RedoQuorumModel", "down", "Z", false)
  | 11 => ("RedoQuorumModel", "durable", "I", false)
  | 12 => ("RedoQuorumModel", "begun", "I", false)
  | 13 => ("RedoQuorumModel", "active", "[Z", false)
  | 14 => ("RedoQuorumModel", "heldBy", "[I", false)
  | 15 => ("RedoQuorumModel", "cache", "[I", false)
  | 16 => ("RedoQuorumModel", "pages", "I", false)
  | _ => ("RedoQuorumModel", "views", "[I", false)
def q_y6 : Nat → FieldType := fun k => match k with
  | 0 => .int
  | 1 => .array .int
  | 2 => .array .int
  | 3 => .array .int
  | 4 => .array .int
  | 5 => .array .boolean
  | 6 => .array .boolean
  | 7 => .array .int
  | 8 => .array .int
  | 9 => .array .int
  | 10 => .boolean
  | 11 => .int
  | 12 => .int
  | 13 => .array .boolean
  | 14 => .array .int
  | 15 => .array .int
  | 16 => .int
  | _ => .array .int
def q_cl : List vw_C := [("RedoQuorum", q_T0, 7), ("RedoQuorum$Log", q_T1, 7), ("RedoQuorum$Transactions", q_T2, 4), ("RedoQuorum$Group", q_T3, 1), ("RedoQuorum$StorageCopy", q_T4, 5), ("RedoQuorum$Cache", q_T5, 2), ("RedoQuorumModel", q_T6, 18)]
def q_tys : List FieldType := [.int, .boolean, .object "RedoQuorum$Group", .object "RedoQuorum$StorageCopy"]
