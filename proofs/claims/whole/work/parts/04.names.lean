/-! classes and their fields, by program out of javap -/
def kR0 : String := "LockTable$Locks"
def kT0 : u_T := fun k => match k with
  | 0 => ("LockTable$Locks", "tableModes", "[I", true)
  | 1 => ("LockTable$Locks", "owners", "[I", true)
  | 2 => ("LockTable$Locks", "tables", "[I", true)
  | 3 => ("LockTable$Locks", "lows", "[J", true)
  | 4 => ("LockTable$Locks", "highs", "[J", true)
  | 5 => ("LockTable$Locks", "modes", "[I", true)
  | _ => ("LockTable$Locks", "count", "I", false)
def kt0 : Nat → FieldType := fun k => match k with
  | 0 => .array .int
  | 1 => .array .int
  | 2 => .array .int
  | 3 => .array .long
  | 4 => .array .long
  | 5 => .array .int
  | _ => .int
theorem kn0 : ∀ a, a < 7 → ∀ b, b < 7 → a ≠ b → (kT0 a).2.1 ≠ (kT0 b).2.1 := by decide +kernel
theorem ko0 : ∀ k, k < 7 → parseFieldDescriptor (kT0 k).2.2.1 = some (kt0 k) := by decide +kernel
theorem kw0 : ∀ w ∈ u_ws kR0 kT0 7, w ∈ w_all := by decide +kernel
def kR1 : String := "LockTable$Requests"
def kT1 : u_T := fun k => match k with
  | 0 => ("LockTable$Requests", "tables", "[I", true)
  | 1 => ("LockTable$Requests", "onRange", "[Z", true)
  | 2 => ("LockTable$Requests", "lows", "[J", true)
  | 3 => ("LockTable$Requests", "highs", "[J", true)
  | 4 => ("LockTable$Requests", "modes", "[I", true)
  | 5 => ("LockTable$Requests", "inner", "[Z", true)
  | 6 => ("LockTable$Requests", "escalating", "[Z", true)
  | 7 => ("LockTable$Requests", "since", "[I", true)
  | 8 => ("LockTable$Requests", "line", "[I", true)
  | 9 => ("LockTable$Requests", "waiting", "I", false)
  | 10 => ("LockTable$Requests", "arrivals", "[I", true)
  | _ => ("LockTable$Requests", "arrived", "I", false)
def kt1 : Nat → FieldType := fun k => match k with
  | 0 => .array .int
  | 1 => .array .boolean
  | 2 => .array .long
  | 3 => .array .long
  | 4 => .array .int
  | 5 => .array .boolean
  | 6 => .array .boolean
  | 7 => .array .int
  | 8 => .array .int
  | 9 => .int
  | 10 => .array .int
  | _ => .int
theorem kn1 : ∀ a, a < 12 → ∀ b, b < 12 → a ≠ b → (kT1 a).2.1 ≠ (kT1 b).2.1 := by decide +kernel
theorem ko1 : ∀ k, k < 12 → parseFieldDescriptor (kT1 k).2.2.1 = some (kt1 k) := by decide +kernel
theorem kw1 : ∀ w ∈ u_ws kR1 kT1 12, w ∈ w_all := by decide +kernel
def kR2 : String := "LockTable"
def kT2 : u_T := fun k => match k with
  | 0 => ("LockTable", "states", "[I", true)
  | 1 => ("LockTable", "serials", "[I", true)
  | 2 => ("LockTable", "locks", "LLockTable$Locks;", true)
  | 3 => ("LockTable", "requests", "LLockTable$Requests;", true)
  | 4 => ("LockTable", "reached", "[I", true)
  | 5 => ("LockTable", "grants", "[I", true)
  | 6 => ("LockTable", "grantCount", "I", false)
  | 7 => ("LockTable", "caller", "I", false)
  | 8 => ("LockTable", "lastSerial", "I", false)
  | 9 => ("LockTable", "timeLimit", "I", false)
  | _ => ("LockTable", "now", "I", false)
def kt2 : Nat → FieldType := fun k => match k with
  | 0 => .array .int
  | 1 => .array .int
  | 2 => .object "LockTable$Locks"
  | 3 => .object "LockTable$Requests"
  | 4 => .array .int
  | 5 => .array .int
  | 6 => .int
  | 7 => .int
  | 8 => .int
  | 9 => .int
  | _ => .int
theorem kn2 : ∀ a, a < 11 → ∀ b, b < 11 → a ≠ b → (kT2 a).2.1 ≠ (kT2 b).2.1 := by decide +kernel
theorem ko2 : ∀ k, k < 11 → parseFieldDescriptor (kT2 k).2.2.1 = some (kt2 k) := by decide +kernel
theorem kw2 : ∀ w ∈ u_ws kR2 kT2 11, w ∈ w_all := by decide +kernel
def kR3 : String := "LockTableModel"
def kT3 : u_T := fun k => match k with
  | 0 => ("LockTableModel", "thrown", "I", false)
  | 1 => ("LockTableModel", "states", "[I", true)
  | 2 => ("LockTableModel", "serials", "[I", true)
  | 3 => ("LockTableModel", "latest", "I", false)
  | 4 => ("LockTableModel", "modes", "[I", true)
  | 5 => ("LockTableModel", "rangeCount", "I", false)
  | 6 => ("LockTableModel", "rangeOwner", "[I", true)
  | 7 => ("LockTableModel", "rangeTable", "[I", true)
  | 8 => ("LockTableModel", "rangeMode", "[I", true)
  | 9 => ("LockTableModel", "rangeLow", "[J", true)
  | 10 => ("LockTableModel", "rangeHigh", "[J", true)
  | 11 => ("LockTableModel", "wantKind", "[I", true)
  | 12 => ("LockTableModel", "wantTable", "[I", true)
  | 13 => ("LockTableModel", "wantMode", "[I", true)
  | 14 => ("LockTableModel", "wantLow", "[J", true)
  | 15 => ("LockTableModel", "wantHigh", "[J", true)
  | 16 => ("LockTableModel", "wantInner", "[Z", true)
  | 17 => ("LockTableModel", "wantCame", "[I", true)
  | 18 => ("LockTableModel", "wantTicks", "[I", true)
  | 19 => ("LockTableModel", "arrivals", "I", false)
  | 20 => ("LockTableModel", "limit", "I", false)
  | 21 => ("LockTableModel", "grants", "I", false)
  | 22 => ("LockTableModel", "grantedOwners", "[I", true)
  | 23 => ("LockTableModel", "reach", "[I", true)
  | _ => ("LockTableModel", "freed", "Z", false)
def kt3 : Nat → FieldType := fun k => match k with
  | 0 => .int
  | 1 => .array .int
  | 2 => .array .int
  | 3 => .int
  | 4 => .array .int
  | 5 => .int
  | 6 => .array .int
  | 7 => .array .int
  | 8 => .array .int
  | 9 => .array .long
  | 10 => .array .long
  | 11 => .array .int
  | 12 => .array .int
  | 13 => .array .int
  | 14 => .array .long
  | 15 => .array .long
  | 16 => .array .boolean
  | 17 => .array .int
  | 18 => .array .int
  | 19 => .int
  | 20 => .int
  | 21 => .int
  | 22 => .array .int
  | 23 => .array .int
  | _ => .boolean
theorem kn3 : ∀ a, a < 25 → ∀ b, b < 25 → a ≠ b → (kT3 a).2.1 ≠ (kT3 b).2.1 := by decide +kernel
theorem ko3 : ∀ k, k < 25 → parseFieldDescriptor (kT3 k).2.2.1 = some (kt3 k) := by decide +kernel
theorem kw3 : ∀ w ∈ u_ws kR3 kT3 25, w ∈ w_all := by decide +kernel
abbrev kcl : List vw_C := [(kR0, kT0, 7), (kR1, kT1, 12), (kR2, kT2, 11), (kR3, kT3, 25)]
def kStr : List (Nat × String) := [(207, "there is no such owner"), (52, "the owner is not idle"), (209, "there is no such table"), (211, "there is no such mode"), (219, "the owner does not work"), (213, "low is above high"), (215, "a range is locked in S, U or X"), (103, "the table is not held as the range needs it"), (125, "the owner has no range lock on the table"), (221, "the owner does not wait"), (146, "the owner is idle"), (217, "ticks are 0 to 1000"), (179, "there is no such thing to ask for")]
