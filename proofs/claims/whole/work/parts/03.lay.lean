/-! The layout of the abstract memory: printed by program out of the claim's own classes. -/
def g_R0 : String := "BurningSlips$Bills"
def g_T0 : u_T := fun k => match k with
  | 0 => ("BurningSlips$Bills", "lines", "LBurningSlips$Lines;", true)
  | 1 => ("BurningSlips$Bills", "wallNames", "[J", true)
  | 2 => ("BurningSlips$Bills", "wallNumbers", "[I", true)
  | 3 => ("BurningSlips$Bills", "billNames", "[J", true)
  | 4 => ("BurningSlips$Bills", "firstLines", "[I", true)
  | 5 => ("BurningSlips$Bills", "lineCounts", "[I", true)
  | 6 => ("BurningSlips$Bills", "taken", "[I", true)
  | 7 => ("BurningSlips$Bills", "slipCounts", "[I", true)
  | 8 => ("BurningSlips$Bills", "wrongs", "[I", true)
  | 9 => ("BurningSlips$Bills", "wrongLines", "[I", true)
  | 10 => ("BurningSlips$Bills", "wrongSlips", "[I", true)
  | 11 => ("BurningSlips$Bills", "sound", "[I", true)
  | 12 => ("BurningSlips$Bills", "wallCount", "I", false)
  | _ => ("BurningSlips$Bills", "billCount", "I", false)
def g_t0 : Nat → FieldType := fun k => match k with
  | 0 => .object "BurningSlips$Lines"
  | 1 => .array .long
  | 2 => .array .int
  | 3 => .array .long
  | 4 => .array .int
  | 5 => .array .int
  | 6 => .array .int
  | 7 => .array .int
  | 8 => .array .int
  | 9 => .array .int
  | 10 => .array .int
  | 11 => .array .int
  | 12 => .int
  | _ => .int
theorem g_n0 : ∀ a, a < 14 → ∀ b, b < 14 → a ≠ b → (g_T0 a).2.1 ≠ (g_T0 b).2.1 := by decide +kernel
theorem g_p0 : ∀ k, k < 14 → parseFieldDescriptor (g_T0 k).2.2.1 = some (g_t0 k) := by decide +kernel
def g_R1 : String := "BurningSlips$Checker"
def g_T1 : u_T := fun k => match k with
  | 0 => ("BurningSlips$Checker", "onceAtIf", "[I", true)
  | 1 => ("BurningSlips$Checker", "mostAtIf", "[I", true)
  | 2 => ("BurningSlips$Checker", "onceAtElse", "[I", true)
  | 3 => ("BurningSlips$Checker", "mostAtElse", "[I", true)
  | 4 => ("BurningSlips$Checker", "elseLines", "[I", true)
  | 5 => ("BurningSlips$Checker", "once", "I", false)
  | 6 => ("BurningSlips$Checker", "most", "I", false)
  | 7 => ("BurningSlips$Checker", "deep", "I", false)
  | 8 => ("BurningSlips$Checker", "wrong", "I", false)
  | _ => ("BurningSlips$Checker", "wrongSlip", "I", false)
def g_t1 : Nat → FieldType := fun k => match k with
  | 0 => .array .int
  | 1 => .array .int
  | 2 => .array .int
  | 3 => .array .int
  | 4 => .array .int
  | 5 => .int
  | 6 => .int
  | 7 => .int
  | 8 => .int
  | _ => .int
theorem g_n1 : ∀ a, a < 10 → ∀ b, b < 10 → a ≠ b → (g_T1 a).2.1 ≠ (g_T1 b).2.1 := by decide +kernel
theorem g_p1 : ∀ k, k < 10 → parseFieldDescriptor (g_T1 k).2.2.1 = some (g_t1 k) := by decide +kernel
def g_R2 : String := "BurningSlips$Lines"
def g_T2 : u_T := fun k => match k with
  | 0 => ("BurningSlips$Lines", "kinds", "[I", true)
  | 1 => ("BurningSlips$Lines", "laid", "[I", true)
  | 2 => ("BurningSlips$Lines", "besides", "[I", true)
  | 3 => ("BurningSlips$Lines", "once", "[I", true)
  | 4 => ("BurningSlips$Lines", "called", "[I", true)
  | 5 => ("BurningSlips$Lines", "mates", "[I", true)
  | 6 => ("BurningSlips$Lines", "gone", "[I", true)
  | 7 => ("BurningSlips$Lines", "codeStarts", "[I", true)
  | 8 => ("BurningSlips$Lines", "codeStops", "[I", true)
  | 9 => ("BurningSlips$Lines", "codes", "[I", true)
  | 10 => ("BurningSlips$Lines", "count", "I", false)
  | _ => ("BurningSlips$Lines", "codeCount", "I", false)
def g_t2 : Nat → FieldType := fun k => match k with
  | 0 => .array .int
  | 1 => .array .int
  | 2 => .array .int
  | 3 => .array .int
  | 4 => .array .int
  | 5 => .array .int
  | 6 => .array .int
  | 7 => .array .int
  | 8 => .array .int
  | 9 => .array .int
  | 10 => .int
  | _ => .int
theorem g_n2 : ∀ a, a < 12 → ∀ b, b < 12 → a ≠ b → (g_T2 a).2.1 ≠ (g_T2 b).2.1 := by decide +kernel
theorem g_p2 : ∀ k, k < 12 → parseFieldDescriptor (g_T2 k).2.2.1 = some (g_t2 k) := by decide +kernel
def g_R3 : String := "BurningSlips$Machine"
def g_T3 : u_T := fun k => match k with
  | 0 => ("BurningSlips$Machine", "reckoner", "LBurningSlips$Reckoner;", true)
  | 1 => ("BurningSlips$Machine", "burns", "Z", true)
  | 2 => ("BurningSlips$Machine", "nextLines", "[I", true)
  | 3 => ("BurningSlips$Machine", "tables", "[I", true)
  | 4 => ("BurningSlips$Machine", "says", "[I", true)
  | 5 => ("BurningSlips$Machine", "worked", "I", false)
  | 6 => ("BurningSlips$Machine", "status", "I", false)
  | 7 => ("BurningSlips$Machine", "gift", "I", false)
  | 8 => ("BurningSlips$Machine", "highest", "I", false)
  | 9 => ("BurningSlips$Machine", "ash", "I", false)
  | 10 => ("BurningSlips$Machine", "coin", "I", false)
  | 11 => ("BurningSlips$Machine", "steps", "I", false)
  | 12 => ("BurningSlips$Machine", "room", "I", false)
  | _ => ("BurningSlips$Machine", "price", "I", false)
def g_t3 : Nat → FieldType := fun k => match k with
  | 0 => .object "BurningSlips$Reckoner"
  | 1 => .boolean
  | 2 => .array .int
  | 3 => .array .int
  | 4 => .array .int
  | 5 => .int
  | 6 => .int
  | 7 => .int
  | 8 => .int
  | 9 => .int
  | 10 => .int
  | 11 => .int
  | 12 => .int
  | _ => .int
theorem g_n3 : ∀ a, a < 14 → ∀ b, b < 14 → a ≠ b → (g_T3 a).2.1 ≠ (g_T3 b).2.1 := by decide +kernel
theorem g_p3 : ∀ k, k < 14 → parseFieldDescriptor (g_T3 k).2.2.1 = some (g_t3 k) := by decide +kernel
def g_R4 : String := "BurningSlips$Orders"
def g_T4 : u_T := fun k => match k with
  | 0 => ("BurningSlips$Orders", "stands", "[I", true)
  | 1 => ("BurningSlips$Orders", "behindSums", "[I", true)
  | 2 => ("BurningSlips$Orders", "readBy", "[I", true)
  | 3 => ("BurningSlips$Orders", "prices", "[I", true)
  | 4 => ("BurningSlips$Orders", "lying", "[I", true)
  | 5 => ("BurningSlips$Orders", "best", "[I", true)
  | 6 => ("BurningSlips$Orders", "counts", "[J", true)
  | 7 => ("BurningSlips$Orders", "taken", "I", false)
  | 8 => ("BurningSlips$Orders", "sums", "I", false)
  | _ => ("BurningSlips$Orders", "ready", "I", false)
def g_t4 : Nat → FieldType := fun k => match k with
  | 0 => .array .int
  | 1 => .array .int
  | 2 => .array .int
  | 3 => .array .int
  | 4 => .array .int
  | 5 => .array .int
  | 6 => .array .long
  | 7 => .int
  | 8 => .int
  | _ => .int
theorem g_n4 : ∀ a, a < 10 → ∀ b, b < 10 → a ≠ b → (g_T4 a).2.1 ≠ (g_T4 b).2.1 := by decide +kernel
theorem g_p4 : ∀ k, k < 10 → parseFieldDescriptor (g_T4 k).2.2.1 = some (g_t4 k) := by decide +kernel
def g_R5 : String := "BurningSlips$Reader"
def g_T5 : u_T := fun k => match k with
  | 0 => ("BurningSlips$Reader", "tape", "LBurningSlips$Tape;", true)
  | 1 => ("BurningSlips$Reader", "names", "[J", true)
  | 2 => ("BurningSlips$Reader", "open", "[I", true)
  | 3 => ("BurningSlips$Reader", "waiting", "[I", true)
  | 4 => ("BurningSlips$Reader", "bills", "LBurningSlips$Bills;", false)
  | 5 => ("BurningSlips$Reader", "lines", "LBurningSlips$Lines;", false)
  | 6 => ("BurningSlips$Reader", "slips", "I", false)
  | 7 => ("BurningSlips$Reader", "deep", "I", false)
  | 8 => ("BurningSlips$Reader", "waitingCount", "I", false)
  | 9 => ("BurningSlips$Reader", "within", "I", false)
  | 10 => ("BurningSlips$Reader", "fault", "I", false)
  | 11 => ("BurningSlips$Reader", "bill", "I", false)
  | 12 => ("BurningSlips$Reader", "line", "I", false)
  | _ => ("BurningSlips$Reader", "inBill", "Z", false)
def g_t5 : Nat → FieldType := fun k => match k with
  | 0 => .object "BurningSlips$Tape"
  | 1 => .array .long
  | 2 => .array .int
  | 3 => .array .int
  | 4 => .object "BurningSlips$Bills"
  | 5 => .object "BurningSlips$Lines"
  | 6 => .int
  | 7 => .int
  | 8 => .int
  | 9 => .int
  | 10 => .int
  | 11 => .int
  | 12 => .int
  | _ => .boolean
theorem g_n5 : ∀ a, a < 14 → ∀ b, b < 14 → a ≠ b → (g_T5 a).2.1 ≠ (g_T5 b).2.1 := by decide +kernel
theorem g_p5 : ∀ k, k < 14 → parseFieldDescriptor (g_T5 k).2.2.1 = some (g_t5 k) := by decide +kernel
def g_R6 : String := "BurningSlips$Reckoner"
def g_T6 : u_T := fun k => match k with
  | _ => ("BurningSlips$Reckoner", "stack", "[I", true)
def g_t6 : Nat → FieldType := fun k => match k with
  | _ => .array .int
theorem g_n6 : ∀ a, a < 1 → ∀ b, b < 1 → a ≠ b → (g_T6 a).2.1 ≠ (g_T6 b).2.1 := by decide +kernel
theorem g_p6 : ∀ k, k < 1 → parseFieldDescriptor (g_T6 k).2.2.1 = some (g_t6 k) := by decide +kernel
def g_R7 : String := "BurningSlips$Tape"
def g_T7 : u_T := fun k => match k with
  | 0 => ("BurningSlips$Tape", "signs", "[I", true)
  | 1 => ("BurningSlips$Tape", "reserved", "[J", true)
  | 2 => ("BurningSlips$Tape", "length", "I", false)
  | 3 => ("BurningSlips$Tape", "place", "I", false)
  | 4 => ("BurningSlips$Tape", "behind", "I", false)
  | 5 => ("BurningSlips$Tape", "kind", "I", false)
  | 6 => ("BurningSlips$Tape", "number", "I", false)
  | _ => ("BurningSlips$Tape", "word", "J", false)
def g_t7 : Nat → FieldType := fun k => match k with
  | 0 => .array .int
  | 1 => .array .long
  | 2 => .int
  | 3 => .int
  | 4 => .int
  | 5 => .int
  | 6 => .int
  | _ => .long
theorem g_n7 : ∀ a, a < 8 → ∀ b, b < 8 → a ≠ b → (g_T7 a).2.1 ≠ (g_T7 b).2.1 := by decide +kernel
theorem g_p7 : ∀ k, k < 8 → parseFieldDescriptor (g_T7 k).2.2.1 = some (g_t7 k) := by decide +kernel
def g_R8 : String := "BurningSlips$Ways"
def g_T8 : u_T := fun k => match k with
  | 0 => ("BurningSlips$Ways", "lowestAtIf", "[I", true)
  | 1 => ("BurningSlips$Ways", "highestAtIf", "[I", true)
  | 2 => ("BurningSlips$Ways", "lowestAtElse", "[I", true)
  | 3 => ("BurningSlips$Ways", "highestAtElse", "[I", true)
  | 4 => ("BurningSlips$Ways", "lacks", "[I", true)
  | 5 => ("BurningSlips$Ways", "trail", "[I", true)
  | 6 => ("BurningSlips$Ways", "settled", "[I", true)
  | 7 => ("BurningSlips$Ways", "found", "[I", true)
  | 8 => ("BurningSlips$Ways", "trailCount", "I", false)
  | 9 => ("BurningSlips$Ways", "onceSet", "I", false)
  | 10 => ("BurningSlips$Ways", "foundBill", "I", false)
  | 11 => ("BurningSlips$Ways", "lowest", "I", false)
  | _ => ("BurningSlips$Ways", "highest", "I", false)
def g_t8 : Nat → FieldType := fun k => match k with
  | 0 => .array .int
  | 1 => .array .int
  | 2 => .array .int
  | 3 => .array .int
  | 4 => .array .int
  | 5 => .array .int
  | 6 => .array .int
  | 7 => .array .int
  | 8 => .int
  | 9 => .int
  | 10 => .int
  | 11 => .int
  | _ => .int
theorem g_n8 : ∀ a, a < 13 → ∀ b, b < 13 → a ≠ b → (g_T8 a).2.1 ≠ (g_T8 b).2.1 := by decide +kernel
theorem g_p8 : ∀ k, k < 13 → parseFieldDescriptor (g_T8 k).2.2.1 = some (g_t8 k) := by decide +kernel
def g_R9 : String := "BurningSlips"
def g_T9 : u_T := fun k => match k with
  | 0 => ("BurningSlips", "tape", "LBurningSlips$Tape;", true)
  | 1 => ("BurningSlips", "reader", "LBurningSlips$Reader;", true)
  | 2 => ("BurningSlips", "checker", "LBurningSlips$Checker;", true)
  | 3 => ("BurningSlips", "machine", "LBurningSlips$Machine;", true)
  | 4 => ("BurningSlips", "freeMachine", "LBurningSlips$Machine;", true)
  | 5 => ("BurningSlips", "marks", "[LBurningSlips$Machine;", true)
  | 6 => ("BurningSlips", "ways", "LBurningSlips$Ways;", true)
  | 7 => ("BurningSlips", "orders", "LBurningSlips$Orders;", true)
  | 8 => ("BurningSlips", "told", "LBurningSlips$Bills;", false)
  | 9 => ("BurningSlips", "spare", "LBurningSlips$Bills;", false)
  | _ => ("BurningSlips", "laidMarks", "I", false)
def g_t9 : Nat → FieldType := fun k => match k with
  | 0 => .object "BurningSlips$Tape"
  | 1 => .object "BurningSlips$Reader"
  | 2 => .object "BurningSlips$Checker"
  | 3 => .object "BurningSlips$Machine"
  | 4 => .object "BurningSlips$Machine"
  | 5 => .array (.object "BurningSlips$Machine")
  | 6 => .object "BurningSlips$Ways"
  | 7 => .object "BurningSlips$Orders"
  | 8 => .object "BurningSlips$Bills"
  | 9 => .object "BurningSlips$Bills"
  | _ => .int
theorem g_n9 : ∀ a, a < 11 → ∀ b, b < 11 → a ≠ b → (g_T9 a).2.1 ≠ (g_T9 b).2.1 := by decide +kernel
theorem g_p9 : ∀ k, k < 11 → parseFieldDescriptor (g_T9 k).2.2.1 = some (g_t9 k) := by decide +kernel
def g_R10 : String := "BurningSlipsModel"
def g_T10 : u_T := fun k => match k with
  | 0 => ("BurningSlipsModel", "thrown", "I", false)
  | 1 => ("BurningSlipsModel", "taped", "I", false)
  | 2 => ("BurningSlipsModel", "tape", "[I", true)
  | 3 => ("BurningSlipsModel", "size", "I", false)
  | 4 => ("BurningSlipsModel", "place", "I", false)
  | 5 => ("BurningSlipsModel", "begin", "I", false)
  | 6 => ("BurningSlipsModel", "token", "I", false)
  | 7 => ("BurningSlipsModel", "word", "J", false)
  | 8 => ("BurningSlipsModel", "told", "I", false)
  | 9 => ("BurningSlipsModel", "wrong", "I", false)
  | 10 => ("BurningSlipsModel", "kind", "[I", true)
  | 11 => ("BurningSlipsModel", "lays", "[I", true)
  | 12 => ("BurningSlipsModel", "laysToo", "[I", true)
  | 13 => ("BurningSlipsModel", "keeping", "[I", true)
  | 14 => ("BurningSlipsModel", "callee", "[I", true)
  | 15 => ("BurningSlipsModel", "source", "[I", true)
  | 16 => ("BurningSlipsModel", "elseOf", "[I", true)
  | 17 => ("BurningSlipsModel", "endOf", "[I", true)
  | 18 => ("BurningSlipsModel", "lineFrom", "[I", true)
  | 19 => ("BurningSlipsModel", "lineTo", "[I", true)
  | 20 => ("BurningSlipsModel", "codes", "[I", true)
  | 21 => ("BurningSlipsModel", "many", "[I", true)
  | 22 => ("BurningSlipsModel", "wallName", "[J", true)
  | 23 => ("BurningSlipsModel", "walls", "[I", true)
  | 24 => ("BurningSlipsModel", "billName", "[J", true)
  | 25 => ("BurningSlipsModel", "firstLine", "[I", true)
  | 26 => ("BurningSlipsModel", "lineCount", "[I", true)
  | 27 => ("BurningSlipsModel", "takeCount", "[I", true)
  | 28 => ("BurningSlipsModel", "slipCount", "[I", true)
  | 29 => ("BurningSlipsModel", "slipName", "[J", true)
  | 30 => ("BurningSlipsModel", "code", "I", false)
  | 31 => ("BurningSlipsModel", "opened", "[I", true)
  | 32 => ("BurningSlipsModel", "compared", "[Z", true)
  | 33 => ("BurningSlipsModel", "kept", "[I", true)
  | 34 => ("BurningSlipsModel", "keptBy", "[I", true)
  | 35 => ("BurningSlipsModel", "ahead", "[I", true)
  | 36 => ("BurningSlipsModel", "against", "[I", true)
  | 37 => ("BurningSlipsModel", "sum", "[I", true)
  | 38 => ("BurningSlipsModel", "sumBy", "[I", true)
  | 39 => ("BurningSlipsModel", "term", "[I", true)
  | 40 => ("BurningSlipsModel", "termBy", "[I", true)
  | 41 => ("BurningSlipsModel", "byNot", "[I", true)
  | 42 => ("BurningSlipsModel", "valueOf", "[I", true)
  | 43 => ("BurningSlipsModel", "isOpen", "Z", false)
  | 44 => ("BurningSlipsModel", "isPastTakes", "Z", false)
  | 45 => ("BurningSlipsModel", "deep", "I", false)
  | 46 => ("BurningSlipsModel", "ifAt", "[I", true)
  | 47 => ("BurningSlipsModel", "hasElse", "[Z", true)
  | 48 => ("BurningSlipsModel", "table", "[I", true)
  | 49 => ("BurningSlipsModel", "behindIf", "[I", true)
  | 50 => ("BurningSlipsModel", "atElse", "[I", true)
  | 51 => ("BurningSlipsModel", "wrongIs", "[I", true)
  | 52 => ("BurningSlipsModel", "wrongLine", "[I", true)
  | 53 => ("BurningSlipsModel", "wrongSlip", "[I", true)
  | 54 => ("BurningSlipsModel", "joined", "[I", true)
  | 55 => ("BurningSlipsModel", "roomIs", "I", false)
  | 56 => ("BurningSlipsModel", "priceIs", "I", false)
  | 57 => ("BurningSlipsModel", "status", "I", false)
  | 58 => ("BurningSlipsModel", "frames", "I", false)
  | 59 => ("BurningSlipsModel", "frameBill", "[I", true)
  | 60 => ("BurningSlipsModel", "frameLine", "[I", true)
  | 61 => ("BurningSlipsModel", "frameOn", "[I", true)
  | 62 => ("BurningSlipsModel", "frameValue", "[I", true)
  | 63 => ("BurningSlipsModel", "peak", "I", false)
  | 64 => ("BurningSlipsModel", "ash", "I", false)
  | 65 => ("BurningSlipsModel", "coin", "I", false)
  | 66 => ("BurningSlipsModel", "steps", "I", false)
  | 67 => ("BurningSlipsModel", "gift", "I", false)
  | 68 => ("BurningSlipsModel", "carried", "[I", true)
  | 69 => ("BurningSlipsModel", "freeBill", "[I", true)
  | 70 => ("BurningSlipsModel", "freeLine", "[I", true)
  | 71 => ("BurningSlipsModel", "freeOn", "[I", true)
  | 72 => ("BurningSlipsModel", "freeValue", "[I", true)
  | 73 => ("BurningSlipsModel", "freeFrames", "I", false)
  | 74 => ("BurningSlipsModel", "gift0", "I", false)
  | 75 => ("BurningSlipsModel", "over", "[I", true)
  | 76 => ("BurningSlipsModel", "isOnce", "[Z", true)
  | 77 => ("BurningSlipsModel", "fewest0", "I", false)
  | 78 => ("BurningSlipsModel", "most0", "I", false)
  | 79 => ("BurningSlipsModel", "sums", "I", false)
  | 80 => ("BurningSlipsModel", "sumLine", "[I", true)
  | 81 => ("BurningSlipsModel", "needsSums", "[I", true)
  | 82 => ("BurningSlipsModel", "readers", "[I", true)
  | 83 => ("BurningSlipsModel", "isGiven", "[Z", true)
  | 84 => ("BurningSlipsModel", "laidBy", "[I", true)
  | 85 => ("BurningSlipsModel", "least", "[I", true)
  | 86 => ("BurningSlipsModel", "ordersOf", "[J", true)
  | 87 => ("BurningSlipsModel", "oneMore", "[J", true)
  | 88 => ("BurningSlipsModel", "isLaid", "[Z", true)
  | 89 => ("BurningSlipsModel", "marked", "[I", true)
  | _ => ("BurningSlipsModel", "markAt", "I", false)
def g_t10 : Nat → FieldType := fun k => match k with
  | 0 => .int
  | 1 => .int
  | 2 => .array .int
  | 3 => .int
  | 4 => .int
  | 5 => .int
  | 6 => .int
  | 7 => .long
  | 8 => .int
  | 9 => .int
  | 10 => .array .int
  | 11 => .array .int
  | 12 => .array .int
  | 13 => .array .int
  | 14 => .array .int
  | 15 => .array .int
  | 16 => .array .int
  | 17 => .array .int
  | 18 => .array .int
  | 19 => .array .int
  | 20 => .array .int
  | 21 => .array .int
  | 22 => .array .long
  | 23 => .array .int
  | 24 => .array .long
  | 25 => .array .int
  | 26 => .array .int
  | 27 => .array .int
  | 28 => .array .int
  | 29 => .array .long
  | 30 => .int
  | 31 => .array .int
  | 32 => .array .boolean
  | 33 => .array .int
  | 34 => .array .int
  | 35 => .array .int
  | 36 => .array .int
  | 37 => .array .int
  | 38 => .array .int
  | 39 => .array .int
  | 40 => .array .int
  | 41 => .array .int
  | 42 => .array .int
  | 43 => .boolean
  | 44 => .boolean
  | 45 => .int
  | 46 => .array .int
  | 47 => .array .boolean
  | 48 => .array .int
  | 49 => .array .int
  | 50 => .array .int
  | 51 => .array .int
  | 52 => .array .int
  | 53 => .array .int
  | 54 => .array .int
  | 55 => .int
  | 56 => .int
  | 57 => .int
  | 58 => .int
  | 59 => .array .int
  | 60 => .array .int
  | 61 => .array .int
  | 62 => .array .int
  | 63 => .int
  | 64 => .int
  | 65 => .int
  | 66 => .int
  | 67 => .int
  | 68 => .array .int
  | 69 => .array .int
  | 70 => .array .int
  | 71 => .array .int
  | 72 => .array .int
  | 73 => .int
  | 74 => .int
  | 75 => .array .int
  | 76 => .array .boolean
  | 77 => .int
  | 78 => .int
  | 79 => .int
  | 80 => .array .int
  | 81 => .array .int
  | 82 => .array .int
  | 83 => .array .boolean
  | 84 => .array .int
  | 85 => .array .int
  | 86 => .array .long
  | 87 => .array .long
  | 88 => .array .boolean
  | 89 => .array .int
  | _ => .int
theorem g_n10 : ∀ a, a < 91 → ∀ b, b < 91 → a ≠ b → (g_T10 a).2.1 ≠ (g_T10 b).2.1 := by decide +kernel
theorem g_p10 : ∀ k, k < 91 → parseFieldDescriptor (g_T10 k).2.2.1 = some (g_t10 k) := by decide +kernel
def g_cl : List vw_C := [(g_R0, g_T0, 14), (g_R1, g_T1, 10), (g_R2, g_T2, 12), (g_R3, g_T3, 14), (g_R4, g_T4, 10), (g_R5, g_T5, 14), (g_R6, g_T6, 1), (g_R7, g_T7, 8), (g_R8, g_T8, 13), (g_R9, g_T9, 11), (g_R10, g_T10, 91)]
/-- the fields of each class: kind and where it points -/
def g_ft : List (List (Nat × Int)) := [
  [(4, 1), (4, 12), (4, 13), (4, 14), (4, 15), (4, 16), (4, 17), (4, 18), (4, 19), (4, 20), (4, 21), (4, 22), (0, 0), (0, 0)],
  [(4, 1), (4, 2), (4, 3), (4, 4), (4, 5), (0, 0), (0, 0), (0, 0), (0, 0), (0, 0)],
  [(4, 1), (4, 2), (4, 3), (4, 4), (4, 5), (4, 6), (4, 7), (4, 8), (4, 9), (4, 10), (0, 0), (0, 0)],
  [(5, 40), (2, 0), (4, 1), (4, 2), (4, 3), (0, 0), (0, 0), (0, 0), (0, 0), (0, 0), (0, 0), (0, 0), (0, 0), (0, 0)],
  [(4, 1), (4, 2), (4, 3), (4, 4), (4, 5), (4, 6), (4, 7), (0, 0), (0, 0), (0, 0)],
  [(5, 10), (4, 1), (4, 2), (4, 3), (3, 0), (3, 0), (0, 0), (0, 0), (0, 0), (0, 0), (0, 0), (0, 0), (0, 0), (2, 0)],
  [(4, 1)],
  [(4, 1), (4, 2), (0, 0), (0, 0), (0, 0), (0, 0), (0, 0), (1, 0)],
  [(4, 1), (4, 2), (4, 3), (4, 4), (4, 5), (4, 6), (4, 7), (4, 8), (0, 0), (0, 0), (0, 0), (0, 0), (0, 0)],
  [(5, 10), (5, 20), (5, 30), (5, 300), (5, 310), (5, 70), (5, 50), (5, 60), (3, 0), (3, 0), (0, 0)],
  [(0, 0), (0, 0), (4, 1), (0, 0), (0, 0), (0, 0), (0, 0), (1, 0), (0, 0), (0, 0), (4, 2), (4, 3), (4, 4), (4, 5), (4, 6), (4, 7), (4, 8), (4, 9), (4, 10), (4, 11), (4, 12), (4, 13), (4, 14), (4, 15), (4, 16), (4, 17), (4, 18), (4, 19), (4, 20), (4, 21), (0, 0), (4, 22), (4, 23), (4, 24), (4, 25), (4, 26), (4, 27), (4, 28), (4, 29), (4, 30), (4, 31), (4, 32), (4, 33), (2, 0), (2, 0), (0, 0), (4, 34), (4, 35), (4, 36), (4, 37), (4, 38), (4, 39), (4, 40), (4, 41), (4, 42), (0, 0), (0, 0), (0, 0), (0, 0), (4, 43), (4, 44), (4, 45), (4, 46), (0, 0), (0, 0), (0, 0), (0, 0), (0, 0), (4, 47), (4, 48), (4, 49), (4, 50), (4, 51), (0, 0), (0, 0), (4, 52), (4, 53), (0, 0), (0, 0), (0, 0), (4, 54), (4, 55), (4, 56), (4, 57), (4, 58), (4, 59), (4, 60), (4, 61), (4, 62), (4, 63), (0, 0)]]
/-- the cells: number, kind (0 int[] 1 long[] 2 boolean[] 3 Machine[] 10+c object), length -/
def g_lay : List (Int × Nat × Nat) := [(1000, 20, 0), (1001, 0, 1000), (1002, 0, 120), (1003, 0, 120), (1004, 0, 120), (1005, 0, 120), (1006, 0, 120), (1007, 0, 480), (1008, 0, 120), (1009, 0, 120), (1010, 0, 120), (1011, 0, 120), (1012, 0, 2000), (1013, 0, 6), (1014, 1, 4), (1015, 0, 8), (1016, 1, 4), (1017, 0, 8), (1018, 0, 8), (1019, 0, 8), (1020, 0, 8), (1021, 1, 10), (1022, 0, 7), (1023, 2, 7), (1024, 0, 7), (1025, 0, 7), (1026, 0, 7), (1027, 0, 7), (1028, 0, 7), (1029, 0, 7), (1030, 0, 7), (1031, 0, 7), (1032, 0, 7), (1033, 0, 20), (1034, 0, 3), (1035, 2, 3), (1036, 0, 10), (1037, 0, 30), (1038, 0, 30), (1039, 0, 4), (1040, 0, 4), (1041, 0, 4), (1042, 0, 60), (1043, 0, 16), (1044, 0, 16), (1045, 0, 16), (1046, 0, 160), (1047, 0, 4), (1048, 0, 16), (1049, 0, 16), (1050, 0, 16), (1051, 0, 160), (1052, 0, 10), (1053, 2, 10), (1054, 0, 60), (1055, 0, 12), (1056, 0, 10), (1057, 2, 10), (1058, 0, 10), (1059, 0, 4096), (1060, 1, 4096), (1061, 1, 10), (1062, 2, 4), (1063, 0, 960), (0, 19, 0), (10, 17, 0), (11, 0, 1000), (12, 1, 17), (20, 15, 0), (21, 1, 10), (22, 0, 3), (23, 0, 64), (30, 11, 0), (31, 0, 3), (32, 0, 3), (33, 0, 3), (34, 0, 3), (35, 0, 3), (40, 16, 0), (41, 0, 64), (50, 18, 0), (51, 0, 3), (52, 0, 3), (53, 0, 3), (54, 0, 3), (55, 0, 10), (56, 0, 60), (57, 0, 60), (58, 0, 4), (60, 14, 0), (61, 0, 110), (62, 0, 10), (63, 0, 10), (64, 0, 10), (65, 0, 1024), (66, 0, 1024), (67, 1, 1024), (100, 10, 0), (112, 1, 4), (113, 0, 4), (114, 1, 4), (115, 0, 4), (116, 0, 4), (117, 0, 4), (118, 0, 4), (119, 0, 4), (120, 0, 4), (121, 0, 4), (122, 0, 4), (101, 12, 0), (102, 0, 60), (103, 0, 60), (104, 0, 60), (105, 0, 60), (106, 0, 60), (107, 0, 60), (108, 0, 60), (109, 0, 60), (110, 0, 60), (111, 0, 1000), (200, 10, 0), (212, 1, 4), (213, 0, 4), (214, 1, 4), (215, 0, 4), (216, 0, 4), (217, 0, 4), (218, 0, 4), (219, 0, 4), (220, 0, 4), (221, 0, 4), (222, 0, 4), (201, 12, 0), (202, 0, 60), (203, 0, 60), (204, 0, 60), (205, 0, 60), (206, 0, 60), (207, 0, 60), (208, 0, 60), (209, 0, 60), (210, 0, 60), (211, 0, 1000), (300, 13, 0), (301, 0, 16), (302, 0, 16), (303, 0, 160), (310, 13, 0), (311, 0, 16), (312, 0, 16), (313, 0, 160), (320, 13, 0), (321, 0, 16), (322, 0, 16), (323, 0, 160), (330, 13, 0), (331, 0, 16), (332, 0, 16), (333, 0, 160), (340, 13, 0), (341, 0, 16), (342, 0, 16), (343, 0, 160), (350, 13, 0), (351, 0, 16), (352, 0, 16), (353, 0, 160), (70, 3, 4), (2000, 1, 1)]
