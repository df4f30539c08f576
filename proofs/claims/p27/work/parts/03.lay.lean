/-! The layout of the abstract memory: printed by program out of the claim's own classes. -/
def g_R0 : String := "BurningSlips$Bills"
def g_T0 : u_T := fun k => match k with
  | 0 => ("BurningSlips$Bills", "lines", "LBurningSlips$Lines;", true)
  | 1 => ("BurningSlips$Bills", "wallNames", "[J", true)
  | 2 => ("BurningSlips$Bills", "wallNumbers", "[I", true)
  | 3 => ("BurningSlips$Bills", "billNames", "[J", true)
  | 4 => ("BurningSlips$Bills", "firstLines", "[I", true)
  | 5 => ("BurningSlips$Bills", "lineCounts", "[I", true)
  | 6 => ("BurningSlips$Bills", "taken", "[I", true)
  | 7 => ("BurningSlips$Bills", "slipCounts", "[I", true)
  | 8 => ("BurningSlips$Bills", "wrongs", "[I", true)
  | 9 => ("BurningSlips$Bills", "wrongLines", "[I", true)
  | 10 => ("BurningSlips$Bills", "wrongSlips", "[I", true)
  | 11 => ("BurningSlips$Bills", "sound", "[I", true)
  | 12 => ("BurningSlips$Bills", "wallCount", "I", false)
  | _ => ("BurningSlips$Bills", "billCount", "I", false)
def g_t0 : Nat → FieldType := fun k => match k with
  | 0 => .object "BurningSlips$Lines"
  | 1 => .array .long
  | 2 => .array .int
  | 3 => .array .long
  | 4 => .array .int
  | 5 => .array .int
  | 6 => .array .int
  | 7 => .array .int
  | 8 => .array .int
  | 9 => .array .int
  | 10 => .array .int
  | 11 => .array .int
  | 12 => .int
  | _ => .int
theorem g_n0 : ∀ a, a < 14 → ∀ b, b < 14 → a ≠ b → (g_T0 a).2.1 ≠ (g_T0 b).2.1 := by decide +kernel
theorem g_p0 : ∀ k, k < 14 → parseFieldDescriptor (g_T0 k).2.2.1 = some (g_t0 k) := by decide +kernel
def g_R1 : String := "BurningSlips$Checker"
def g_T1 : u_T := fun k => match k with
  | 0 => ("BurningSlips$Checker", "onceAtIf", "[I", true)
  | 1 => ("BurningSlips$Checker", "mostAtIf", "[I", true)
  | 2 => ("BurningSlips$Checker", "onceAtElse", "[I", true)
  | 3 => ("BurningSlips$Checker", "mostAtElse", "[I", true)
  | 4 => ("BurningSlips$Checker", "elseLines", "[I", true)
  | 5 => ("BurningSlips$Checker", "once", "I", false)
  | 6 => ("BurningSlips$Checker", "most", "I", false)
  | 7 => ("BurningSlips$Checker", "deep", "I", false)
  | 8 => ("BurningSlips$Checker", "wrong", "I", false)
  | _ => ("BurningSlips$Checker", "wrongSlip", "I", false)
def g_t1 : Nat → FieldType := fun k => match k with
  | 0 => .array .int
  | 1 => .array .int
  | 2 => .array .int
  | 3 => .array .int
  | 4 => .array .int
  | 5 => .int
  | 6 => .int
  | 7 => .int
  | 8 => .int
  | _ => .int
theorem g_n1 : ∀ a, a < 10 → ∀ b, b < 10 → a ≠ b → (g_T1 a).2.1 ≠ (g_T1 b).2.1 := by decide +kernel
theorem g_p1 : ∀ k, k < 10 → parseFieldDescriptor (g_T1 k).2.2.1 = some (g_t1 k) := by decide +kernel
def g_R2 : String := "BurningSlips$Lines"
def g_T2 : u_T := fun k => match k with
  | 0 => ("BurningSlips$Lines", "kinds", "[I", true)
  | 1 => ("BurningSlips$Lines", "laid", "[I", true)
  | 2 => ("BurningSlips$Lines", "besides", "[I", true)
  | 3 => ("BurningSlips$Lines", "once", "[I", true)
  | 4 => ("BurningSlips$Lines", "called", "[I", true)
  | 5 => ("BurningSlips$Lines", "mates", "[I", true)
  | 6 => ("BurningSlips$Lines", "gone", "[I", true)
  | 7 => ("BurningSlips$Lines", "codeStarts", "[I", true)
  | 8 => ("BurningSlips$Lines", "codeStops", "[I", true)
  | 9 => ("BurningSlips$Lines", "codes", "[I", true)
  | 10 => ("BurningSlips$Lines", "count", "I", false)
  | _ => ("BurningSlips$Lines", "codeCount", "I", false)
def g_t2 : Nat → FieldType := fun k => match k with
  | 0 => .array .int
  | 1 => .array .int
  | 2 => .array .int
  | 3 => .array .int
  | 4 => .array .int
  | 5 => .array .int
  | 6 => .array .int
  | 7 => .array .int
  | 8 => .array .int
  | 9 => .array .int
  | 10 => .int
  | _ => .int
theorem g_n2 : ∀ a, a < 12 → ∀ b, b < 12 → a ≠ b → (g_T2 a).2.1 ≠ (g_T2 b).2.1 := by decide +kernel
theorem g_p2 : ∀ k, k < 12 → parseFieldDescriptor (g_T2 k).2.2.1 = some (g_t2 k) := by decide +kernel
def g_R3 : String := "BurningSlips$Machine"
def g_T3 : u_T := fun k => match k with
  | 0 => ("BurningSlips$Machine", "reckoner", "LBurningSlips$Reckoner;", true)
  | 1 => ("BurningSlips$Machine", "burns", "Z", true)
  | 2 => ("BurningSlips$Machine", "nextLines", "[I", true)
  | 3 => ("BurningSlips$Machine", "tables", "[I", true)
  | 4 => ("BurningSlips$Machine", "says", "[I", true)
  | 5 => ("BurningSlips$Machine", "worked", "I", false)
  | 6 => ("BurningSlips$Machine", "status", "I", false)
  | 7 => ("BurningSlips$Machine", "gift", "I", false)
  | 8 => ("BurningSlips$Machine", "highest", "I", false)
  | 9 => ("BurningSlips$Machine", "ash", "I", false)
  | 10 => ("BurningSlips$Machine", "coin", "I", false)
  | 11 => ("BurningSlips$Machine", "steps", "I", false)
  | 12 => ("BurningSlips$Machine", "room", "I", false)
  | _ => ("BurningSlips$Machine", "price", "I", false)
def g_t3 : Nat → FieldType := fun k => match k with
  | 0 => .object "BurningSlips$Reckoner"
  | 1 => .boolean
  | 2 => .array .int
  | 3 => .array .int
  | 4 => .array .int
  | 5 => .int
  | 6 => .int
  | 7 => .int
  | 8 => .int
  | 9 => .int
  | 10 => .int
  | 11 => .int
  | 12 => .int
  | _ => .int
theorem g_n3 : ∀ a, a < 14 → ∀ b, b < 14 → a ≠ b → (g_T3 a).2.1 ≠ (g_T3 b).2.1 := by decide +kernel
theorem g_p3 : ∀ k, k < 14 → parseFieldDescriptor (g_T3 k).2.2.1 = some (g_t3 k) := by decide +kernel
def g_R4 : String := "BurningSlips$Orders"
def g_T4 : u_T := fun k => match k with
  | 0 => ("BurningSlips$Orders", "stands", "[I", true)
  | 1 => ("BurningSlips$Orders", "behindSums", "[I", true)
  | 2 => ("BurningSlips$Orders", "readBy", "[I", true)
  | 3 => ("BurningSlips$Orders", "prices", "[I", true)
  | 4 => ("BurningSlips$Orders", "lying", "[I", true)
  | 5 => ("BurningSlips$Orders", "best", "[I", true)
  | 6 => ("BurningSlips$Orders", "counts", "[J", true)
  | 7 => ("BurningSlips$Orders", "taken", "I", false)
  | 8 => ("BurningSlips$Orders", "sums", "I", false)
  | _ => ("BurningSlips$Orders", "ready", "I", false)
def g_t4 : Nat → FieldType := fun k => match k with
  | 0 => .array .int
  | 1 => .array .int
  | 2 => .array .int
  | 3 => .array .int
  | 4 => .array .int
  | 5 => .array .int
  | 6 => .array .long
  | 7 => .int
  | 8 => .int
  | _ => .int
theorem g_n4 : ∀ a, a < 10 → ∀ b, b < 10 → a ≠ b → (g_T4 a).2.1 ≠ (g_T4 b).2.1 := by decide +kernel
theorem g_p4 : ∀ k, k < 10 → parseFieldDescriptor (g_T4 k).2.2.1 = some (g_t4 k) := by decide +kernel
def g_R5 : String := "BurningSlips$Reader"
def g_T5 : u_T := fun k => match k with
  | 0 => ("BurningSlips$Reader", "tape", "LBurningSlips$Tape;", true)
  | 1 => ("BurningSlips$Reader", "names", "[J", true)
  | 2 => ("BurningSlips$Reader", "open", "[I", true)
  | 3 => ("BurningSlips$Reader", "waiting", "[I", true)
  | 4 => ("BurningSlips$Reader", "bills", "LBurningSlips$Bills;", false)
  | 5 => ("BurningSlips$Reader", "lines", "LBurningSlips$Lines;", false)
  | 6 => ("BurningSlips$Reader", "slips", "I", false)
  | 7 => ("BurningSlips$Reader", "deep", "I", false)
  | 8 => ("BurningSlips$Reader", "waitingCount", "I", false)
  | 9 => ("BurningSlips$Reader", "within", "I", false)
  | 10 => ("BurningSlips$Reader", "fault", "I", false)
  | 11 => ("BurningSlips$Reader", "bill", "I", false)
  | 12 => ("BurningSlips$Reader", "line", "I", false)
  | _ => ("BurningSlips$Reader", "inBill", "Z", false)
def g_t5 : Nat → FieldType := fun k => match k with
  | 0 => .object "BurningSlips$Tape"
  | 1 => .array .long
  | 2 => .array .int
  | 3 => .array .int
  | 4 => .object "BurningSlips$Bills"
  | 5 => .object "BurningSlips$Lines"
  | 6 => .int
  | 7 => .int
  | 8 => .int
  | 9 => .int
  | 10 => .int
  | 11 => .int
  | 12 => .int
  | _ => .boolean
theorem g_n5 : ∀ a, a < 14 → ∀ b, b < 14 → a ≠ b → (g_T5 a).2.1 ≠ (g_T5 b).2.1 := by decide +kernel
theorem g_p5 : ∀ k, k < 14 → parseFieldDescriptor (g_T5 k).2.2.1 = some (g_t5 k) := by decide +kernel
def g_R6 : String := "BurningSlips$Reckoner"
def g_T6 : u_T := fun k => match k with
  | _ => ("BurningSlips$Reckoner", "stack", "[I", true)
def g_t6 : Nat → FieldType := fun k => match k with
  | _ => .array .int
theorem g_n6 : ∀ a, a < 1 → ∀ b, b < 1 → a ≠ b → (g_T6 a).2.1 ≠ (g_T6 b).2.1 := by decide +kernel
theorem g_p6 : ∀ k, k < 1 → parseFieldDescriptor (g_T6 k).2.2.1 = some (g_t6 k) := by decide +kernel
def g_R7 : String := "BurningSlips$Tape"
def g_T7 : u_T := fun k => match k with
  | 0 => ("BurningSlips$Tape", "signs", "[I", true)
  | 1 => ("BurningSlips$Tape", "reserved", "[J", true)
  | 2 => ("BurningSlips$Tape", "length", "I", false)
  | 3 => ("BurningSlips$Tape", "place", "I", false)
  | 4 => ("BurningSlips$Tape", "behind", "I", false)
  | 5 => ("BurningSlips$Tape", "kind", "I", false)
  | 6 => ("BurningSlips$Tape", "number", "I", false)
  | _ => ("BurningSlips$Tape", "word", "J", false)
def g_t7 : Nat → FieldType := fun k => match k with
  | 0 => .array .int
  | 1 => .array .long
  | 2 => .int
  | 3 => .int
  | 4 => .int
  | 5 => .int
  | 6 => .int
  | _ => .long
theorem g_n7 : ∀ a, a < 8 → ∀ b, b < 8 → a ≠ b → (g_T7 a).2.1 ≠ (g_T7 b).2.1 := by decide +kernel
theorem g_p7 : ∀ k, k < 8 → parseFieldDescriptor (g_T7 k).2.2.1 = some (g_t7 k) := by decide +kernel
def g_R8 : String := "BurningSlips$Ways"
def g_T8 : u_T := fun k => match k with
  | 0 => ("BurningSlips$Ways", "lowestAtIf", "[I", true)
  | 1 => ("BurningSlips$Ways", "highestAtIf", "[I", true)
  | 2 => ("BurningSlips$Ways", "lowestAtElse", "[I", true)
  | 3 => ("BurningSlips$Ways", "highestAtElse", "[I", true)
  | 4 => ("BurningSlips$Ways", "lacks", "[I", true)
  | 5 => ("BurningSlips$Ways", "trail", "[I", true)
  | 6 => ("BurningSlips$Ways", "settled", "[I", true)
  | 7 => ("BurningSlips$Ways", "found", "[I", true)
  | 8 => ("BurningSlips$Ways", "trailCount", "I", false)
  | 9 => ("BurningSlips$Ways", "onceSet", "I", false)
  | 10 => ("BurningSlips$Ways", "foundBill", "I", false)
  | 11 => ("BurningSlips$Ways", "lowest", "I", false)
  | _ => ("BurningSlips$Ways", "highest", "I", false)
def g_t8 : Nat → FieldType := fun k => match k with
  | 0 => .array .int
  | 1 => .array .int
  | 2 => .array .int
  | 3 => .array .int
  | 4 => .array .int
  | 5 => .array .int
  | 6 => .array .int
  | 7 => .array .int
  | 8 => .int
  | 9 => .int
  | 10 => .int
  | 11 => .int
  | _ => .int
theorem g_n8 : ∀ a, a < 13 → ∀ b, b < 13 → a ≠ b → (g_T8 a).2.1 ≠ (g_T8 b).2.1 := by decide +kernel
theorem g_p8 : ∀ k, k < 13 → parseFieldDescriptor (g_T8 k).2.2.1 = some (g_t8 k) := by decide +kernel
def g_R9 : String := "BurningSlips"
def g_T9 : u_T := fun k => match k with
  | 0 => ("BurningSlips", "tape", "LBurningSlips$Tape;", true)
  | 1 => ("BurningSlips", "reader", "LBurningSlips$Reader;", true)
  | 2 => ("BurningSlips", "checker", "LBurningSlips$Checker;", true)
  | 3 => ("BurningSlips", "machine", "LBurningSlips$Machine;", true)
  | 4 => ("BurningSlips", "freeMachine", "LBurningSlips$Machine;", true)
  | 5 => ("BurningSlips", "marks", "[LBurningSlips$Machine;", true)
  | 6 => ("BurningSlips", "ways", "LBurningSlips$Ways;", true)
  | 7 => ("BurningSlips", "orders", "LBurningSlips$Orders;", true)
  | 8 => ("BurningSlips", "told", "LBurningSlips$Bills;", false)
  | 9 => ("BurningSlips", "spare", "LBurningSlips$Bills;", false)
  | _ => ("BurningSlips", "laidMarks", "I", false)
def g_t9 : Nat → FieldType := fun k => match k with
  | 0 => .object "BurningSlips$Tape"
  | 1 => .object "BurningSlips$Reader"
  | 2 => .object "BurningSlips$Checker"
  | 3 => .object "BurningSlips$Machine"
  | 4 => .object "BurningSlips$Machine"
  | 5 => .array (.object "BurningSlips$Machine")
  | 6 => .object "BurningSlips$Ways"
  | 7 => .object "BurningSlips$Orders"
  | 8 => .object "BurningSlips$Bills"
  | 9 => .object "BurningSlips$Bills"
  | _ => .int
theorem g_n9 : ∀ a, a < 11 → ∀ b, b < 11 → a ≠ b → (g_T9 a).2.1 ≠ (g_T9 b).2.1 := by decide +kernel
theorem g_p9 : ∀ k, k < 11 → parseFieldDescriptor (g_T9 k).2.2.1 = some (g_t9 k) := by decide +kernel
def g_cl : List vw_C := [(g_R0, g_T0, 14), (g_R1, g_T1, 10), (g_R2, g_T2, 12), (g_R3, g_T3, 14), (g_R4, g_T4, 10), (g_R5, g_T5, 14), (g_R6, g_T6, 1), (g_R7, g_T7, 8), (g_R8, g_T8, 13), (g_R9, g_T9, 11)]
/-- the fields of each class: kind and where it points -/
def g_ft : List (List (Nat × Int)) := [
  [(4, 1), (4, 12), (4, 13), (4, 14), (4, 15), (4, 16), (4, 17), (4, 18), (4, 19), (4, 20), (4, 21), (4, 22), (0, 0), (0, 0)],
  [(4, 1), (4, 2), (4, 3), (4, 4), (4, 5), (0, 0), (0, 0), (0, 0), (0, 0), (0, 0)],
  [(4, 1), (4, 2), (4, 3), (4, 4), (4, 5), (4, 6), (4, 7), (4, 8), (4, 9), (4, 10), (0, 0), (0, 0)],
  [(5, 40), (2, 0), (4, 1), (4, 2), (4, 3), (0, 0), (0, 0), (0, 0), (0, 0), (0, 0), (0, 0), (0, 0), (0, 0), (0, 0)],
  [(4, 1), (4, 2), (4, 3), (4, 4), (4, 5), (4, 6), (4, 7), (0, 0), (0, 0), (0, 0)],
  [(5, 10), (4, 1), (4, 2), (4, 3), (3, 0), (3, 0), (0, 0), (0, 0), (0, 0), (0, 0), (0, 0), (0, 0), (0, 0), (2, 0)],
  [(4, 1)],
  [(4, 1), (4, 2), (0, 0), (0, 0), (0, 0), (0, 0), (0, 0), (1, 0)],
  [(4, 1), (4, 2), (4, 3), (4, 4), (4, 5), (4, 6), (4, 7), (4, 8), (0, 0), (0, 0), (0, 0), (0, 0), (0, 0)],
  [(5, 10), (5, 20), (5, 30), (5, 300), (5, 310), (5, 70), (5, 50), (5, 60), (3, 0), (3, 0), (0, 0)]]
/-- the cells: number, kind (0 int[] 1 long[] 2 boolean[] 3 Machine[] 10+c object), length -/
def g_lay : List (Int × Nat × Nat) := [(0, 19, 0), (10, 17, 0), (11, 0, 1000), (12, 1, 17), (20, 15, 0), (21, 1, 10), (22, 0, 3), (23, 0, 64), (30, 11, 0), (31, 0, 3), (32, 0, 3), (33, 0, 3), (34, 0, 3), (35, 0, 3), (40, 16, 0), (41, 0, 64), (50, 18, 0), (51, 0, 3), (52, 0, 3), (53, 0, 3), (54, 0, 3), (55, 0, 10), (56, 0, 60), (57, 0, 60), (58, 0, 4), (60, 14, 0), (61, 0, 110), (62, 0, 10), (63, 0, 10), (64, 0, 10), (65, 0, 1024), (66, 0, 1024), (67, 1, 1024), (100, 10, 0), (112, 1, 4), (113, 0, 4), (114, 1, 4), (115, 0, 4), (116, 0, 4), (117, 0, 4), (118, 0, 4), (119, 0, 4), (120, 0, 4), (121, 0, 4), (122, 0, 4), (101, 12, 0), (102, 0, 60), (103, 0, 60), (104, 0, 60), (105, 0, 60), (106, 0, 60), (107, 0, 60), (108, 0, 60), (109, 0, 60), (110, 0, 60), (111, 0, 1000), (200, 10, 0), (212, 1, 4), (213, 0, 4), (214, 1, 4), (215, 0, 4), (216, 0, 4), (217, 0, 4), (218, 0, 4), (219, 0, 4), (220, 0, 4), (221, 0, 4), (222, 0, 4), (201, 12, 0), (202, 0, 60), (203, 0, 60), (204, 0, 60), (205, 0, 60), (206, 0, 60), (207, 0, 60), (208, 0, 60), (209, 0, 60), (210, 0, 60), (211, 0, 1000), (300, 13, 0), (301, 0, 16), (302, 0, 16), (303, 0, 160), (310, 13, 0), (311, 0, 16), (312, 0, 16), (313, 0, 160), (320, 13, 0), (321, 0, 16), (322, 0, 16), (323, 0, 160), (330, 13, 0), (331, 0, 16), (332, 0, 16), (333, 0, 160), (340, 13, 0), (341, 0, 16), (342, 0, 16), (343, 0, 160), (350, 13, 0), (351, 0, 16), (352, 0, 16), (353, 0, 160), (70, 3, 4), (3000, 0, 950), (3010, 1, 3)]
