-- class names, field tables (printed names of the claim)
def RX0 : String := "PartedLand$Cases"
def TX0 : u_T := fun k => match k with
  | 0 => ("PartedLand$Cases", "courts", "[I", true)
  | 1 => ("PartedLand$Cases", "persons", "[I", true)
  | 2 => ("PartedLand$Cases", "stages", "[I", true)
  | 3 => ("PartedLand$Cases", "papers", "[I", true)
  | _ => ("PartedLand$Cases", "cases", "I", false)
def tyX0 : Nat → FieldType := fun k => match k with
  | 0 => .array .int
  | 1 => .array .int
  | 2 => .array .int
  | 3 => .array .int
  | _ => .int
theorem nmX0 : ∀ a, a < 5 → ∀ b, b < 5 → a ≠ b → (TX0 a).2.1 ≠ (TX0 b).2.1 := by decide +kernel
theorem tyX0_ok : ∀ k, k < 5 → parseFieldDescriptor (TX0 k).2.2.1 = some (tyX0 k) := by decide +kernel
def RX1 : String := "PartedLand$Estate"
def TX1 : u_T := fun k => match k with
  | 0 => ("PartedLand$Estate", "kinds", "[I", true)
  | 1 => ("PartedLand$Estate", "places", "[I", true)
  | 2 => ("PartedLand$Estate", "worths", "[I", true)
  | 3 => ("PartedLand$Estate", "copied", "[Z", true)
  | 4 => ("PartedLand$Estate", "tiedOnes", "[I", true)
  | 5 => ("PartedLand$Estate", "tiedOthers", "[I", true)
  | 6 => ("PartedLand$Estate", "things", "I", false)
  | _ => ("PartedLand$Estate", "ties", "I", false)
def tyX1 : Nat → FieldType := fun k => match k with
  | 0 => .array .int
  | 1 => .array .int
  | 2 => .array .int
  | 3 => .array .boolean
  | 4 => .array .int
  | 5 => .array .int
  | 6 => .int
  | _ => .int
theorem nmX1 : ∀ a, a < 8 → ∀ b, b < 8 → a ≠ b → (TX1 a).2.1 ≠ (TX1 b).2.1 := by decide +kernel
theorem tyX1_ok : ∀ k, k < 8 → parseFieldDescriptor (TX1 k).2.2.1 = some (tyX1 k) := by decide +kernel
def RX2 : String := "PartedLand$Houses"
def TX2 : u_T := fun k => match k with
  | 0 => ("PartedLand$Houses", "tape", "LPartedLand$Text;", true)
  | 1 => ("PartedLand$Houses", "first", "LPartedLand$Text;", true)
  | 2 => ("PartedLand$Houses", "second", "LPartedLand$Text;", true)
  | 3 => ("PartedLand$Houses", "law", "LPartedLand$Text;", true)
  | 4 => ("PartedLand$Houses", "firstProposed", "Z", false)
  | 5 => ("PartedLand$Houses", "secondProposed", "Z", false)
  | _ => ("PartedLand$Houses", "lawSince", "I", false)
def tyX2 : Nat → FieldType := fun k => match k with
  | 0 => .object "PartedLand$Text"
  | 1 => .object "PartedLand$Text"
  | 2 => .object "PartedLand$Text"
  | 3 => .object "PartedLand$Text"
  | 4 => .boolean
  | 5 => .boolean
  | _ => .int
theorem nmX2 : ∀ a, a < 7 → ∀ b, b < 7 → a ≠ b → (TX2 a).2.1 ≠ (TX2 b).2.1 := by decide +kernel
theorem tyX2_ok : ∀ k, k < 7 → parseFieldDescriptor (TX2 k).2.2.1 = some (tyX2 k) := by decide +kernel
def RX3 : String := "PartedLand$Land"
def TX3 : u_T := fun k => match k with
  | 0 => ("PartedLand$Land", "xs", "[I", true)
  | 1 => ("PartedLand$Land", "ys", "[I", true)
  | 2 => ("PartedLand$Land", "settled", "[I", true)
  | 3 => ("PartedLand$Land", "seats", "[I", true)
  | 4 => ("PartedLand$Land", "ends", "[I", true)
  | 5 => ("PartedLand$Land", "otherEnds", "[I", true)
  | 6 => ("PartedLand$Land", "edgeDays", "[I", true)
  | 7 => ("PartedLand$Land", "rails", "[Z", true)
  | 8 => ("PartedLand$Land", "pegXs", "[I", true)
  | 9 => ("PartedLand$Land", "pegYs", "[I", true)
  | 10 => ("PartedLand$Land", "away", "[I", true)
  | 11 => ("PartedLand$Land", "parishes", "I", false)
  | 12 => ("PartedLand$Land", "edges", "I", false)
  | _ => ("PartedLand$Land", "pegs", "I", false)
def tyX3 : Nat → FieldType := fun k => match k with
  | 0 => .array .int
  | 1 => .array .int
  | 2 => .array .int
  | 3 => .array .int
  | 4 => .array .int
  | 5 => .array .int
  | 6 => .array .int
  | 7 => .array .boolean
  | 8 => .array .int
  | 9 => .array .int
  | 10 => .array .int
  | 11 => .int
  | 12 => .int
  | _ => .int
theorem nmX3 : ∀ a, a < 14 → ∀ b, b < 14 → a ≠ b → (TX3 a).2.1 ≠ (TX3 b).2.1 := by decide +kernel
theorem tyX3_ok : ∀ k, k < 14 → parseFieldDescriptor (TX3 k).2.2.1 = some (tyX3 k) := by decide +kernel
def RX4 : String := "PartedLand$Parting"
def TX4 : u_T := fun k => match k with
  | 0 => ("PartedLand$Parting", "roots", "[I", true)
  | 1 => ("PartedLand$Parting", "groupOfRoot", "[I", true)
  | 2 => ("PartedLand$Parting", "groupOfThing", "[I", true)
  | 3 => ("PartedLand$Parting", "groupWorths", "[I", true)
  | 4 => ("PartedLand$Parting", "changes", "[I", true)
  | 5 => ("PartedLand$Parting", "isKnown", "Z", false)
  | 6 => ("PartedLand$Parting", "groups", "I", false)
  | 7 => ("PartedLand$Parting", "total", "I", false)
  | 8 => ("PartedLand$Parting", "rest", "I", false)
  | _ => ("PartedLand$Parting", "leaving", "I", false)
def tyX4 : Nat → FieldType := fun k => match k with
  | 0 => .array .int
  | 1 => .array .int
  | 2 => .array .int
  | 3 => .array .int
  | 4 => .array .int
  | 5 => .boolean
  | 6 => .int
  | 7 => .int
  | 8 => .int
  | _ => .int
theorem nmX4 : ∀ a, a < 10 → ∀ b, b < 10 → a ≠ b → (TX4 a).2.1 ≠ (TX4 b).2.1 := by decide +kernel
theorem tyX4_ok : ∀ k, k < 10 → parseFieldDescriptor (TX4 k).2.2.1 = some (tyX4 k) := by decide +kernel
def RX5 : String := "PartedLand$People"
def TX5 : u_T := fun k => match k with
  | 0 => ("PartedLand$People", "births", "[I", true)
  | 1 => ("PartedLand$People", "homes", "[I", true)
  | 2 => ("PartedLand$People", "firstMonths", "[I", true)
  | 3 => ("PartedLand$People", "secondMonths", "[I", true)
  | 4 => ("PartedLand$People", "choices", "[I", true)
  | 5 => ("PartedLand$People", "choiceDays", "[I", true)
  | 6 => ("PartedLand$People", "hoards", "[I", true)
  | _ => ("PartedLand$People", "persons", "I", false)
def tyX5 : Nat → FieldType := fun k => match k with
  | 0 => .array .int
  | 1 => .array .int
  | 2 => .array .int
  | 3 => .array .int
  | 4 => .array .int
  | 5 => .array .int
  | 6 => .array .int
  | _ => .int
theorem nmX5 : ∀ a, a < 8 → ∀ b, b < 8 → a ≠ b → (TX5 a).2.1 ≠ (TX5 b).2.1 := by decide +kernel
theorem tyX5_ok : ∀ k, k < 8 → parseFieldDescriptor (TX5 k).2.2.1 = some (tyX5 k) := by decide +kernel
def RX6 : String := "PartedLand$Tasks"
def TX6 : u_T := fun k => match k with
  | 0 => ("PartedLand$Tasks", "taskDays", "[I", true)
  | 1 => ("PartedLand$Tasks", "needed", "[I", true)
  | 2 => ("PartedLand$Tasks", "trial", "[I", true)
  | 3 => ("PartedLand$Tasks", "bestOrder", "[I", true)
  | 4 => ("PartedLand$Tasks", "tasks", "I", false)
  | 5 => ("PartedLand$Tasks", "bestCount", "I", false)
  | _ => ("PartedLand$Tasks", "bestDays", "I", false)
def tyX6 : Nat → FieldType := fun k => match k with
  | 0 => .array .int
  | 1 => .array .int
  | 2 => .array .int
  | 3 => .array .int
  | 4 => .int
  | 5 => .int
  | _ => .int
theorem nmX6 : ∀ a, a < 7 → ∀ b, b < 7 → a ≠ b → (TX6 a).2.1 ≠ (TX6 b).2.1 := by decide +kernel
theorem tyX6_ok : ∀ k, k < 7 → parseFieldDescriptor (TX6 k).2.2.1 = some (tyX6 k) := by decide +kernel
def RX7 : String := "PartedLand$Text"
def TX7 : u_T := fun k => match k with
  | 0 => ("PartedLand$Text", "bytes", "[I", true)
  | 1 => ("PartedLand$Text", "grounds", "[I", true)
  | 2 => ("PartedLand$Text", "length", "I", false)
  | 3 => ("PartedLand$Text", "groundCount", "I", false)
  | 4 => ("PartedLand$Text", "lastChoiceDay", "I", false)
  | 5 => ("PartedLand$Text", "share", "I", false)
  | 6 => ("PartedLand$Text", "debtsByLand", "Z", false)
  | 7 => ("PartedLand$Text", "courtStage", "I", false)
  | _ => ("PartedLand$Text", "hours", "I", false)
def tyX7 : Nat → FieldType := fun k => match k with
  | 0 => .array .int
  | 1 => .array .int
  | 2 => .int
  | 3 => .int
  | 4 => .int
  | 5 => .int
  | 6 => .boolean
  | 7 => .int
  | _ => .int
theorem nmX7 : ∀ a, a < 9 → ∀ b, b < 9 → a ≠ b → (TX7 a).2.1 ≠ (TX7 b).2.1 := by decide +kernel
theorem tyX7_ok : ∀ k, k < 9 → parseFieldDescriptor (TX7 k).2.2.1 = some (tyX7 k) := by decide +kernel
def RX8 : String := "PartedLand$Wagons"
def TX8 : u_T := fun k => match k with
  | 0 => ("PartedLand$Wagons", "owners", "[I", true)
  | 1 => ("PartedLand$Wagons", "stopCounts", "[I", true)
  | 2 => ("PartedLand$Wagons", "stops", "[[I", true)
  | 3 => ("PartedLand$Wagons", "arrivals", "[[I", true)
  | _ => ("PartedLand$Wagons", "wagons", "I", false)
def tyX8 : Nat → FieldType := fun k => match k with
  | 0 => .array .int
  | 1 => .array .int
  | 2 => .array (.array .int)
  | 3 => .array (.array .int)
  | _ => .int
theorem nmX8 : ∀ a, a < 5 → ∀ b, b < 5 → a ≠ b → (TX8 a).2.1 ≠ (TX8 b).2.1 := by decide +kernel
theorem tyX8_ok : ∀ k, k < 5 → parseFieldDescriptor (TX8 k).2.2.1 = some (tyX8 k) := by decide +kernel
def RX9 : String := "PartedLand$Week"
def TX9 : u_T := fun k => match k with
  | 0 => ("PartedLand$Week", "firstRate", "I", false)
  | 1 => ("PartedLand$Week", "secondRate", "I", false)
  | 2 => ("PartedLand$Week", "limit", "I", false)
  | _ => ("PartedLand$Week", "dayCount", "I", false)
def tyX9 : Nat → FieldType := fun k => match k with
  | 0 => .int
  | 1 => .int
  | 2 => .int
  | _ => .int
theorem nmX9 : ∀ a, a < 4 → ∀ b, b < 4 → a ≠ b → (TX9 a).2.1 ≠ (TX9 b).2.1 := by decide +kernel
theorem tyX9_ok : ∀ k, k < 4 → parseFieldDescriptor (TX9 k).2.2.1 = some (tyX9 k) := by decide +kernel
def RX10 : String := "PartedLand"
def TX10 : u_T := fun k => match k with
  | 0 => ("PartedLand", "land", "LPartedLand$Land;", true)
  | 1 => ("PartedLand", "people", "LPartedLand$People;", true)
  | 2 => ("PartedLand", "houses", "LPartedLand$Houses;", true)
  | 3 => ("PartedLand", "estate", "LPartedLand$Estate;", true)
  | 4 => ("PartedLand", "parting", "LPartedLand$Parting;", true)
  | 5 => ("PartedLand", "coinWeek", "LPartedLand$Week;", true)
  | 6 => ("PartedLand", "wagons", "LPartedLand$Wagons;", true)
  | 7 => ("PartedLand", "cases", "LPartedLand$Cases;", true)
  | 8 => ("PartedLand", "tasks", "LPartedLand$Tasks;", true)
  | 9 => ("PartedLand", "findings", "[I", true)
  | 10 => ("PartedLand", "waiting", "[I", true)
  | 11 => ("PartedLand", "waitingCount", "I", false)
  | _ => ("PartedLand", "today", "I", false)
def tyX10 : Nat → FieldType := fun k => match k with
  | 0 => .object "PartedLand$Land"
  | 1 => .object "PartedLand$People"
  | 2 => .object "PartedLand$Houses"
  | 3 => .object "PartedLand$Estate"
  | 4 => .object "PartedLand$Parting"
  | 5 => .object "PartedLand$Week"
  | 6 => .object "PartedLand$Wagons"
  | 7 => .object "PartedLand$Cases"
  | 8 => .object "PartedLand$Tasks"
  | 9 => .array .int
  | 10 => .array .int
  | 11 => .int
  | _ => .int
theorem nmX10 : ∀ a, a < 13 → ∀ b, b < 13 → a ≠ b → (TX10 a).2.1 ≠ (TX10 b).2.1 := by decide +kernel
theorem tyX10_ok : ∀ k, k < 13 → parseFieldDescriptor (TX10 k).2.2.1 = some (tyX10 k) := by decide +kernel
def RX11 : String := "PartedLandModel"
def TX11 : u_T := fun k => match k with
  | 0 => ("PartedLandModel", "today", "I", false)
  | 1 => ("PartedLandModel", "parishes", "I", false)
  | 2 => ("PartedLandModel", "px", "[I", true)
  | 3 => ("PartedLandModel", "py", "[I", true)
  | 4 => ("PartedLandModel", "settled", "[I", true)
  | 5 => ("PartedLandModel", "edges", "I", false)
  | 6 => ("PartedLandModel", "edgeA", "[I", true)
  | 7 => ("PartedLandModel", "edgeB", "[I", true)
  | 8 => ("PartedLandModel", "edgeDays", "[I", true)
  | 9 => ("PartedLandModel", "isRail", "[Z", true)
  | 10 => ("PartedLandModel", "pegs", "I", false)
  | 11 => ("PartedLandModel", "pegX", "[I", true)
  | 12 => ("PartedLandModel", "pegY", "[I", true)
  | 13 => ("PartedLandModel", "seats", "[I", true)
  | 14 => ("PartedLandModel", "persons", "I", false)
  | 15 => ("PartedLandModel", "birth", "[I", true)
  | 16 => ("PartedLandModel", "homes", "[I", true)
  | 17 => ("PartedLandModel", "months", "[I", true)
  | 18 => ("PartedLandModel", "choice", "[I", true)
  | 19 => ("PartedLandModel", "choiceDay", "[I", true)
  | 20 => ("PartedLandModel", "hoards", "[I", true)
  | 21 => ("PartedLandModel", "tape", "[I", true)
  | 22 => ("PartedLandModel", "taped", "I", false)
  | 23 => ("PartedLandModel", "texts", "[I", true)
  | 24 => ("PartedLandModel", "sizes", "[I", true)
  | 25 => ("PartedLandModel", "since", "I", false)
  | 26 => ("PartedLandModel", "things", "I", false)
  | 27 => ("PartedLandModel", "kind", "[I", true)
  | 28 => ("PartedLandModel", "value", "[I", true)
  | 29 => ("PartedLandModel", "of", "[I", true)
  | 30 => ("PartedLandModel", "isCopied", "[Z", true)
  | 31 => ("PartedLandModel", "ties", "I", false)
  | 32 => ("PartedLandModel", "tieA", "[I", true)
  | 33 => ("PartedLandModel", "tieB", "[I", true)
  | 34 => ("PartedLandModel", "rates", "[I", true)
  | 35 => ("PartedLandModel", "limit", "I", false)
  | 36 => ("PartedLandModel", "weekDays", "I", false)
  | 37 => ("PartedLandModel", "wagons", "I", false)
  | 38 => ("PartedLandModel", "wagonSide", "[I", true)
  | 39 => ("PartedLandModel", "stops", "[I", true)
  | 40 => ("PartedLandModel", "stopDay", "[I", true)
  | 41 => ("PartedLandModel", "stopMany", "[I", true)
  | 42 => ("PartedLandModel", "cases", "I", false)
  | 43 => ("PartedLandModel", "caseCourt", "[I", true)
  | 44 => ("PartedLandModel", "casePerson", "[I", true)
  | 45 => ("PartedLandModel", "stage", "[I", true)
  | 46 => ("PartedLandModel", "casePaper", "[I", true)
  | 47 => ("PartedLandModel", "tasks", "I", false)
  | 48 => ("PartedLandModel", "taskDays", "[I", true)
  | 49 => ("PartedLandModel", "before", "[I", true)
  | 50 => ("PartedLandModel", "numbers", "I", false)
  | 51 => ("PartedLandModel", "waiting", "[I", true)
  | 52 => ("PartedLandModel", "found", "[I", true)
  | 53 => ("PartedLandModel", "ways", "[I", true)
  | 54 => ("PartedLandModel", "grounds", "[I", true)
  | 55 => ("PartedLandModel", "groundMany", "I", false)
  | 56 => ("PartedLandModel", "lastDay", "I", false)
  | 57 => ("PartedLandModel", "share", "I", false)
  | 58 => ("PartedLandModel", "goesWithLand", "I", false)
  | 59 => ("PartedLandModel", "stays", "I", false)
  | 60 => ("PartedLandModel", "hours", "I", false)
  | 61 => ("PartedLandModel", "root", "[I", true)
  | 62 => ("PartedLandModel", "groupOf", "[I", true)
  | 63 => ("PartedLandModel", "sums", "[I", true)
  | 64 => ("PartedLandModel", "groups", "I", false)
  | 65 => ("PartedLandModel", "mostTasks", "[I", true)
  | _ => ("PartedLandModel", "fewestDays", "[I", true)
def tyX11 : Nat → FieldType := fun k => match k with
  | 0 => .int
  | 1 => .int
  | 2 => .array .int
  | 3 => .array .int
  | 4 => .array .int
  | 5 => .int
  | 6 => .array .int
  | 7 => .array .int
  | 8 => .array .int
  | 9 => .array .boolean
  | 10 => .int
  | 11 => .array .int
  | 12 => .array .int
  | 13 => .array .int
  | 14 => .int
  | 15 => .array .int
  | 16 => .array .int
  | 17 => .array .int
  | 18 => .array .int
  | 19 => .array .int
  | 20 => .array .int
  | 21 => .array .int
  | 22 => .int
  | 23 => .array .int
  | 24 => .array .int
  | 25 => .int
  | 26 => .int
  | 27 => .array .int
  | 28 => .array .int
  | 29 => .array .int
  | 30 => .array .boolean
  | 31 => .int
  | 32 => .array .int
  | 33 => .array .int
  | 34 => .array .int
  | 35 => .int
  | 36 => .int
  | 37 => .int
  | 38 => .array .int
  | 39 => .array .int
  | 40 => .array .int
  | 41 => .array .int
  | 42 => .int
  | 43 => .array .int
  | 44 => .array .int
  | 45 => .array .int
  | 46 => .array .int
  | 47 => .int
  | 48 => .array .int
  | 49 => .array .int
  | 50 => .int
  | 51 => .array .int
  | 52 => .array .int
  | 53 => .array .int
  | 54 => .array .int
  | 55 => .int
  | 56 => .int
  | 57 => .int
  | 58 => .int
  | 59 => .int
  | 60 => .int
  | 61 => .array .int
  | 62 => .array .int
  | 63 => .array .int
  | 64 => .int
  | 65 => .array .int
  | _ => .array .int
theorem nmX11 : ∀ a, a < 67 → ∀ b, b < 67 → a ≠ b → (TX11 a).2.1 ≠ (TX11 b).2.1 := by decide +kernel
theorem tyX11_ok : ∀ k, k < 67 → parseFieldDescriptor (TX11 k).2.2.1 = some (tyX11 k) := by decide +kernel
abbrev am_cl : List vw_C := [(RX0, TX0, 5), (RX1, TX1, 8), (RX2, TX2, 7), (RX3, TX3, 14), (RX4, TX4, 10), (RX5, TX5, 8), (RX6, TX6, 7), (RX7, TX7, 9), (RX8, TX8, 5), (RX9, TX9, 4), (RX10, TX10, 13), (RX11, TX11, 67)]
def am_tbl : List Cond := lw_tbl.filter goodWord
def am_ty (ci : Nat) : Nat → FieldType := match ci with
  | 0 => tyX0
  | 1 => tyX1
  | 2 => tyX2
  | 3 => tyX3
  | 4 => tyX4
  | 5 => tyX5
  | 6 => tyX6
  | 7 => tyX7
  | 8 => tyX8
  | 9 => tyX9
  | 10 => tyX10
  | _ => tyX11
theorem am_inX0 : ((u_ws RX0 TX0 5).all (fun w => decide (w ∈ lw_tbl) && goodWord w)) = true := by decide +kernel
theorem am_inX1 : ((u_ws RX1 TX1 8).all (fun w => decide (w ∈ lw_tbl) && goodWord w)) = true := by decide +kernel
theorem am_inX2 : ((u_ws RX2 TX2 7).all (fun w => decide (w ∈ lw_tbl) && goodWord w)) = true := by decide +kernel
theorem am_inX3 : ((u_ws RX3 TX3 14).all (fun w => decide (w ∈ lw_tbl) && goodWord w)) = true := by decide +kernel
theorem am_inX4 : ((u_ws RX4 TX4 10).all (fun w => decide (w ∈ lw_tbl) && goodWord w)) = true := by decide +kernel
theorem am_inX5 : ((u_ws RX5 TX5 8).all (fun w => decide (w ∈ lw_tbl) && goodWord w)) = true := by decide +kernel
theorem am_inX6 : ((u_ws RX6 TX6 7).all (fun w => decide (w ∈ lw_tbl) && goodWord w)) = true := by decide +kernel
theorem am_inX7 : ((u_ws RX7 TX7 9).all (fun w => decide (w ∈ lw_tbl) && goodWord w)) = true := by decide +kernel
theorem am_inX8 : ((u_ws RX8 TX8 5).all (fun w => decide (w ∈ lw_tbl) && goodWord w)) = true := by decide +kernel
theorem am_inX9 : ((u_ws RX9 TX9 4).all (fun w => decide (w ∈ lw_tbl) && goodWord w)) = true := by decide +kernel
theorem am_inX10 : ((u_ws RX10 TX10 13).all (fun w => decide (w ∈ lw_tbl) && goodWord w)) = true := by decide +kernel
theorem am_inX11 : ((u_ws RX11 TX11 67).all (fun w => decide (w ∈ lw_tbl) && goodWord w)) = true := by decide +kernel
theorem am_in_of {ws : List Cond} (h : ws.all (fun w => decide (w ∈ lw_tbl) && goodWord w) = true) : ∀ w ∈ ws, w ∈ am_tbl := by
  intro w hw
  have h1 := List.all_eq_true.mp h w hw
  simp only [Bool.and_eq_true, decide_eq_true_eq] at h1
  exact List.mem_filter.mpr ⟨h1.1, h1.2⟩
theorem am_cl_ok : ∀ (ci : Nat) (C : String) (T : u_T) (N : Nat), am_cl[ci]? = some (C, T, N) → (∀ w ∈ u_ws C T N, w ∈ am_tbl) ∧ (∀ k, k < N → parseFieldDescriptor (T k).2.2.1 = some (am_ty ci k)) ∧ (∀ a, a < N → ∀ b, b < N → a ≠ b → (T a).2.1 ≠ (T b).2.1) := by
  intro ci C T N h
  match ci, h with
  | 0, h => cases h; exact ⟨am_in_of am_inX0, tyX0_ok, nmX0⟩
  | 1, h => cases h; exact ⟨am_in_of am_inX1, tyX1_ok, nmX1⟩
  | 2, h => cases h; exact ⟨am_in_of am_inX2, tyX2_ok, nmX2⟩
  | 3, h => cases h; exact ⟨am_in_of am_inX3, tyX3_ok, nmX3⟩
  | 4, h => cases h; exact ⟨am_in_of am_inX4, tyX4_ok, nmX4⟩
  | 5, h => cases h; exact ⟨am_in_of am_inX5, tyX5_ok, nmX5⟩
  | 6, h => cases h; exact ⟨am_in_of am_inX6, tyX6_ok, nmX6⟩
  | 7, h => cases h; exact ⟨am_in_of am_inX7, tyX7_ok, nmX7⟩
  | 8, h => cases h; exact ⟨am_in_of am_inX8, tyX8_ok, nmX8⟩
  | 9, h => cases h; exact ⟨am_in_of am_inX9, tyX9_ok, nmX9⟩
  | 10, h => cases h; exact ⟨am_in_of am_inX10, tyX10_ok, nmX10⟩
  | 11, h => cases h; exact ⟨am_in_of am_inX11, tyX11_ok, nmX11⟩
  | k + 12, h => simp [am_cl] at h
