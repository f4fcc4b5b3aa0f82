def RX0 : String := "SisterCount$Answers"
def TX0 : u_T := fun k => match k with
  | 0 => ("SisterCount$Answers", "town", "LSisterCount$Town;", true)
  | 1 => ("SisterCount$Answers", "said", "[I", true)
  | _ => ("SisterCount$Answers", "asked", "I", false)
def tyX0 : Nat → FieldType := fun k => match k with
  | 0 => .object "SisterCount$Town"
  | 1 => .array .int
  | _ => .int
theorem nmX0 : ∀ a, a < 3 → ∀ b, b < 3 → a ≠ b → (TX0 a).2.1 ≠ (TX0 b).2.1 := by decide +kernel
theorem tyX0_ok : ∀ k, k < 3 → parseFieldDescriptor (TX0 k).2.2.1 = some (tyX0 k) := by decide +kernel
def RX1 : String := "SisterCount$Chooser"
def TX1 : u_T := fun k => match k with
  | 0 => ("SisterCount$Chooser", "town", "LSisterCount$Town;", true)
  | 1 => ("SisterCount$Chooser", "who", "[I", true)
  | 2 => ("SisterCount$Chooser", "voices", "[I", true)
  | 3 => ("SisterCount$Chooser", "reached", "[I", true)
  | 4 => ("SisterCount$Chooser", "due", "I", false)
  | _ => ("SisterCount$Chooser", "size", "I", false)
def tyX1 : Nat → FieldType := fun k => match k with
  | 0 => .object "SisterCount$Town"
  | 1 => .array .int
  | 2 => .array .int
  | 3 => .array .int
  | 4 => .int
  | _ => .int
theorem nmX1 : ∀ a, a < 6 → ∀ b, b < 6 → a ≠ b → (TX1 a).2.1 ≠ (TX1 b).2.1 := by decide +kernel
theorem tyX1_ok : ∀ k, k < 6 → parseFieldDescriptor (TX1 k).2.2.1 = some (tyX1 k) := by decide +kernel
def RX2 : String := "SisterCount$Household"
def TX2 : u_T := fun k => match k with
  | 0 => ("SisterCount$Household", "town", "LSisterCount$Town;", true)
  | _ => ("SisterCount$Household", "sleepers", "[I", true)
def tyX2 : Nat → FieldType := fun k => match k with
  | 0 => .object "SisterCount$Town"
  | _ => .array .int
theorem nmX2 : ∀ a, a < 2 → ∀ b, b < 2 → a ≠ b → (TX2 a).2.1 ≠ (TX2 b).2.1 := by decide +kernel
theorem tyX2_ok : ∀ k, k < 2 → parseFieldDescriptor (TX2 k).2.2.1 = some (tyX2 k) := by decide +kernel
def RX3 : String := "SisterCount$Joiner"
def TX3 : u_T := fun k => match k with
  | 0 => ("SisterCount$Joiner", "sexes", "[I", true)
  | 1 => ("SisterCount$Joiner", "girls", "[I", true)
  | 2 => ("SisterCount$Joiner", "boys", "[I", true)
  | 3 => ("SisterCount$Joiner", "ways", "[I", true)
  | 4 => ("SisterCount$Joiner", "sums", "[I", true)
  | 5 => ("SisterCount$Joiner", "former", "[I", true)
  | _ => ("SisterCount$Joiner", "size", "I", false)
def tyX3 : Nat → FieldType := fun k => match k with
  | 0 => .array .int
  | 1 => .array .int
  | 2 => .array .int
  | 3 => .array .int
  | 4 => .array .int
  | 5 => .array .int
  | _ => .int
theorem nmX3 : ∀ a, a < 7 → ∀ b, b < 7 → a ≠ b → (TX3 a).2.1 ≠ (TX3 b).2.1 := by decide +kernel
theorem tyX3_ok : ∀ k, k < 7 → parseFieldDescriptor (TX3 k).2.2.1 = some (tyX3 k) := by decide +kernel
def RX4 : String := "SisterCount$Matcher"
def TX4 : u_T := fun k => match k with
  | 0 => ("SisterCount$Matcher", "town", "LSisterCount$Town;", true)
  | 1 => ("SisterCount$Matcher", "mates", "[I", true)
  | 2 => ("SisterCount$Matcher", "reachedFrom", "[I", true)
  | _ => ("SisterCount$Matcher", "queue", "[I", true)
def tyX4 : Nat → FieldType := fun k => match k with
  | 0 => .object "SisterCount$Town"
  | 1 => .array .int
  | 2 => .array .int
  | _ => .array .int
theorem nmX4 : ∀ a, a < 4 → ∀ b, b < 4 → a ≠ b → (TX4 a).2.1 ≠ (TX4 b).2.1 := by decide +kernel
theorem tyX4_ok : ∀ k, k < 4 → parseFieldDescriptor (TX4 k).2.2.1 = some (tyX4 k) := by decide +kernel
def RX5 : String := "SisterCount$Reader"
def TX5 : u_T := fun k => match k with
  | 0 => ("SisterCount$Reader", "tape", "LSisterCount$Tape;", true)
  | 1 => ("SisterCount$Reader", "at", "I", false)
  | 2 => ("SisterCount$Reader", "start", "I", false)
  | 3 => ("SisterCount$Reader", "kind", "I", false)
  | 4 => ("SisterCount$Reader", "number", "I", false)
  | 5 => ("SisterCount$Reader", "fault", "I", false)
  | _ => ("SisterCount$Reader", "faultPlace", "I", false)
def tyX5 : Nat → FieldType := fun k => match k with
  | 0 => .object "SisterCount$Tape"
  | 1 => .int
  | 2 => .int
  | 3 => .int
  | 4 => .int
  | 5 => .int
  | _ => .int
theorem nmX5 : ∀ a, a < 7 → ∀ b, b < 7 → a ≠ b → (TX5 a).2.1 ≠ (TX5 b).2.1 := by decide +kernel
theorem tyX5_ok : ∀ k, k < 7 → parseFieldDescriptor (TX5 k).2.2.1 = some (tyX5 k) := by decide +kernel
def RX6 : String := "SisterCount$Row"
def TX6 : u_T := fun k => match k with
  | 0 => ("SisterCount$Row", "numbers", "[J", true)
  | 1 => ("SisterCount$Row", "width", "I", false)
  | _ => ("SisterCount$Row", "length", "I", false)
def tyX6 : Nat → FieldType := fun k => match k with
  | 0 => .array .long
  | 1 => .int
  | _ => .int
theorem nmX6 : ∀ a, a < 3 → ∀ b, b < 3 → a ≠ b → (TX6 a).2.1 ≠ (TX6 b).2.1 := by decide +kernel
theorem tyX6_ok : ∀ k, k < 3 → parseFieldDescriptor (TX6 k).2.2.1 = some (tyX6 k) := by decide +kernel
def RX7 : String := "SisterCount$Tape"
def TX7 : u_T := fun k => match k with
  | 0 => ("SisterCount$Tape", "bytes", "[B", true)
  | _ => ("SisterCount$Tape", "length", "I", false)
def tyX7 : Nat → FieldType := fun k => match k with
  | 0 => .array .byte
  | _ => .int
theorem nmX7 : ∀ a, a < 2 → ∀ b, b < 2 → a ≠ b → (TX7 a).2.1 ≠ (TX7 b).2.1 := by decide +kernel
theorem tyX7_ok : ∀ k, k < 2 → parseFieldDescriptor (TX7 k).2.2.1 = some (tyX7 k) := by decide +kernel
def RX8 : String := "SisterCount$Town"
def TX8 : u_T := fun k => match k with
  | 0 => ("SisterCount$Town", "lines", "I", false)
  | 1 => ("SisterCount$Town", "from", "I", false)
  | 2 => ("SisterCount$Town", "to", "I", false)
  | 3 => ("SisterCount$Town", "houses", "I", false)
  | 4 => ("SisterCount$Town", "children", "I", false)
  | 5 => ("SisterCount$Town", "asks", "I", false)
  | 6 => ("SisterCount$Town", "yearsGone", "I", false)
  | 7 => ("SisterCount$Town", "homes", "[I", true)
  | 8 => ("SisterCount$Town", "sexes", "[I", true)
  | 9 => ("SisterCount$Town", "ages", "[I", true)
  | 10 => ("SisterCount$Town", "half", "[I", true)
  | 11 => ("SisterCount$Town", "dead", "[I", true)
  | 12 => ("SisterCount$Town", "away", "[I", true)
  | 13 => ("SisterCount$Town", "sorts", "[I", true)
  | 14 => ("SisterCount$Town", "orders", "[I", true)
  | 15 => ("SisterCount$Town", "living", "[I", true)
  | 16 => ("SisterCount$Town", "whole", "[I", true)
  | _ => ("SisterCount$Town", "slipped", "[I", true)
def tyX8 : Nat → FieldType := fun k => match k with
  | 0 => .int
  | 1 => .int
  | 2 => .int
  | 3 => .int
  | 4 => .int
  | 5 => .int
  | 6 => .int
  | 7 => .array .int
  | 8 => .array .int
  | 9 => .array .int
  | 10 => .array .int
  | 11 => .array .int
  | 12 => .array .int
  | 13 => .array .int
  | 14 => .array .int
  | 15 => .array .int
  | 16 => .array .int
  | _ => .array .int
theorem nmX8 : ∀ a, a < 18 → ∀ b, b < 18 → a ≠ b → (TX8 a).2.1 ≠ (TX8 b).2.1 := by decide +kernel
theorem tyX8_ok : ∀ k, k < 18 → parseFieldDescriptor (TX8 k).2.2.1 = some (tyX8 k) := by decide +kernel
def RX9 : String := "SisterCount"
def TX9 : u_T := fun k => match k with
  | 0 => ("SisterCount", "tape", "LSisterCount$Tape;", true)
  | 1 => ("SisterCount", "reader", "LSisterCount$Reader;", true)
  | 2 => ("SisterCount", "now", "LSisterCount$Town;", true)
  | 3 => ("SisterCount", "draft", "LSisterCount$Town;", true)
  | 4 => ("SisterCount", "images", "[LSisterCount$Town;", true)
  | 5 => ("SisterCount", "imagesKept", "I", false)
  | 6 => ("SisterCount", "slots", "[LSisterCount$Row;", true)
  | 7 => ("SisterCount", "answers", "LSisterCount$Answers;", true)
  | 8 => ("SisterCount", "chooser", "LSisterCount$Chooser;", true)
  | 9 => ("SisterCount", "joiner", "LSisterCount$Joiner;", true)
  | 10 => ("SisterCount", "matcher", "LSisterCount$Matcher;", true)
  | _ => ("SisterCount", "household", "LSisterCount$Household;", true)
def tyX9 : Nat → FieldType := fun k => match k with
  | 0 => .object "SisterCount$Tape"
  | 1 => .object "SisterCount$Reader"
  | 2 => .object "SisterCount$Town"
  | 3 => .object "SisterCount$Town"
  | 4 => .array (.object "SisterCount$Town")
  | 5 => .int
  | 6 => .array (.object "SisterCount$Row")
  | 7 => .object "SisterCount$Answers"
  | 8 => .object "SisterCount$Chooser"
  | 9 => .object "SisterCount$Joiner"
  | 10 => .object "SisterCount$Matcher"
  | _ => .object "SisterCount$Household"
theorem nmX9 : ∀ a, a < 12 → ∀ b, b < 12 → a ≠ b → (TX9 a).2.1 ≠ (TX9 b).2.1 := by decide +kernel
theorem tyX9_ok : ∀ k, k < 12 → parseFieldDescriptor (TX9 k).2.2.1 = some (tyX9 k) := by decide +kernel
def RX10 : String := "SisterCountModel"
def TX10 : u_T := fun k => match k with
  | 0 => ("SisterCountModel", "thrown", "I", false)
  | 1 => ("SisterCountModel", "world", "[I", true)
  | 2 => ("SisterCountModel", "images", "[I", true)
  | 3 => ("SisterCountModel", "hasImage", "[Z", true)
  | 4 => ("SisterCountModel", "tape", "[B", true)
  | 5 => ("SisterCountModel", "taped", "I", false)
  | 6 => ("SisterCountModel", "five", "[I", true)
  | 7 => ("SisterCountModel", "size", "I", false)
  | 8 => ("SisterCountModel", "at", "I", false)
  | 9 => ("SisterCountModel", "from", "I", false)
  | 10 => ("SisterCountModel", "token", "I", false)
  | 11 => ("SisterCountModel", "value", "I", false)
  | 12 => ("SisterCountModel", "faultKind", "I", false)
  | 13 => ("SisterCountModel", "faultPlace", "I", false)
  | 14 => ("SisterCountModel", "fresh", "[I", true)
  | 15 => ("SisterCountModel", "answers", "[I", true)
  | 16 => ("SisterCountModel", "girlsOf", "[I", true)
  | 17 => ("SisterCountModel", "boysOf", "[I", true)
  | 18 => ("SisterCountModel", "isBoy", "[I", true)
  | 19 => ("SisterCountModel", "toldMany", "I", false)
  | 20 => ("SisterCountModel", "oneOf", "I", false)
  | 21 => ("SisterCountModel", "otherOf", "I", false)
  | 22 => ("SisterCountModel", "ways", "[I", true)
  | 23 => ("SisterCountModel", "fewGirls", "[I", true)
  | 24 => ("SisterCountModel", "mostGirls", "[I", true)
  | 25 => ("SisterCountModel", "mayBe", "[Z", true)
  | 26 => ("SisterCountModel", "withOut", "I", false)
  | 27 => ("SisterCountModel", "oneHouse", "I", false)
  | 28 => ("SisterCountModel", "otherHouse", "I", false)
  | 29 => ("SisterCountModel", "yearsBetween", "I", false)
  | 30 => ("SisterCountModel", "wife", "[I", true)
  | 31 => ("SisterCountModel", "askedBy", "[I", true)
  | 32 => ("SisterCountModel", "husband", "[I", true)
  | 33 => ("SisterCountModel", "queue", "[I", true)
  | 34 => ("SisterCountModel", "sleepers", "[I", true)
  | 35 => ("SisterCountModel", "leastSet", "[I", true)
  | 36 => ("SisterCountModel", "drawn", "J", false)
  | 37 => ("SisterCountModel", "many", "[I", true)
  | 38 => ("SisterCountModel", "width", "[I", true)
  | 39 => ("SisterCountModel", "numbers", "[J", true)
  | _ => ("SisterCountModel", "moving", "[J", true)
def tyX10 : Nat → FieldType := fun k => match k with
  | 0 => .int
  | 1 => .array .int
  | 2 => .array .int
  | 3 => .array .boolean
  | 4 => .array .byte
  | 5 => .int
  | 6 => .array .int
  | 7 => .int
  | 8 => .int
  | 9 => .int
  | 10 => .int
  | 11 => .int
  | 12 => .int
  | 13 => .int
  | 14 => .array .int
  | 15 => .array .int
  | 16 => .array .int
  | 17 => .array .int
  | 18 => .array .int
  | 19 => .int
  | 20 => .int
  | 21 => .int
  | 22 => .array .int
  | 23 => .array .int
  | 24 => .array .int
  | 25 => .array .boolean
  | 26 => .int
  | 27 => .int
  | 28 => .int
  | 29 => .int
  | 30 => .array .int
  | 31 => .array .int
  | 32 => .array .int
  | 33 => .array .int
  | 34 => .array .int
  | 35 => .array .int
  | 36 => .long
  | 37 => .array .int
  | 38 => .array .int
  | 39 => .array .long
  | _ => .array .long
theorem nmX10 : ∀ a, a < 41 → ∀ b, b < 41 → a ≠ b → (TX10 a).2.1 ≠ (TX10 b).2.1 := by decide +kernel
theorem tyX10_ok : ∀ k, k < 41 → parseFieldDescriptor (TX10 k).2.2.1 = some (tyX10 k) := by decide +kernel
abbrev vwCl : List vw_C := [(RX0, TX0, 3), (RX1, TX1, 6), (RX2, TX2, 2), (RX3, TX3, 7), (RX4, TX4, 4), (RX5, TX5, 7), (RX6, TX6, 3), (RX7, TX7, 2), (RX8, TX8, 18), (RX9, TX9, 12), (RX10, TX10, 41)]
def q_dY (ci k : Nat) : FieldType := match ci with
  | 0 => tyX0 k
  | 1 => tyX1 k
  | 2 => tyX2 k
  | 3 => tyX3 k
  | 4 => tyX4 k
  | 5 => tyX5 k
  | 6 => tyX6 k
  | 7 => tyX7 k
  | 8 => tyX8 k
  | 9 => tyX9 k
  | _ => tyX10 k
def q_dA : List FieldType := [.int, .long, .byte, .boolean, .object "SisterCount$Town", .object "SisterCount$Row"]
def q_dN : List (String × Nat × MethodName × String) := [("SisterCount", 9, ⟨"SisterCount$Tape", "<init>", "()V"⟩, "SisterCount"), ("SisterCount", 27, ⟨"SisterCount$Town", "<init>", "()V"⟩, "SisterCount"), ("SisterCount", 67, ⟨"SisterCount$Joiner", "<init>", "()V"⟩, "SisterCount"), ("SisterCount", 86, ⟨"SisterCount$Row", "<init>", "()V"⟩, "SisterCount"), ("SisterCount$Town", 104, ⟨"SisterCount", "isIn", "(II)Z"⟩, "SisterCount"), ("SisterCount$Chooser", 64, ⟨"SisterCount", "isIn", "(II)Z"⟩, "SisterCount"), ("SisterCount$Answers", 39, ⟨"SisterCount", "isIn", "(II)Z"⟩, "SisterCount"), ("SisterCount$Matcher", 59, ⟨"SisterCount", "isIn", "(II)Z"⟩, "SisterCount")]
