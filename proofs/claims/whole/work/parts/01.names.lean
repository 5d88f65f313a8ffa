def RX0 : String := "LooseWater$Balance"
def TX0 : u_T := fun k => match k with
  | 0 => ("LooseWater$Balance", "arms", "[I", false)
  | 1 => ("LooseWater$Balance", "breadth", "I", false)
  | 2 => ("LooseWater$Balance", "total", "J", false)
  | 3 => ("LooseWater$Balance", "upward", "J", false)
  | 4 => ("LooseWater$Balance", "moment", "J", false)
  | 5 => ("LooseWater$Balance", "loose", "I", false)
  | 6 => ("LooseWater$Balance", "spread", "[J", true)
  | _ => ("LooseWater$Balance", "bulk", "[J", true)
def tyX0 : Nat → FieldType := fun k => match k with
  | 0 => .array .int
  | 1 => .int
  | 2 => .long
  | 3 => .long
  | 4 => .long
  | 5 => .int
  | 6 => .array .long
  | _ => .array .long
abbrev wsX00 : List Cond := u_ws RX0 TX0 8
theorem nmX0 : ∀ a, a < 8 → ∀ b, b < 8 → a ≠ b → (TX0 a).2.1 ≠ (TX0 b).2.1 := by decide +kernel
theorem tyX0_ok : ∀ k, k < 8 → parseFieldDescriptor (TX0 k).2.2.1 = some (tyX0 k) := by decide +kernel
def RX1 : String := "LooseWater$BestSearch"
def TX1 : u_T := fun k => match k with
  | 0 => ("LooseWater$BestSearch", "rounds", "LLooseWater$Rounds;", true)
  | 1 => ("LooseWater$BestSearch", "planned", "I", false)
  | 2 => ("LooseWater$BestSearch", "stages", "I", false)
  | 3 => ("LooseWater$BestSearch", "length", "I", false)
  | 4 => ("LooseWater$BestSearch", "tried", "[I", true)
  | 5 => ("LooseWater$BestSearch", "row", "[I", true)
  | 6 => ("LooseWater$BestSearch", "least", "I", false)
  | _ => ("LooseWater$BestSearch", "states", "[I", true)
def tyX1 : Nat → FieldType := fun k => match k with
  | 0 => .object "LooseWater$Rounds"
  | 1 => .int
  | 2 => .int
  | 3 => .int
  | 4 => .array .int
  | 5 => .array .int
  | 6 => .int
  | _ => .array .int
abbrev wsX10 : List Cond := u_ws RX1 TX1 8
theorem nmX1 : ∀ a, a < 8 → ∀ b, b < 8 → a ≠ b → (TX1 a).2.1 ≠ (TX1 b).2.1 := by decide +kernel
theorem tyX1_ok : ∀ k, k < 8 → parseFieldDescriptor (TX1 k).2.2.1 = some (tyX1 k) := by decide +kernel
def RX2 : String := "LooseWater$Cargoes"
def TX2 : u_T := fun k => match k with
  | 0 => ("LooseWater$Cargoes", "size", "I", false)
  | 1 => ("LooseWater$Cargoes", "weight", "[I", true)
  | 2 => ("LooseWater$Cargoes", "height", "[I", true)
  | 3 => ("LooseWater$Cargoes", "angle", "[I", true)
  | 4 => ("LooseWater$Cargoes", "slide", "[I", true)
  | _ => ("LooseWater$Cargoes", "slid", "[I", true)
def tyX2 : Nat → FieldType := fun k => match k with
  | 0 => .int
  | 1 => .array .int
  | 2 => .array .int
  | 3 => .array .int
  | 4 => .array .int
  | _ => .array .int
abbrev wsX20 : List Cond := u_ws RX2 TX2 6
theorem nmX2 : ∀ a, a < 6 → ∀ b, b < 6 → a ≠ b → (TX2 a).2.1 ≠ (TX2 b).2.1 := by decide +kernel
theorem tyX2_ok : ∀ k, k < 6 → parseFieldDescriptor (TX2 k).2.2.1 = some (tyX2 k) := by decide +kernel
def RX3 : String := "LooseWater$Loads"
def TX3 : u_T := fun k => match k with
  | 0 => ("LooseWater$Loads", "size", "I", false)
  | 1 => ("LooseWater$Loads", "weight", "[I", true)
  | _ => ("LooseWater$Loads", "height", "[I", true)
def tyX3 : Nat → FieldType := fun k => match k with
  | 0 => .int
  | 1 => .array .int
  | _ => .array .int
abbrev wsX30 : List Cond := u_ws RX3 TX3 3
theorem nmX3 : ∀ a, a < 3 → ∀ b, b < 3 → a ≠ b → (TX3 a).2.1 ≠ (TX3 b).2.1 := by decide +kernel
theorem tyX3_ok : ∀ k, k < 3 → parseFieldDescriptor (TX3 k).2.2.1 = some (tyX3 k) := by decide +kernel
def RX4 : String := "LooseWater$Openings"
def TX4 : u_T := fun k => match k with
  | 0 => ("LooseWater$Openings", "size", "I", false)
  | 1 => ("LooseWater$Openings", "place", "[I", true)
  | 2 => ("LooseWater$Openings", "side", "[I", true)
  | 3 => ("LooseWater$Openings", "sill", "[I", true)
  | _ => ("LooseWater$Openings", "width", "[I", true)
def tyX4 : Nat → FieldType := fun k => match k with
  | 0 => .int
  | 1 => .array .int
  | 2 => .array .int
  | 3 => .array .int
  | _ => .array .int
abbrev wsX40 : List Cond := u_ws RX4 TX4 5
theorem nmX4 : ∀ a, a < 5 → ∀ b, b < 5 → a ≠ b → (TX4 a).2.1 ≠ (TX4 b).2.1 := by decide +kernel
theorem tyX4_ok : ∀ k, k < 5 → parseFieldDescriptor (TX4 k).2.2.1 = some (tyX4 k) := by decide +kernel
def RX5 : String := "LooseWater$OrderSearch"
def TX5 : u_T := fun k => match k with
  | 0 => ("LooseWater$OrderSearch", "balance", "LLooseWater$Balance;", true)
  | 1 => ("LooseWater$OrderSearch", "members", "[I", true)
  | 2 => ("LooseWater$OrderSearch", "size", "I", false)
  | 3 => ("LooseWater$OrderSearch", "bound", "I", false)
  | 4 => ("LooseWater$OrderSearch", "row", "[I", true)
  | _ => ("LooseWater$OrderSearch", "hopeless", "[J", true)
def tyX5 : Nat → FieldType := fun k => match k with
  | 0 => .object "LooseWater$Balance"
  | 1 => .array .int
  | 2 => .int
  | 3 => .int
  | 4 => .array .int
  | _ => .array .long
abbrev wsX50 : List Cond := u_ws RX5 TX5 6
theorem nmX5 : ∀ a, a < 6 → ∀ b, b < 6 → a ≠ b → (TX5 a).2.1 ≠ (TX5 b).2.1 := by decide +kernel
theorem tyX5_ok : ∀ k, k < 6 → parseFieldDescriptor (TX5 k).2.2.1 = some (tyX5 k) := by decide +kernel
def RX6 : String := "LooseWater$Places"
def TX6 : u_T := fun k => match k with
  | 0 => ("LooseWater$Places", "size", "I", false)
  | 1 => ("LooseWater$Places", "bottom", "[I", true)
  | 2 => ("LooseWater$Places", "depth", "[I", true)
  | 3 => ("LooseWater$Places", "breadth", "[I", true)
  | 4 => ("LooseWater$Places", "length", "[I", true)
  | 5 => ("LooseWater$Places", "walls", "[I", true)
  | 6 => ("LooseWater$Places", "off", "[I", true)
  | 7 => ("LooseWater$Places", "cap", "[I", true)
  | 8 => ("LooseWater$Places", "water", "[I", true)
  | 9 => ("LooseWater$Places", "level", "[I", true)
  | 10 => ("LooseWater$Places", "spread", "[J", true)
  | _ => ("LooseWater$Places", "bulk", "[I", true)
def tyX6 : Nat → FieldType := fun k => match k with
  | 0 => .int
  | 1 => .array .int
  | 2 => .array .int
  | 3 => .array .int
  | 4 => .array .int
  | 5 => .array .int
  | 6 => .array .int
  | 7 => .array .int
  | 8 => .array .int
  | 9 => .array .int
  | 10 => .array .long
  | _ => .array .int
abbrev wsX60 : List Cond := u_ws RX6 TX6 12
theorem nmX6 : ∀ a, a < 12 → ∀ b, b < 12 → a ≠ b → (TX6 a).2.1 ≠ (TX6 b).2.1 := by decide +kernel
theorem tyX6_ok : ∀ k, k < 12 → parseFieldDescriptor (TX6 k).2.2.1 = some (tyX6 k) := by decide +kernel
def RX7 : String := "LooseWater$Plan"
def TX7 : u_T := fun k => match k with
  | 0 => ("LooseWater$Plan", "clauses", "I", false)
  | 1 => ("LooseWater$Plan", "verb", "[I", true)
  | 2 => ("LooseWater$Plan", "first", "[I", true)
  | 3 => ("LooseWater$Plan", "second", "[I", true)
  | 4 => ("LooseWater$Plan", "figure", "[I", true)
  | 5 => ("LooseWater$Plan", "sumFrom", "[I", true)
  | 6 => ("LooseWater$Plan", "testFrom", "[I", true)
  | 7 => ("LooseWater$Plan", "testTo", "[I", true)
  | 8 => ("LooseWater$Plan", "coded", "I", false)
  | _ => ("LooseWater$Plan", "code", "[I", true)
def tyX7 : Nat → FieldType := fun k => match k with
  | 0 => .int
  | 1 => .array .int
  | 2 => .array .int
  | 3 => .array .int
  | 4 => .array .int
  | 5 => .array .int
  | 6 => .array .int
  | 7 => .array .int
  | 8 => .int
  | _ => .array .int
abbrev wsX70 : List Cond := u_ws RX7 TX7 10
theorem nmX7 : ∀ a, a < 10 → ∀ b, b < 10 → a ≠ b → (TX7 a).2.1 ≠ (TX7 b).2.1 := by decide +kernel
theorem tyX7_ok : ∀ k, k < 10 → parseFieldDescriptor (TX7 k).2.2.1 = some (tyX7 k) := by decide +kernel
def RX8 : String := "LooseWater$Reader"
def TX8 : u_T := fun k => match k with
  | 0 => ("LooseWater$Reader", "draft", "LLooseWater$Plan;", true)
  | 1 => ("LooseWater$Reader", "tokens", "I", false)
  | 2 => ("LooseWater$Reader", "kinds", "[I", true)
  | 3 => ("LooseWater$Reader", "starts", "[I", true)
  | 4 => ("LooseWater$Reader", "numbers", "[I", true)
  | 5 => ("LooseWater$Reader", "at", "I", false)
  | 6 => ("LooseWater$Reader", "counted", "I", false)
  | _ => ("LooseWater$Reader", "fault", "I", false)
def tyX8 : Nat → FieldType := fun k => match k with
  | 0 => .object "LooseWater$Plan"
  | 1 => .int
  | 2 => .array .int
  | 3 => .array .int
  | 4 => .array .int
  | 5 => .int
  | 6 => .int
  | _ => .int
abbrev wsX80 : List Cond := u_ws RX8 TX8 8
theorem nmX8 : ∀ a, a < 8 → ∀ b, b < 8 → a ≠ b → (TX8 a).2.1 ≠ (TX8 b).2.1 := by decide +kernel
theorem tyX8_ok : ∀ k, k < 8 → parseFieldDescriptor (TX8 k).2.2.1 = some (tyX8 k) := by decide +kernel
def RX9 : String := "LooseWater$Rounds"
def TX9 : u_T := fun k => match k with
  | 0 => ("LooseWater$Rounds", "balance", "LLooseWater$Balance;", true)
  | _ => ("LooseWater$Rounds", "stack", "[J", true)
def tyX9 : Nat → FieldType := fun k => match k with
  | 0 => .object "LooseWater$Balance"
  | _ => .array .long
abbrev wsX90 : List Cond := u_ws RX9 TX9 2
theorem nmX9 : ∀ a, a < 2 → ∀ b, b < 2 → a ≠ b → (TX9 a).2.1 ≠ (TX9 b).2.1 := by decide +kernel
theorem tyX9_ok : ∀ k, k < 2 → parseFieldDescriptor (TX9 k).2.2.1 = some (tyX9 k) := by decide +kernel
def RX10 : String := "LooseWater$Ship"
def TX10 : u_T := fun k => match k with
  | 0 => ("LooseWater$Ship", "begun", "Z", false)
  | 1 => ("LooseWater$Ship", "breadth", "I", false)
  | 2 => ("LooseWater$Ship", "weight", "I", false)
  | 3 => ("LooseWater$Ship", "height", "I", false)
  | 4 => ("LooseWater$Ship", "takes", "I", false)
  | 5 => ("LooseWater$Ship", "aside", "I", false)
  | 6 => ("LooseWater$Ship", "pace", "I", false)
  | 7 => ("LooseWater$Ship", "lean", "I", false)
  | 8 => ("LooseWater$Ship", "round", "I", false)
  | 9 => ("LooseWater$Ship", "total", "I", false)
  | 10 => ("LooseWater$Ship", "arms", "[I", true)
  | 11 => ("LooseWater$Ship", "places", "LLooseWater$Places;", true)
  | 12 => ("LooseWater$Ship", "cargoes", "LLooseWater$Cargoes;", true)
  | 13 => ("LooseWater$Ship", "doors", "LLooseWater$Openings;", true)
  | 14 => ("LooseWater$Ship", "ports", "LLooseWater$Openings;", true)
  | _ => ("LooseWater$Ship", "loads", "LLooseWater$Loads;", true)
def tyX10 : Nat → FieldType := fun k => match k with
  | 0 => .boolean
  | 1 => .int
  | 2 => .int
  | 3 => .int
  | 4 => .int
  | 5 => .int
  | 6 => .int
  | 7 => .int
  | 8 => .int
  | 9 => .int
  | 10 => .array .int
  | 11 => .object "LooseWater$Places"
  | 12 => .object "LooseWater$Cargoes"
  | 13 => .object "LooseWater$Openings"
  | 14 => .object "LooseWater$Openings"
  | _ => .object "LooseWater$Loads"
abbrev wsX100 : List Cond := u_ws RX10 TX10 16
theorem nmX10 : ∀ a, a < 16 → ∀ b, b < 16 → a ≠ b → (TX10 a).2.1 ≠ (TX10 b).2.1 := by decide +kernel
theorem tyX10_ok : ∀ k, k < 16 → parseFieldDescriptor (TX10 k).2.2.1 = some (tyX10 k) := by decide +kernel
def RX11 : String := "LooseWater"
def TX11 : u_T := fun k => match k with
  | 0 => ("LooseWater", "vessel", "LLooseWater$Ship;", true)
  | 1 => ("LooseWater", "images", "[LLooseWater$Ship;", true)
  | 2 => ("LooseWater", "plans", "[LLooseWater$Plan;", true)
  | 3 => ("LooseWater", "planned", "I", false)
  | 4 => ("LooseWater", "tape", "[I", true)
  | 5 => ("LooseWater", "taped", "I", false)
  | 6 => ("LooseWater", "reader", "LLooseWater$Reader;", true)
  | 7 => ("LooseWater", "balance", "LLooseWater$Balance;", true)
  | 8 => ("LooseWater", "rounds", "LLooseWater$Rounds;", true)
  | 9 => ("LooseWater", "orders", "LLooseWater$OrderSearch;", true)
  | 10 => ("LooseWater", "bests", "LLooseWater$BestSearch;", true)
  | _ => ("LooseWater", "kept", "[I", true)
def tyX11 : Nat → FieldType := fun k => match k with
  | 0 => .object "LooseWater$Ship"
  | 1 => .array (.object "LooseWater$Ship")
  | 2 => .array (.object "LooseWater$Plan")
  | 3 => .int
  | 4 => .array .int
  | 5 => .int
  | 6 => .object "LooseWater$Reader"
  | 7 => .object "LooseWater$Balance"
  | 8 => .object "LooseWater$Rounds"
  | 9 => .object "LooseWater$OrderSearch"
  | 10 => .object "LooseWater$BestSearch"
  | _ => .array .int
abbrev wsX110 : List Cond := u_ws RX11 TX11 12
theorem nmX11 : ∀ a, a < 12 → ∀ b, b < 12 → a ≠ b → (TX11 a).2.1 ≠ (TX11 b).2.1 := by decide +kernel
theorem tyX11_ok : ∀ k, k < 12 → parseFieldDescriptor (TX11 k).2.2.1 = some (tyX11 k) := by decide +kernel
def RX12 : String := "LooseWaterModel"
def TX12 : u_T := fun k => match k with
  | 0 => ("LooseWaterModel", "thrown", "I", false)
  | 1 => ("LooseWaterModel", "scalar", "[I", true)
  | 2 => ("LooseWaterModel", "levers", "[I", true)
  | 3 => ("LooseWaterModel", "loadWeight", "[I", true)
  | 4 => ("LooseWaterModel", "loadHeight", "[I", true)
  | 5 => ("LooseWaterModel", "bottom", "[I", true)
  | 6 => ("LooseWaterModel", "depth", "[I", true)
  | 7 => ("LooseWaterModel", "breadth", "[I", true)
  | 8 => ("LooseWaterModel", "length", "[I", true)
  | 9 => ("LooseWaterModel", "parted", "[I", true)
  | 10 => ("LooseWaterModel", "off", "[I", true)
  | 11 => ("LooseWaterModel", "wet", "[I", true)
  | 12 => ("LooseWaterModel", "cargoWeight", "[I", true)
  | 13 => ("LooseWaterModel", "cargoHeight", "[I", true)
  | 14 => ("LooseWaterModel", "cargoAngle", "[I", true)
  | 15 => ("LooseWaterModel", "cargoSlide", "[I", true)
  | 16 => ("LooseWaterModel", "cargoSlid", "[I", true)
  | 17 => ("LooseWaterModel", "doorPlace", "[I", true)
  | 18 => ("LooseWaterModel", "doorSide", "[I", true)
  | 19 => ("LooseWaterModel", "doorSill", "[I", true)
  | 20 => ("LooseWaterModel", "doorWidth", "[I", true)
  | 21 => ("LooseWaterModel", "portPlace", "[I", true)
  | 22 => ("LooseWaterModel", "portSide", "[I", true)
  | 23 => ("LooseWaterModel", "portSill", "[I", true)
  | 24 => ("LooseWaterModel", "portWidth", "[I", true)
  | 25 => ("LooseWaterModel", "moreWeight", "I", false)
  | 26 => ("LooseWaterModel", "moreUp", "J", false)
  | 27 => ("LooseWaterModel", "taped", "I", false)
  | 28 => ("LooseWaterModel", "p", "I", false)
  | 29 => ("LooseWaterModel", "fault", "I", false)
  | 30 => ("LooseWaterModel", "slot", "I", false)
  | 31 => ("LooseWaterModel", "plans", "I", false)
  | 32 => ("LooseWaterModel", "entries", "I", false)
  | 33 => ("LooseWaterModel", "deep", "I", false)
  | 34 => ("LooseWaterModel", "counted", "I", false)
  | 35 => ("LooseWaterModel", "opened", "I", false)
  | 36 => ("LooseWaterModel", "words", "I", false)
  | 37 => ("LooseWaterModel", "tape", "[B", true)
  | 38 => ("LooseWaterModel", "sort", "[I", true)
  | 39 => ("LooseWaterModel", "number", "[I", true)
  | 40 => ("LooseWaterModel", "clauses", "[I", true)
  | 41 => ("LooseWaterModel", "told", "[I", true)
  | 42 => ("LooseWaterModel", "first", "[I", true)
  | 43 => ("LooseWaterModel", "second", "[I", true)
  | 44 => ("LooseWaterModel", "much", "[I", true)
  | 45 => ("LooseWaterModel", "sumAt", "[I", true)
  | 46 => ("LooseWaterModel", "testAt", "[I", true)
  | 47 => ("LooseWaterModel", "endAt", "[I", true)
  | 48 => ("LooseWaterModel", "open", "[I", true)
  | 49 => ("LooseWaterModel", "asked", "[J", true)
  | 50 => ("LooseWaterModel", "stack", "[J", true)
  | 51 => ("LooseWaterModel", "images", "[I", true)
  | 52 => ("LooseWaterModel", "isMade", "[Z", true)
  | 53 => ("LooseWaterModel", "imageAt", "I", false)
  | 54 => ("LooseWaterModel", "goesBack", "Z", false)
  | _ => ("LooseWaterModel", "row", "[I", true)
def tyX12 : Nat → FieldType := fun k => match k with
  | 0 => .int
  | 1 => .array .int
  | 2 => .array .int
  | 3 => .array .int
  | 4 => .array .int
  | 5 => .array .int
  | 6 => .array .int
  | 7 => .array .int
  | 8 => .array .int
  | 9 => .array .int
  | 10 => .array .int
  | 11 => .array .int
  | 12 => .array .int
  | 13 => .array .int
  | 14 => .array .int
  | 15 => .array .int
  | 16 => .array .int
  | 17 => .array .int
  | 18 => .array .int
  | 19 => .array .int
  | 20 => .array .int
  | 21 => .array .int
  | 22 => .array .int
  | 23 => .array .int
  | 24 => .array .int
  | 25 => .int
  | 26 => .long
  | 27 => .int
  | 28 => .int
  | 29 => .int
  | 30 => .int
  | 31 => .int
  | 32 => .int
  | 33 => .int
  | 34 => .int
  | 35 => .int
  | 36 => .int
  | 37 => .array .byte
  | 38 => .array .int
  | 39 => .array .int
  | 40 => .array .int
  | 41 => .array .int
  | 42 => .array .int
  | 43 => .array .int
  | 44 => .array .int
  | 45 => .array .int
  | 46 => .array .int
  | 47 => .array .int
  | 48 => .array .int
  | 49 => .array .long
  | 50 => .array .long
  | 51 => .array .int
  | 52 => .array .boolean
  | 53 => .int
  | 54 => .boolean
  | _ => .array .int
abbrev wsX120 : List Cond := u_ws RX12 TX12 56
theorem nmX12 : ∀ a, a < 56 → ∀ b, b < 56 → a ≠ b → (TX12 a).2.1 ≠ (TX12 b).2.1 := by decide +kernel
theorem tyX12_ok : ∀ k, k < 56 → parseFieldDescriptor (TX12 k).2.2.1 = some (tyX12 k) := by decide +kernel
abbrev cX0_init : ByteArray := prog_2_method_1_code
def yX0_init : MethodName := ⟨"LooseWater$Balance", "<init>", "()V"⟩
abbrev cX0_take : ByteArray := prog_2_method_2_code
def yX0_take : MethodName := ⟨"LooseWater$Balance", "take", "(LLooseWater$Ship;)V"⟩
abbrev cX0_bear : ByteArray := prog_2_method_3_code
def yX0_bear : MethodName := ⟨"LooseWater$Balance", "bear", "(II)V"⟩
abbrev cX0_upsetting : ByteArray := prog_2_method_4_code
def yX0_upsetting : MethodName := ⟨"LooseWater$Balance", "upsetting", "(I)J"⟩
abbrev cX0_turning : ByteArray := prog_2_method_5_code
def yX0_turning : MethodName := ⟨"LooseWater$Balance", "turning", "(I)J"⟩
abbrev cX0_restFrom : ByteArray := prog_2_method_6_code
def yX0_restFrom : MethodName := ⟨"LooseWater$Balance", "restFrom", "(II)I"⟩
abbrev cX0_stiffness : ByteArray := prog_2_method_7_code
def yX0_stiffness : MethodName := ⟨"LooseWater$Balance", "stiffness", "()J"⟩
abbrev cX0_beat : ByteArray := prog_2_method_8_code
def yX0_beat : MethodName := ⟨"LooseWater$Balance", "beat", "()I"⟩
abbrev cX0_lolls : ByteArray := prog_2_method_9_code
def yX0_lolls : MethodName := ⟨"LooseWater$Balance", "lolls", "()Z"⟩
abbrev cX0_loll : ByteArray := prog_2_method_10_code
def yX0_loll : MethodName := ⟨"LooseWater$Balance", "loll", "()I"⟩
abbrev cX0_range : ByteArray := prog_2_method_11_code
def yX0_range : MethodName := ⟨"LooseWater$Balance", "range", "(I)I"⟩
abbrev cX1_init : ByteArray := prog_3_method_1_code
def yX1_init : MethodName := ⟨"LooseWater$BestSearch", "<init>", "()V"⟩
abbrev cX1_begin : ByteArray := prog_3_method_2_code
def yX1_begin : MethodName := ⟨"LooseWater$BestSearch", "begin", "(LLooseWater$Ship;III)V"⟩
abbrev cX1_extend : ByteArray := prog_3_method_3_code
def yX1_extend : MethodName := ⟨"LooseWater$BestSearch", "extend", "(LLooseWater$Ship;[LLooseWater$Plan;II)V"⟩
abbrev cX2_init : ByteArray := prog_4_method_1_code
def yX2_init : MethodName := ⟨"LooseWater$Cargoes", "<init>", "()V"⟩
abbrev cX2_add : ByteArray := prog_4_method_2_code
def yX2_add : MethodName := ⟨"LooseWater$Cargoes", "add", "(IIII)I"⟩
abbrev cX2_giveWay : ByteArray := prog_4_method_3_code
def yX2_giveWay : MethodName := ⟨"LooseWater$Cargoes", "giveWay", "(I)V"⟩
abbrev cX2_copy : ByteArray := prog_4_method_4_code
def yX2_copy : MethodName := ⟨"LooseWater$Cargoes", "copy", "(LLooseWater$Cargoes;)V"⟩
abbrev cX3_init : ByteArray := prog_5_method_1_code
def yX3_init : MethodName := ⟨"LooseWater$Loads", "<init>", "()V"⟩
abbrev cX3_add : ByteArray := prog_5_method_2_code
def yX3_add : MethodName := ⟨"LooseWater$Loads", "add", "(II)I"⟩
abbrev cX3_copy : ByteArray := prog_5_method_3_code
def yX3_copy : MethodName := ⟨"LooseWater$Loads", "copy", "(LLooseWater$Loads;)V"⟩
abbrev cX4_init : ByteArray := prog_6_method_1_code
def yX4_init : MethodName := ⟨"LooseWater$Openings", "<init>", "()V"⟩
abbrev cX4_add : ByteArray := prog_6_method_2_code
def yX4_add : MethodName := ⟨"LooseWater$Openings", "add", "(IIII)I"⟩
abbrev cX4_copy : ByteArray := prog_6_method_3_code
def yX4_copy : MethodName := ⟨"LooseWater$Openings", "copy", "(LLooseWater$Openings;)V"⟩
abbrev cX5_init : ByteArray := prog_7_method_1_code
def yX5_init : MethodName := ⟨"LooseWater$OrderSearch", "<init>", "()V"⟩
abbrev cX5_find : ByteArray := prog_7_method_2_code
def yX5_find : MethodName := ⟨"LooseWater$OrderSearch", "find", "(LLooseWater$Ship;II)Z"⟩
abbrev cX5_extend : ByteArray := prog_7_method_3_code
def yX5_extend : MethodName := ⟨"LooseWater$OrderSearch", "extend", "(LLooseWater$Ship;III)Z"⟩
abbrev cX5_fillUp : ByteArray := prog_7_method_4_code
def yX5_fillUp : MethodName := ⟨"LooseWater$OrderSearch", "fillUp", "(LLooseWater$Ship;II)I"⟩
abbrev cX6_init : ByteArray := prog_8_method_1_code
def yX6_init : MethodName := ⟨"LooseWater$Places", "<init>", "()V"⟩
abbrev cX6_add : ByteArray := prog_8_method_2_code
def yX6_add : MethodName := ⟨"LooseWater$Places", "add", "(IIII)I"⟩
abbrev cX6_part : ByteArray := prog_8_method_3_code
def yX6_part : MethodName := ⟨"LooseWater$Places", "part", "(II)V"⟩
abbrev cX6_hold : ByteArray := prog_8_method_4_code
def yX6_hold : MethodName := ⟨"LooseWater$Places", "hold", "(II)V"⟩
abbrev cX6_hundredths : ByteArray := prog_8_method_5_code
def yX6_hundredths : MethodName := ⟨"LooseWater$Places", "hundredths", "(II)I"⟩
abbrev cX6_allWater : ByteArray := prog_8_method_6_code
def yX6_allWater : MethodName := ⟨"LooseWater$Places", "allWater", "()I"⟩
abbrev cX6_sloshing : ByteArray := prog_8_method_7_code
def yX6_sloshing : MethodName := ⟨"LooseWater$Places", "sloshing", "(I)I"⟩
abbrev cX6_copy : ByteArray := prog_8_method_8_code
def yX6_copy : MethodName := ⟨"LooseWater$Places", "copy", "(LLooseWater$Places;)V"⟩
abbrev cX7_init : ByteArray := prog_9_method_1_code
def yX7_init : MethodName := ⟨"LooseWater$Plan", "<init>", "()V"⟩
abbrev cX7_copy : ByteArray := prog_9_method_2_code
def yX7_copy : MethodName := ⟨"LooseWater$Plan", "copy", "(LLooseWater$Plan;)V"⟩
abbrev cX8_init : ByteArray := prog_10_method_1_code
def yX8_init : MethodName := ⟨"LooseWater$Reader", "<init>", "()V"⟩
abbrev cX8_read : ByteArray := prog_10_method_2_code
def yX8_read : MethodName := ⟨"LooseWater$Reader", "read", "([II)I"⟩
abbrev cX8_scan : ByteArray := prog_10_method_3_code
def yX8_scan : MethodName := ⟨"LooseWater$Reader", "scan", "([II)V"⟩
abbrev cX8_put : ByteArray := prog_10_method_4_code
def yX8_put : MethodName := ⟨"LooseWater$Reader", "put", "(III)V"⟩
abbrev cX8_rangeEnd : ByteArray := prog_10_method_5_code
def yX8_rangeEnd : MethodName := ⟨"LooseWater$Reader", "rangeEnd", "([IIIII)I"⟩
abbrev cX8_numeral : ByteArray := prog_10_method_6_code
def yX8_numeral : MethodName := ⟨"LooseWater$Reader", "numeral", "([III)I"⟩
abbrev cX8_wordAt : ByteArray := prog_10_method_7_code
def yX8_wordAt : MethodName := ⟨"LooseWater$Reader", "wordAt", "([III)I"⟩
abbrev cX8_matches : ByteArray := prog_10_method_8_code
def yX8_matches : MethodName := ⟨"LooseWater$Reader", "matches", "([IIII)Z"⟩
abbrev cX8_signOf : ByteArray := prog_10_method_9_code
def yX8_signOf : MethodName := ⟨"LooseWater$Reader", "signOf", "(IZ)I"⟩
abbrev cX8_token : ByteArray := prog_10_method_10_code
def yX8_token : MethodName := ⟨"LooseWater$Reader", "token", "()I"⟩
abbrev cX8_fail : ByteArray := prog_10_method_11_code
def yX8_fail : MethodName := ⟨"LooseWater$Reader", "fail", "(I)Z"⟩
abbrev cX8_emit : ByteArray := prog_10_method_12_code
def yX8_emit : MethodName := ⟨"LooseWater$Reader", "emit", "(I)V"⟩
abbrev cX8_clause : ByteArray := prog_10_method_13_code
def yX8_clause : MethodName := ⟨"LooseWater$Reader", "clause", "(I)Z"⟩
abbrev cX8_placeName : ByteArray := prog_10_method_14_code
def yX8_placeName : MethodName := ⟨"LooseWater$Reader", "placeName", "([II)Z"⟩
abbrev cX8_figure : ByteArray := prog_10_method_15_code
def yX8_figure : MethodName := ⟨"LooseWater$Reader", "figure", "(II)Z"⟩
abbrev cX8_test : ByteArray := prog_10_method_16_code
def yX8_test : MethodName := ⟨"LooseWater$Reader", "test", "(I)Z"⟩
abbrev cX8_fact : ByteArray := prog_10_method_17_code
def yX8_fact : MethodName := ⟨"LooseWater$Reader", "fact", "(I)Z"⟩
abbrev cX8_comparison : ByteArray := prog_10_method_18_code
def yX8_comparison : MethodName := ⟨"LooseWater$Reader", "comparison", "()Z"⟩
abbrev cX8_sum : ByteArray := prog_10_method_19_code
def yX8_sum : MethodName := ⟨"LooseWater$Reader", "sum", "()Z"⟩
abbrev cX8_value : ByteArray := prog_10_method_20_code
def yX8_value : MethodName := ⟨"LooseWater$Reader", "value", "()Z"⟩
abbrev cX9_init : ByteArray := prog_11_method_1_code
def yX9_init : MethodName := ⟨"LooseWater$Rounds", "<init>", "()V"⟩
abbrev cX9_go : ByteArray := prog_11_method_2_code
def yX9_go : MethodName := ⟨"LooseWater$Rounds", "go", "(LLooseWater$Ship;LLooseWater$Plan;)V"⟩
abbrev cX9_applies : ByteArray := prog_11_method_3_code
def yX9_applies : MethodName := ⟨"LooseWater$Rounds", "applies", "(LLooseWater$Ship;LLooseWater$Plan;I)Z"⟩
abbrev cX9_act : ByteArray := prog_11_method_4_code
def yX9_act : MethodName := ⟨"LooseWater$Rounds", "act", "(LLooseWater$Ship;LLooseWater$Plan;I)V"⟩
abbrev cX9_compute : ByteArray := prog_11_method_5_code
def yX9_compute : MethodName := ⟨"LooseWater$Rounds", "compute", "(LLooseWater$Ship;[III)J"⟩
abbrev cX9_worth : ByteArray := prog_11_method_6_code
def yX9_worth : MethodName := ⟨"LooseWater$Rounds", "worth", "(LLooseWater$Ship;I)J"⟩
abbrev cX9_joined : ByteArray := prog_11_method_7_code
def yX9_joined : MethodName := ⟨"LooseWater$Rounds", "joined", "(IJJ)J"⟩
abbrev cX10_init : ByteArray := prog_12_method_1_code
def yX10_init : MethodName := ⟨"LooseWater$Ship", "<init>", "()V"⟩
abbrev cX10_begin : ByteArray := prog_12_method_2_code
def yX10_begin : MethodName := ⟨"LooseWater$Ship", "begin", "(IIII)V"⟩
abbrev cX10_shape : ByteArray := prog_12_method_3_code
def yX10_shape : MethodName := ⟨"LooseWater$Ship", "shape", "(II)V"⟩
abbrev cX10_fillBetween : ByteArray := prog_12_method_4_code
def yX10_fillBetween : MethodName := ⟨"LooseWater$Ship", "fillBetween", "(I)V"⟩
abbrev cX10_isOver : ByteArray := prog_12_method_5_code
def yX10_isOver : MethodName := ⟨"LooseWater$Ship", "isOver", "()Z"⟩
abbrev cX10_draft : ByteArray := prog_12_method_6_code
def yX10_draft : MethodName := ⟨"LooseWater$Ship", "draft", "()I"⟩
abbrev cX10_pour : ByteArray := prog_12_method_7_code
def yX10_pour : MethodName := ⟨"LooseWater$Ship", "pour", "(II)V"⟩
abbrev cX10_add : ByteArray := prog_12_method_8_code
def yX10_add : MethodName := ⟨"LooseWater$Ship", "add", "(II)V"⟩
abbrev cX10_remove : ByteArray := prog_12_method_9_code
def yX10_remove : MethodName := ⟨"LooseWater$Ship", "remove", "(II)V"⟩
abbrev cX10_cross : ByteArray := prog_12_method_10_code
def yX10_cross : MethodName := ⟨"LooseWater$Ship", "cross", "(III)V"⟩
abbrev cX10_outerHeight : ByteArray := prog_12_method_11_code
def yX10_outerHeight : MethodName := ⟨"LooseWater$Ship", "outerHeight", "(II)I"⟩
abbrev cX10_innerHeight : ByteArray := prog_12_method_12_code
def yX10_innerHeight : MethodName := ⟨"LooseWater$Ship", "innerHeight", "(II)I"⟩
abbrev cX10_letIn : ByteArray := prog_12_method_13_code
def yX10_letIn : MethodName := ⟨"LooseWater$Ship", "letIn", "(I)V"⟩
abbrev cX10_letOut : ByteArray := prog_12_method_14_code
def yX10_letOut : MethodName := ⟨"LooseWater$Ship", "letOut", "(I)V"⟩
abbrev cX10_keep : ByteArray := prog_12_method_15_code
def yX10_keep : MethodName := ⟨"LooseWater$Ship", "keep", "([II)V"⟩
abbrev cX10_restore : ByteArray := prog_12_method_16_code
def yX10_restore : MethodName := ⟨"LooseWater$Ship", "restore", "([II)V"⟩
abbrev cX10_copy : ByteArray := prog_12_method_17_code
def yX10_copy : MethodName := ⟨"LooseWater$Ship", "copy", "(LLooseWater$Ship;)V"⟩
abbrev cX11_init : ByteArray := prog_1_method_1_code
def yX11_init : MethodName := ⟨"LooseWater", "<init>", "()V"⟩
abbrev cX11_ship : ByteArray := prog_1_method_2_code
def yX11_ship : MethodName := ⟨"LooseWater", "ship", "(IIII)Z"⟩
abbrev cX11_form : ByteArray := prog_1_method_3_code
def yX11_form : MethodName := ⟨"LooseWater", "form", "(II)I"⟩
abbrev cX11_place : ByteArray := prog_1_method_4_code
def yX11_place : MethodName := ⟨"LooseWater", "place", "(IIIIII)I"⟩
abbrev cX11_water : ByteArray := prog_1_method_5_code
def yX11_water : MethodName := ⟨"LooseWater", "water", "(II)I"⟩
abbrev cX11_walls : ByteArray := prog_1_method_6_code
def yX11_walls : MethodName := ⟨"LooseWater", "walls", "(II)I"⟩
abbrev cX11_cargo : ByteArray := prog_1_method_7_code
def yX11_cargo : MethodName := ⟨"LooseWater", "cargo", "(IIII)I"⟩
abbrev cX11_door : ByteArray := prog_1_method_8_code
def yX11_door : MethodName := ⟨"LooseWater", "door", "(IIII)I"⟩
abbrev cX11_port : ByteArray := prog_1_method_9_code
def yX11_port : MethodName := ⟨"LooseWater", "port", "(IIII)I"⟩
abbrev cX11_opened : ByteArray := prog_1_method_10_code
def yX11_opened : MethodName := ⟨"LooseWater", "opened", "(LLooseWater$Openings;IIII)I"⟩
abbrev cX11_sets : ByteArray := prog_1_method_11_code
def yX11_sets : MethodName := ⟨"LooseWater", "sets", "(II)I"⟩
abbrev cX11_feed : ByteArray := prog_1_method_12_code
def yX11_feed : MethodName := ⟨"LooseWater", "feed", "(IIIII)I"⟩
abbrev cX11_append : ByteArray := prog_1_method_13_code
def yX11_append : MethodName := ⟨"LooseWater", "append", "(I)V"⟩
abbrev cX11_end : ByteArray := prog_1_method_14_code
def yX11_end : MethodName := ⟨"LooseWater", "end", "(I)I"⟩
abbrev cX11_plan : ByteArray := prog_1_method_15_code
def yX11_plan : MethodName := ⟨"LooseWater", "plan", "()I"⟩
abbrev cX11_run : ByteArray := prog_1_method_16_code
def yX11_run : MethodName := ⟨"LooseWater", "run", "(II)I"⟩
abbrev cX11_goBy : ByteArray := prog_1_method_17_code
def yX11_goBy : MethodName := ⟨"LooseWater", "goBy", "(LLooseWater$Ship;II)V"⟩
abbrev cX11_tells : ByteArray := prog_1_method_18_code
def yX11_tells : MethodName := ⟨"LooseWater", "tells", "(I)I"⟩
abbrev cX11_up : ByteArray := prog_1_method_19_code
def yX11_up : MethodName := ⟨"LooseWater", "up", "()J"⟩
abbrev cX11_turn : ByteArray := prog_1_method_20_code
def yX11_turn : MethodName := ⟨"LooseWater", "turn", "(I)J"⟩
abbrev cX11_rest : ByteArray := prog_1_method_21_code
def yX11_rest : MethodName := ⟨"LooseWater", "rest", "(I)I"⟩
abbrev cX11_lever : ByteArray := prog_1_method_22_code
def yX11_lever : MethodName := ⟨"LooseWater", "lever", "(I)I"⟩
abbrev cX11_of : ByteArray := prog_1_method_23_code
def yX11_of : MethodName := ⟨"LooseWater", "of", "(II)I"⟩
abbrev cX11_flows : ByteArray := prog_1_method_24_code
def yX11_flows : MethodName := ⟨"LooseWater", "flows", "(II)J"⟩
abbrev cX11_inside : ByteArray := prog_1_method_25_code
def yX11_inside : MethodName := ⟨"LooseWater", "inside", "(II)I"⟩
abbrev cX11_outside : ByteArray := prog_1_method_26_code
def yX11_outside : MethodName := ⟨"LooseWater", "outside", "(I)I"⟩
abbrev cX11_slid : ByteArray := prog_1_method_27_code
def yX11_slid : MethodName := ⟨"LooseWater", "slid", "(I)I"⟩
abbrev cX11_sinks : ByteArray := prog_1_method_28_code
def yX11_sinks : MethodName := ⟨"LooseWater", "sinks", "(I)I"⟩
abbrev cX11_parts : ByteArray := prog_1_method_29_code
def yX11_parts : MethodName := ⟨"LooseWater", "parts", "(I)I"⟩
abbrev cX11_carried : ByteArray := prog_1_method_30_code
def yX11_carried : MethodName := ⟨"LooseWater", "carried", "(III)I"⟩
abbrev cX11_order : ByteArray := prog_1_method_31_code
def yX11_order : MethodName := ⟨"LooseWater", "order", "(III)I"⟩
abbrev cX11_ahead : ByteArray := prog_1_method_32_code
def yX11_ahead : MethodName := ⟨"LooseWater", "ahead", "(III)I"⟩
abbrev cX11_saved : ByteArray := prog_1_method_33_code
def yX11_saved : MethodName := ⟨"LooseWater", "saved", "(IIII)I"⟩
abbrev cX11_hoses : ByteArray := prog_1_method_34_code
def yX11_hoses : MethodName := ⟨"LooseWater", "hoses", "(III)I"⟩
abbrev cX11_ice : ByteArray := prog_1_method_35_code
def yX11_ice : MethodName := ⟨"LooseWater", "ice", "(II)I"⟩
abbrev cX11_load : ByteArray := prog_1_method_36_code
def yX11_load : MethodName := ⟨"LooseWater", "load", "(II)I"⟩
abbrev cX11_night : ByteArray := prog_1_method_37_code
def yX11_night : MethodName := ⟨"LooseWater", "night", "(II)I"⟩
abbrev cX11_finishable : ByteArray := prog_1_method_38_code
def yX11_finishable : MethodName := ⟨"LooseWater", "finishable", "(II)J"⟩
abbrev cX11_stiffWith : ByteArray := prog_1_method_39_code
def yX11_stiffWith : MethodName := ⟨"LooseWater", "stiffWith", "(I)J"⟩
abbrev cX11_guess : ByteArray := prog_1_method_40_code
def yX11_guess : MethodName := ⟨"LooseWater", "guess", "(III)I"⟩
abbrev cX11_missed : ByteArray := prog_1_method_41_code
def yX11_missed : MethodName := ⟨"LooseWater", "missed", "(III)I"⟩
abbrev cX11_best : ByteArray := prog_1_method_42_code
def yX11_best : MethodName := ⟨"LooseWater", "best", "(III)I"⟩
abbrev cX11_slop : ByteArray := prog_1_method_43_code
def yX11_slop : MethodName := ⟨"LooseWater", "slop", "(I)I"⟩
abbrev cX11_still : ByteArray := prog_1_method_44_code
def yX11_still : MethodName := ⟨"LooseWater", "still", "(I)I"⟩
abbrev cX11_floods : ByteArray := prog_1_method_45_code
def yX11_floods : MethodName := ⟨"LooseWater", "floods", "(II)I"⟩
abbrev cX11_leaves : ByteArray := prog_1_method_46_code
def yX11_leaves : MethodName := ⟨"LooseWater", "leaves", "(II)I"⟩
abbrev cX11_drain : ByteArray := prog_1_method_47_code
def yX11_drain : MethodName := ⟨"LooseWater", "drain", "(I)V"⟩
abbrev cX11_count : ByteArray := prog_1_method_48_code
def yX11_count : MethodName := ⟨"LooseWater", "count", "(I)I"⟩
abbrev cX11_image : ByteArray := prog_1_method_49_code
def yX11_image : MethodName := ⟨"LooseWater", "image", "(I)I"⟩
abbrev cX11_back : ByteArray := prog_1_method_50_code
def yX11_back : MethodName := ⟨"LooseWater", "back", "(I)I"⟩
abbrev cX11_hasPlace : ByteArray := prog_1_method_51_code
def yX11_hasPlace : MethodName := ⟨"LooseWater", "hasPlace", "(I)Z"⟩
abbrev cX11_hasPlan : ByteArray := prog_1_method_52_code
def yX11_hasPlan : MethodName := ⟨"LooseWater", "hasPlan", "(I)Z"⟩
abbrev cX11_hasImage : ByteArray := prog_1_method_53_code
def yX11_hasImage : MethodName := ⟨"LooseWater", "hasImage", "(I)Z"⟩
abbrev cX11_within : ByteArray := prog_1_method_54_code
def yX11_within : MethodName := ⟨"LooseWater", "within", "(III)Z"⟩
abbrev cX11_root : ByteArray := prog_1_method_55_code
def yX11_root : MethodName := ⟨"LooseWater", "root", "(J)I"⟩
abbrev cX11_down : ByteArray := prog_1_method_56_code
def yX11_down : MethodName := ⟨"LooseWater", "down", "(JJ)J"⟩
abbrev cX12_init : ByteArray := prog_14_method_1_code
def yX12_init : MethodName := ⟨"LooseWaterModel", "<init>", "()V"⟩
abbrev cX12_in : ByteArray := prog_14_method_3_code
def yX12_in : MethodName := ⟨"LooseWaterModel", "in", "(JJJ)Z"⟩
abbrev cX12_between : ByteArray := prog_14_method_4_code
def yX12_between : MethodName := ⟨"LooseWaterModel", "between", "(JJJ)J"⟩
abbrev cX12_floor : ByteArray := prog_14_method_5_code
def yX12_floor : MethodName := ⟨"LooseWaterModel", "floor", "(JJ)J"⟩
abbrev cX12_without : ByteArray := prog_14_method_6_code
def yX12_without : MethodName := ⟨"LooseWaterModel", "without", "(I)I"⟩
abbrev cX12_isShip : ByteArray := prog_14_method_7_code
def yX12_isShip : MethodName := ⟨"LooseWaterModel", "isShip", "()Z"⟩
abbrev cX12_isPlace : ByteArray := prog_14_method_8_code
def yX12_isPlace : MethodName := ⟨"LooseWaterModel", "isPlace", "(I)Z"⟩
abbrev cX12_isCargo : ByteArray := prog_14_method_9_code
def yX12_isCargo : MethodName := ⟨"LooseWaterModel", "isCargo", "(I)Z"⟩
abbrev cX12_ship : ByteArray := prog_14_method_10_code
def yX12_ship : MethodName := ⟨"LooseWaterModel", "ship", "(IIII)Z"⟩
abbrev cX12_form : ByteArray := prog_14_method_11_code
def yX12_form : MethodName := ⟨"LooseWaterModel", "form", "(II)I"⟩
abbrev cX12_place : ByteArray := prog_14_method_12_code
def yX12_place : MethodName := ⟨"LooseWaterModel", "place", "(IIIIII)I"⟩
abbrev cX12_cap : ByteArray := prog_14_method_13_code
def yX12_cap : MethodName := ⟨"LooseWaterModel", "cap", "(I)I"⟩
abbrev cX12_level : ByteArray := prog_14_method_14_code
def yX12_level : MethodName := ⟨"LooseWaterModel", "level", "(I)I"⟩
abbrev cX12_water : ByteArray := prog_14_method_15_code
def yX12_water : MethodName := ⟨"LooseWaterModel", "water", "(II)I"⟩
abbrev cX12_walls : ByteArray := prog_14_method_16_code
def yX12_walls : MethodName := ⟨"LooseWaterModel", "walls", "(II)I"⟩
abbrev cX12_cargo : ByteArray := prog_14_method_17_code
def yX12_cargo : MethodName := ⟨"LooseWaterModel", "cargo", "(IIII)I"⟩
abbrev cX12_isHole : ByteArray := prog_14_method_18_code
def yX12_isHole : MethodName := ⟨"LooseWaterModel", "isHole", "(IIII)Z"⟩
abbrev cX12_door : ByteArray := prog_14_method_19_code
def yX12_door : MethodName := ⟨"LooseWaterModel", "door", "(IIII)I"⟩
abbrev cX12_port : ByteArray := prog_14_method_20_code
def yX12_port : MethodName := ⟨"LooseWaterModel", "port", "(IIII)I"⟩
abbrev cX12_sets : ByteArray := prog_14_method_21_code
def yX12_sets : MethodName := ⟨"LooseWaterModel", "sets", "(II)I"⟩
abbrev cX12_sine : ByteArray := prog_14_method_22_code
def yX12_sine : MethodName := ⟨"LooseWaterModel", "sine", "(I)I"⟩
abbrev cX12_leverAt : ByteArray := prog_14_method_23_code
def yX12_leverAt : MethodName := ⟨"LooseWaterModel", "leverAt", "(I)I"⟩
abbrev cX12_total : ByteArray := prog_14_method_24_code
def yX12_total : MethodName := ⟨"LooseWaterModel", "total", "()I"⟩
abbrev cX12_upward : ByteArray := prog_14_method_25_code
def yX12_upward : MethodName := ⟨"LooseWaterModel", "upward", "()J"⟩
abbrev cX12_draft : ByteArray := prog_14_method_26_code
def yX12_draft : MethodName := ⟨"LooseWaterModel", "draft", "()I"⟩
abbrev cX12_runs : ByteArray := prog_14_method_27_code
def yX12_runs : MethodName := ⟨"LooseWaterModel", "runs", "(II)J"⟩
abbrev cX12_allRuns : ByteArray := prog_14_method_28_code
def yX12_allRuns : MethodName := ⟨"LooseWaterModel", "allRuns", "(I)J"⟩
abbrev cX12_asideNow : ByteArray := prog_14_method_29_code
def yX12_asideNow : MethodName := ⟨"LooseWaterModel", "asideNow", "()J"⟩
abbrev cX12_turnBy : ByteArray := prog_14_method_30_code
def yX12_turnBy : MethodName := ⟨"LooseWaterModel", "turnBy", "(JI)J"⟩
abbrev cX12_restBy : ByteArray := prog_14_method_31_code
def yX12_restBy : MethodName := ⟨"LooseWaterModel", "restBy", "(JI)I"⟩
abbrev cX12_restFrom : ByteArray := prog_14_method_32_code
def yX12_restFrom : MethodName := ⟨"LooseWaterModel", "restFrom", "(I)I"⟩
abbrev cX12_loll : ByteArray := prog_14_method_33_code
def yX12_loll : MethodName := ⟨"LooseWaterModel", "loll", "()I"⟩
abbrev cX12_stiff : ByteArray := prog_14_method_34_code
def yX12_stiff : MethodName := ⟨"LooseWaterModel", "stiff", "()I"⟩
abbrev cX12_beat : ByteArray := prog_14_method_35_code
def yX12_beat : MethodName := ⟨"LooseWaterModel", "beat", "()I"⟩
abbrev cX12_range : ByteArray := prog_14_method_36_code
def yX12_range : MethodName := ⟨"LooseWaterModel", "range", "()I"⟩
abbrev cX12_isOver : ByteArray := prog_14_method_37_code
def yX12_isOver : MethodName := ⟨"LooseWaterModel", "isOver", "()Z"⟩
abbrev cX12_tells : ByteArray := prog_14_method_38_code
def yX12_tells : MethodName := ⟨"LooseWaterModel", "tells", "(I)I"⟩
abbrev cX12_up : ByteArray := prog_14_method_39_code
def yX12_up : MethodName := ⟨"LooseWaterModel", "up", "()J"⟩
abbrev cX12_turn : ByteArray := prog_14_method_40_code
def yX12_turn : MethodName := ⟨"LooseWaterModel", "turn", "(I)J"⟩
abbrev cX12_rest : ByteArray := prog_14_method_41_code
def yX12_rest : MethodName := ⟨"LooseWaterModel", "rest", "(I)I"⟩
abbrev cX12_lever : ByteArray := prog_14_method_42_code
def yX12_lever : MethodName := ⟨"LooseWaterModel", "lever", "(I)I"⟩
abbrev cX12_of : ByteArray := prog_14_method_43_code
def yX12_of : MethodName := ⟨"LooseWaterModel", "of", "(II)I"⟩
abbrev cX12_flows : ByteArray := prog_14_method_44_code
def yX12_flows : MethodName := ⟨"LooseWaterModel", "flows", "(II)J"⟩
abbrev cX12_insideAt : ByteArray := prog_14_method_45_code
def yX12_insideAt : MethodName := ⟨"LooseWaterModel", "insideAt", "(II)I"⟩
abbrev cX12_outsideAt : ByteArray := prog_14_method_46_code
def yX12_outsideAt : MethodName := ⟨"LooseWaterModel", "outsideAt", "(I)I"⟩
abbrev cX12_inside : ByteArray := prog_14_method_47_code
def yX12_inside : MethodName := ⟨"LooseWaterModel", "inside", "(II)I"⟩
abbrev cX12_outside : ByteArray := prog_14_method_48_code
def yX12_outside : MethodName := ⟨"LooseWaterModel", "outside", "(I)I"⟩
abbrev cX12_slid : ByteArray := prog_14_method_49_code
def yX12_slid : MethodName := ⟨"LooseWaterModel", "slid", "(I)I"⟩
abbrev cX12_feed : ByteArray := prog_14_method_50_code
def yX12_feed : MethodName := ⟨"LooseWaterModel", "feed", "(IIIII)I"⟩
abbrev cX12_put : ByteArray := prog_14_method_51_code
def yX12_put : MethodName := ⟨"LooseWaterModel", "put", "(I)V"⟩
abbrev cX12_end : ByteArray := prog_14_method_52_code
def yX12_end : MethodName := ⟨"LooseWaterModel", "end", "(I)I"⟩
abbrev cX12_wordOf : ByteArray := prog_14_method_53_code
def yX12_wordOf : MethodName := ⟨"LooseWaterModel", "wordOf", "(I)Ljava/lang/String;"⟩
abbrev cX12_clauseOf : ByteArray := prog_14_method_54_code
def yX12_clauseOf : MethodName := ⟨"LooseWaterModel", "clauseOf", "(I)Ljava/lang/String;"⟩
abbrev cX12_fails : ByteArray := prog_14_method_55_code
def yX12_fails : MethodName := ⟨"LooseWaterModel", "fails", "(II)V"⟩
abbrev cX12_sign : ByteArray := prog_14_method_56_code
def yX12_sign : MethodName := ⟨"LooseWaterModel", "sign", "()I"⟩
abbrev cX12_blanks : ByteArray := prog_14_method_57_code
def yX12_blanks : MethodName := ⟨"LooseWaterModel", "blanks", "()V"⟩
abbrev cX12_isDigit : ByteArray := prog_14_method_58_code
def yX12_isDigit : MethodName := ⟨"LooseWaterModel", "isDigit", "()Z"⟩
abbrev cX12_stands : ByteArray := prog_14_method_59_code
def yX12_stands : MethodName := ⟨"LooseWaterModel", "stands", "(Ljava/lang/String;)Z"⟩
abbrev cX12_takes : ByteArray := prog_14_method_60_code
def yX12_takes : MethodName := ⟨"LooseWaterModel", "takes", "(Ljava/lang/String;)Z"⟩
abbrev cX12_entry : ByteArray := prog_14_method_61_code
def yX12_entry : MethodName := ⟨"LooseWaterModel", "entry", "(II)V"⟩
abbrev cX12_isCounted : ByteArray := prog_14_method_62_code
def yX12_isCounted : MethodName := ⟨"LooseWaterModel", "isCounted", "(I)V"⟩
abbrev cX12_digits : ByteArray := prog_14_method_63_code
def yX12_digits : MethodName := ⟨"LooseWaterModel", "digits", "(I)I"⟩
abbrev cX12_value : ByteArray := prog_14_method_64_code
def yX12_value : MethodName := ⟨"LooseWaterModel", "value", "()V"⟩
abbrev cX12_term : ByteArray := prog_14_method_65_code
def yX12_term : MethodName := ⟨"LooseWaterModel", "term", "()V"⟩
abbrev cX12_sum : ByteArray := prog_14_method_66_code
def yX12_sum : MethodName := ⟨"LooseWaterModel", "sum", "()V"⟩
abbrev cX12_compared : ByteArray := prog_14_method_67_code
def yX12_compared : MethodName := ⟨"LooseWaterModel", "compared", "()V"⟩
abbrev cX12_top : ByteArray := prog_14_method_68_code
def yX12_top : MethodName := ⟨"LooseWaterModel", "top", "()I"⟩
abbrev cX12_opens : ByteArray := prog_14_method_69_code
def yX12_opens : MethodName := ⟨"LooseWaterModel", "opens", "(I)V"⟩
abbrev cX12_answers : ByteArray := prog_14_method_70_code
def yX12_answers : MethodName := ⟨"LooseWaterModel", "answers", "(I)V"⟩
abbrev cX12_fact : ByteArray := prog_14_method_71_code
def yX12_fact : MethodName := ⟨"LooseWaterModel", "fact", "()Z"⟩
abbrev cX12_test : ByteArray := prog_14_method_72_code
def yX12_test : MethodName := ⟨"LooseWaterModel", "test", "()V"⟩
abbrev cX12_amount : ByteArray := prog_14_method_73_code
def yX12_amount : MethodName := ⟨"LooseWaterModel", "amount", "(I)I"⟩
abbrev cX12_letter : ByteArray := prog_14_method_74_code
def yX12_letter : MethodName := ⟨"LooseWaterModel", "letter", "()I"⟩
abbrev cX12_clause : ByteArray := prog_14_method_75_code
def yX12_clause : MethodName := ⟨"LooseWaterModel", "clause", "(I)V"⟩
abbrev cX12_plan : ByteArray := prog_14_method_76_code
def yX12_plan : MethodName := ⟨"LooseWaterModel", "plan", "()I"⟩
abbrev cX12_isPlan : ByteArray := prog_14_method_77_code
def yX12_isPlan : MethodName := ⟨"LooseWaterModel", "isPlan", "(I)Z"⟩
abbrev cX12_truth : ByteArray := prog_14_method_78_code
def yX12_truth : MethodName := ⟨"LooseWaterModel", "truth", "(Z)J"⟩
abbrev cX12_both : ByteArray := prog_14_method_79_code
def yX12_both : MethodName := ⟨"LooseWaterModel", "both", "(IJJ)J"⟩
abbrev cX12_answer : ByteArray := prog_14_method_80_code
def yX12_answer : MethodName := ⟨"LooseWaterModel", "answer", "(III)J"⟩
abbrev cX12_asks : ByteArray := prog_14_method_81_code
def yX12_asks : MethodName := ⟨"LooseWaterModel", "asks", "()V"⟩
abbrev cX12_pours : ByteArray := prog_14_method_82_code
def yX12_pours : MethodName := ⟨"LooseWaterModel", "pours", "(II)V"⟩
abbrev cX12_crosses : ByteArray := prog_14_method_83_code
def yX12_crosses : MethodName := ⟨"LooseWaterModel", "crosses", "(III)V"⟩
abbrev cX12_does : ByteArray := prog_14_method_84_code
def yX12_does : MethodName := ⟨"LooseWaterModel", "does", "(II)V"⟩
abbrev cX12_doorsGo : ByteArray := prog_14_method_85_code
def yX12_doorsGo : MethodName := ⟨"LooseWaterModel", "doorsGo", "()V"⟩
abbrev cX12_portGoes : ByteArray := prog_14_method_86_code
def yX12_portGoes : MethodName := ⟨"LooseWaterModel", "portGoes", "(I)V"⟩
abbrev cX12_goesBy : ByteArray := prog_14_method_87_code
def yX12_goesBy : MethodName := ⟨"LooseWaterModel", "goesBy", "(I)V"⟩
abbrev cX12_goesOn : ByteArray := prog_14_method_88_code
def yX12_goesOn : MethodName := ⟨"LooseWaterModel", "goesOn", "(II)V"⟩
abbrev cX12_run : ByteArray := prog_14_method_89_code
def yX12_run : MethodName := ⟨"LooseWaterModel", "run", "(II)I"⟩
abbrev cX12_carry : ByteArray := prog_14_method_90_code
def yX12_carry : MethodName := ⟨"LooseWaterModel", "carry", "([I)V"⟩
abbrev cX12_carriesAll : ByteArray := prog_14_method_91_code
def yX12_carriesAll : MethodName := ⟨"LooseWaterModel", "carriesAll", "(IZ)V"⟩
abbrev cX12_image : ByteArray := prog_14_method_92_code
def yX12_image : MethodName := ⟨"LooseWaterModel", "image", "(I)I"⟩
abbrev cX12_back : ByteArray := prog_14_method_93_code
def yX12_back : MethodName := ⟨"LooseWaterModel", "back", "(I)I"⟩
abbrev cX12_sinks : ByteArray := prog_14_method_94_code
def yX12_sinks : MethodName := ⟨"LooseWaterModel", "sinks", "(I)I"⟩
abbrev cX12_parts : ByteArray := prog_14_method_95_code
def yX12_parts : MethodName := ⟨"LooseWaterModel", "parts", "(I)I"⟩
abbrev cX12_carried : ByteArray := prog_14_method_96_code
def yX12_carried : MethodName := ⟨"LooseWaterModel", "carried", "(III)I"⟩
abbrev cX12_isNext : ByteArray := prog_14_method_97_code
def yX12_isNext : MethodName := ⟨"LooseWaterModel", "isNext", "(I)Z"⟩
abbrev cX12_swaps : ByteArray := prog_14_method_98_code
def yX12_swaps : MethodName := ⟨"LooseWaterModel", "swaps", "(II)V"⟩
abbrev cX12_isFilled : ByteArray := prog_14_method_99_code
def yX12_isFilled : MethodName := ⟨"LooseWaterModel", "isFilled", "(II)Z"⟩
abbrev cX12_order : ByteArray := prog_14_method_100_code
def yX12_order : MethodName := ⟨"LooseWaterModel", "order", "(III)I"⟩
abbrev cX12_allWater : ByteArray := prog_14_method_101_code
def yX12_allWater : MethodName := ⟨"LooseWaterModel", "allWater", "()I"⟩
abbrev cX12_ahead : ByteArray := prog_14_method_102_code
def yX12_ahead : MethodName := ⟨"LooseWaterModel", "ahead", "(III)I"⟩
abbrev cX12_saved : ByteArray := prog_14_method_103_code
def yX12_saved : MethodName := ⟨"LooseWaterModel", "saved", "(IIII)I"⟩
abbrev cX12_hoses : ByteArray := prog_14_method_104_code
def yX12_hoses : MethodName := ⟨"LooseWaterModel", "hoses", "(III)I"⟩
abbrev cX12_ice : ByteArray := prog_14_method_105_code
def yX12_ice : MethodName := ⟨"LooseWaterModel", "ice", "(II)I"⟩
abbrev cX12_load : ByteArray := prog_14_method_106_code
def yX12_load : MethodName := ⟨"LooseWaterModel", "load", "(II)I"⟩
abbrev cX12_isBorne : ByteArray := prog_14_method_107_code
def yX12_isBorne : MethodName := ⟨"LooseWaterModel", "isBorne", "(II)Z"⟩
abbrev cX12_night : ByteArray := prog_14_method_108_code
def yX12_night : MethodName := ⟨"LooseWaterModel", "night", "(II)I"⟩
abbrev cX12_guess : ByteArray := prog_14_method_109_code
def yX12_guess : MethodName := ⟨"LooseWaterModel", "guess", "(III)I"⟩
abbrev cX12_worst : ByteArray := prog_14_method_110_code
def yX12_worst : MethodName := ⟨"LooseWaterModel", "worst", "(IIII)I"⟩
abbrev cX12_best : ByteArray := prog_14_method_111_code
def yX12_best : MethodName := ⟨"LooseWaterModel", "best", "(III)I"⟩
abbrev cX12_slopOf : ByteArray := prog_14_method_112_code
def yX12_slopOf : MethodName := ⟨"LooseWaterModel", "slopOf", "(I)I"⟩
abbrev cX12_slop : ByteArray := prog_14_method_113_code
def yX12_slop : MethodName := ⟨"LooseWaterModel", "slop", "(I)I"⟩
abbrev cX12_still : ByteArray := prog_14_method_114_code
def yX12_still : MethodName := ⟨"LooseWaterModel", "still", "(I)I"⟩
abbrev cX12_floods : ByteArray := prog_14_method_115_code
def yX12_floods : MethodName := ⟨"LooseWaterModel", "floods", "(II)I"⟩
abbrev cX12_leaves : ByteArray := prog_14_method_116_code
def yX12_leaves : MethodName := ⟨"LooseWaterModel", "leaves", "(II)I"⟩
abbrev cX12_count : ByteArray := prog_14_method_117_code
def yX12_count : MethodName := ⟨"LooseWaterModel", "count", "(I)I"⟩
abbrev cJ6_bitCount_0f7a4 : ByteArray := prog_15_method_49_code
def yJ6_bitCount_0f7a4 : MethodName := ⟨"java/lang/Integer", "bitCount", "(I)I"⟩
abbrev cJ0_length_8abf5 : ByteArray := prog_17_method_54_code
def yJ0_length_8abf5 : MethodName := ⟨"java/lang/String", "length", "()I"⟩
abbrev cJ0_charAt_5068e : ByteArray := prog_17_method_56_code
def yJ0_charAt_5068e : MethodName := ⟨"java/lang/String", "charAt", "(I)C"⟩
abbrev cJ0_coder_7d493 : ByteArray := prog_17_method_152_code
def yJ0_coder_7d493 : MethodName := ⟨"java/lang/String", "coder", "()B"⟩
abbrev cJ0_isLatin1_aae02 : ByteArray := prog_17_method_154_code
def yJ0_isLatin1_aae02 : MethodName := ⟨"java/lang/String", "isLatin1", "()Z"⟩
abbrev cJ0_checkIndex_df160 : ByteArray := prog_17_method_155_code
def yJ0_checkIndex_df160 : MethodName := ⟨"java/lang/String", "checkIndex", "(II)V"⟩
abbrev cJ1_charAt_3b067 : ByteArray := prog_18_method_2_code
def yJ1_charAt_3b067 : MethodName := ⟨"java/lang/StringLatin1", "charAt", "([BI)C"⟩
abbrev cJ7_fill_d0a16 : ByteArray := prog_21_method_101_code
def yJ7_fill_d0a16 : MethodName := ⟨"java/util/Arrays", "fill", "([JJ)V"⟩
abbrev cJ7_fill_53178 : ByteArray := prog_21_method_103_code
def yJ7_fill_53178 : MethodName := ⟨"java/util/Arrays", "fill", "([II)V"⟩
abbrev cJ3_checkIndex_8e157 : ByteArray := prog_22_method_11_code
def yJ3_checkIndex_8e157 : MethodName := ⟨"jdk/internal/util/Preconditions", "checkIndex", "(IILjava/util/function/BiFunction;)I"⟩
abbrev cL_law : ByteArray := code
abbrev vwCl : List vw_C := [(RX0, TX0, 8), (RX1, TX1, 8), (RX2, TX2, 6), (RX3, TX3, 3), (RX4, TX4, 5), (RX5, TX5, 6), (RX6, TX6, 12), (RX7, TX7, 10), (RX8, TX8, 8), (RX9, TX9, 2), (RX10, TX10, 16), (RX11, TX11, 12), (RX12, TX12, 56)]
def am_tyL : List (List FieldType) := [[.array .int, .int, .long, .long, .long, .int, .array .long, .array .long], [.object "LooseWater$Rounds", .int, .int, .int, .array .int, .array .int, .int, .array .int], [.int, .array .int, .array .int, .array .int, .array .int, .array .int], [.int, .array .int, .array .int], [.int, .array .int, .array .int, .array .int, .array .int], [.object "LooseWater$Balance", .array .int, .int, .int, .array .int, .array .long], [.int, .array .int, .array .int, .array .int, .array .int, .array .int, .array .int, .array .int, .array .int, .array .int, .array .long, .array .int], [.int, .array .int, .array .int, .array .int, .array .int, .array .int, .array .int, .array .int, .int, .array .int], [.object "LooseWater$Plan", .int, .array .int, .array .int, .array .int, .int, .int, .int], [.object "LooseWater$Balance", .array .long], [.boolean, .int, .int, .int, .int, .int, .int, .int, .int, .int, .array .int, .object "LooseWater$Places", .object "LooseWater$Cargoes", .object "LooseWater$Openings", .object "LooseWater$Openings", .object "LooseWater$Loads"], [.object "LooseWater$Ship", .array (.object "LooseWater$Ship"), .array (.object "LooseWater$Plan"), .int, .array .int, .int, .object "LooseWater$Reader", .object "LooseWater$Balance", .object "LooseWater$Rounds", .object "LooseWater$OrderSearch", .object "LooseWater$BestSearch", .array .int], [.int, .array .int, .array .int, .array .int, .array .int, .array .int, .array .int, .array .int, .array .int, .array .int, .array .int, .array .int, .array .int, .array .int, .array .int, .array .int, .array .int, .array .int, .array .int, .array .int, .array .int, .array .int, .array .int, .array .int, .array .int, .int, .long, .int, .int, .int, .int, .int, .int, .int, .int, .int, .int, .array .byte, .array .int, .array .int, .array .int, .array .int, .array .int, .array .int, .array .int, .array .int, .array .int, .array .int, .array .int, .array .long, .array .long, .array .int, .array .boolean, .int, .boolean, .array .int]]
def am_ci : List (Nat × Nat) := [(466, 104), (543, 107), (209, 99), (273, 101), (243, 100), (515, 106), (132, 98), (376, 102), (432, 103), (500, 105), (126, 97), (118, 96), (1253, 108)]
def am_N : List Cond := [.methodLinkNest "LooseWater" 11 ⟨"LooseWater$Ship", "<init>", "()V"⟩ "LooseWater",
  .methodLinkNest "LooseWater$Ship" 17 ⟨"LooseWater$Places", "<init>", "()V"⟩ "LooseWater",
  .methodLinkNest "LooseWater$Ship" 24 ⟨"LooseWater$Cargoes", "<init>", "()V"⟩ "LooseWater",
  .methodLinkNest "LooseWater$Ship" 31 ⟨"LooseWater$Openings", "<init>", "()V"⟩ "LooseWater",
  .methodLinkNest "LooseWater$Ship" 41 ⟨"LooseWater$Loads", "<init>", "()V"⟩ "LooseWater",
  .methodLinkNest "LooseWater" 26 ⟨"LooseWater$Plan", "<init>", "()V"⟩ "LooseWater",
  .methodLinkNest "LooseWater" 33 ⟨"LooseWater$Reader", "<init>", "()V"⟩ "LooseWater",
  .methodLinkNest "LooseWater$Reader" 11 ⟨"LooseWater$Plan", "<init>", "()V"⟩ "LooseWater",
  .methodLinkNest "LooseWater" 40 ⟨"LooseWater$Balance", "<init>", "()V"⟩ "LooseWater",
  .methodLinkNest "LooseWater" 47 ⟨"LooseWater$Rounds", "<init>", "()V"⟩ "LooseWater",
  .methodLinkNest "LooseWater$Rounds" 11 ⟨"LooseWater$Balance", "<init>", "()V"⟩ "LooseWater",
  .methodLinkNest "LooseWater" 54 ⟨"LooseWater$OrderSearch", "<init>", "()V"⟩ "LooseWater",
  .methodLinkNest "LooseWater$OrderSearch" 11 ⟨"LooseWater$Balance", "<init>", "()V"⟩ "LooseWater",
  .methodLinkNest "LooseWater" 61 ⟨"LooseWater$BestSearch", "<init>", "()V"⟩ "LooseWater",
  .methodLinkNest "LooseWater$BestSearch" 11 ⟨"LooseWater$Rounds", "<init>", "()V"⟩ "LooseWater",
  .methodLinkNest "LooseWater$Places" 52 ⟨"LooseWater", "down", "(JJ)J"⟩ "LooseWater",
  .methodLinkNest "LooseWater$Reader" 71 ⟨"LooseWater", "within", "(III)Z"⟩ "LooseWater",
  .fieldLinkNest "LooseWater$Balance" 97 "LooseWater" "SINE" "[I" "LooseWater",
  .methodLinkNest "LooseWater$Balance" 119 ⟨"LooseWater", "down", "(JJ)J"⟩ "LooseWater",
  .methodLinkNest "LooseWater$Ship" 103 ⟨"LooseWater", "down", "(JJ)J"⟩ "LooseWater",
  .fieldLinkNest "LooseWater$Ship" 128 "LooseWater" "SINE" "[I" "LooseWater",
  .methodLinkNest "LooseWater$Balance" 128 ⟨"LooseWater", "root", "(J)I"⟩ "LooseWater",
  .methodLinkNest "LooseWater" 361 ⟨"LooseWater$BestSearch", "extend", "(LLooseWater$Ship;[LLooseWater$Plan;II)V"⟩ "LooseWater",
  .methodLinkNest "LooseWater$Places" 74 ⟨"LooseWater", "root", "(J)I"⟩ "LooseWater"]
def am_str : List (String × Nat × String) := [("LooseWater$Reader", 98, "lean side rounddraftpace totalstiffpump fill crossshiftif   and  or   not  "), ("LooseWaterModel", 336, "pump"), ("LooseWaterModel", 338, "fill"), ("LooseWaterModel", 340, "cross"), ("LooseWaterModel", 308, "pace"), ("LooseWaterModel", 342, "shift"), ("LooseWaterModel", 301, "lean"), ("LooseWaterModel", 303, "side"), ("LooseWaterModel", 305, "round"), ("LooseWaterModel", 307, "draft"), ("LooseWaterModel", 310, "total"), ("LooseWaterModel", 311, "stiff"), ("LooseWaterModel", 312, "a"), ("LooseWaterModel", 314, "b"), ("LooseWaterModel", 316, "c"), ("LooseWaterModel", 318, "d"), ("LooseWaterModel", 320, "e"), ("LooseWaterModel", 322, "f"), ("LooseWaterModel", 324, "g"), ("LooseWaterModel", 326, "h"), ("LooseWaterModel", 328, "i"), ("LooseWaterModel", 330, "j"), ("LooseWaterModel", 332, "k"), ("LooseWaterModel", 334, "l"), ("LooseWaterModel", 447, "if"), ("LooseWaterModel", 420, "not"), ("LooseWaterModel", 434, "and"), ("LooseWaterModel", 436, "or")]
def am_slen : List Nat := [75, 4, 4, 5, 4, 5, 4, 4, 5, 5, 5, 5, 1, 1, 1, 1, 1, 1, 1, 1, 1, 1, 1, 1, 2, 3, 3, 2]
def am_sbyt : List (List Int32) := [[108, 101, 97, 110, 32, 115, 105, 100, 101, 32, 114, 111, 117, 110, 100, 100, 114, 97, 102, 116, 112, 97, 99, 101, 32, 116, 111, 116, 97, 108, 115, 116, 105, 102, 102, 112, 117, 109, 112, 32, 102, 105, 108, 108, 32, 99, 114, 111, 115, 115, 115, 104, 105, 102, 116, 105, 102, 32, 32, 32, 97, 110, 100, 32, 32, 111, 114, 32, 32, 32, 110, 111, 116, 32, 32], [112, 117, 109, 112], [102, 105, 108, 108], [99, 114, 111, 115, 115], [112, 97, 99, 101], [115, 104, 105, 102, 116], [108, 101, 97, 110], [115, 105, 100, 101], [114, 111, 117, 110, 100], [100, 114, 97, 102, 116], [116, 111, 116, 97, 108], [115, 116, 105, 102, 102], [97], [98], [99], [100], [101], [102], [103], [104], [105], [106], [107], [108], [105, 102], [110, 111, 116], [97, 110, 100], [111, 114]]
def am_sinL : List Int32 := [0, 17, 35, 53, 70, 88, 105, 123, 140, 158, 175, 192, 209, 226, 243, 260, 277, 293, 310, 326, 343, 359, 375, 391, 407, 423, 438, 454, 469, 484, 500, 514, 529, 544, 558, 573, 587, 601, 614, 628, 641, 655, 668, 680, 693, 705, 718, 730, 741, 753, 764, 775, 786, 797, 807, 817, 827, 837, 846, 855, 864, 873, 881, 889, 897, 905, 912, 919, 926, 932, 939, 944, 950, 955, 960, 965, 969, 974, 977, 981, 984, 987, 990, 992, 994, 996, 997, 998, 999, 999, 1000]
abbrev am_R : Type := (MethodName × ByteArray) × (Nat × Option FieldType) × (Nat × Nat × Nat) × (Nat × Nat × Nat × Nat)
def am_mt : List am_R := [((yX0_init, cX0_init), (1, none), (0, 2, 0), (469, 468, 0, 104)),
  ((yX0_take, cX0_take), (6, none), (1, 0, 0), (891, 889, 890, 104)),
  ((yX0_bear, cX0_bear), (3, none), (2, 0, 0), (1139, 1137, 1138, 104)),
  ((yX0_upsetting, cX0_upsetting), (7, some .long), (1, 0, 0), (900, 899, 21, 104)),
  ((yX0_turning, cX0_turning), (5, some .long), (1, 0, 0), (976, 974, 975, 104)),
  ((yX0_restFrom, cX0_restFrom), (8, some .int), (2, 0, 0), (972, 970, 971, 104)),
  ((yX0_stiffness, cX0_stiffness), (1, some .long), (0, 0, 0), (896, 894, 895, 104)),
  ((yX0_beat, cX0_beat), (3, some .int), (0, 0, 0), (989, 987, 988, 104)),
  ((yX0_lolls, cX0_lolls), (1, some .boolean), (0, 0, 0), (1060, 1058, 1059, 104)),
  ((yX0_loll, cX0_loll), (4, some .int), (0, 0, 0), (998, 996, 997, 104)),
  ((yX0_range, cX0_range), (7, some .int), (1, 0, 0), (1003, 1001, 1002, 104)),
  ((yX1_init, cX1_init), (1, none), (0, 2, 1), (546, 545, 0, 107)),
  ((yX1_begin, cX1_begin), (5, none), (4, 0, 1), (1177, 1175, 1176, 107)),
  ((yX1_extend, cX1_extend), (8, none), (4, 0, 1), (1182, 1181, 29, 107)),
  ((yX2_init, cX2_init), (1, none), (0, 2, 2), (212, 211, 0, 99)),
  ((yX2_add, cX2_add), (6, some .int), (4, 0, 2), (694, 692, 693, 99)),
  ((yX2_giveWay, cX2_giveWay), (3, none), (1, 0, 2), (967, 965, 966, 99)),
  ((yX2_copy, cX2_copy), (2, none), (1, 0, 2), (1236, 1234, 1235, 99)),
  ((yX3_init, cX3_init), (1, none), (0, 2, 3), (276, 275, 0, 101)),
  ((yX3_add, cX3_add), (4, some .int), (2, 0, 3), (1147, 1145, 1146, 101)),
  ((yX3_copy, cX3_copy), (2, none), (1, 0, 3), (1246, 1244, 1245, 101)),
  ((yX4_init, cX4_init), (1, none), (0, 2, 4), (246, 245, 0, 100)),
  ((yX4_add, cX4_add), (6, some .int), (4, 0, 4), (706, 704, 705, 100)),
  ((yX4_copy, cX4_copy), (2, none), (1, 0, 4), (1241, 1239, 1240, 100)),
  ((yX5_init, cX5_init), (1, none), (0, 2, 5), (518, 517, 0, 106)),
  ((yX5_find, cX5_find), (5, some .boolean), (3, 0, 5), (1086, 1084, 1085, 106)),
  ((yX5_extend, cX5_extend), (13, some .boolean), (4, 0, 5), (1093, 1092, 23, 106)),
  ((yX5_fillUp, cX5_fillUp), (6, some .int), (3, 0, 5), (1098, 1097, 24, 106)),
  ((yX6_init, cX6_init), (1, none), (0, 2, 6), (135, 134, 0, 98)),
  ((yX6_add, cX6_add), (6, some .int), (4, 0, 6), (649, 647, 648, 98)),
  ((yX6_part, cX6_part), (5, none), (2, 0, 6), (653, 651, 652, 98)),
  ((yX6_hold, cX6_hold), (3, none), (2, 0, 6), (661, 659, 660, 98)),
  ((yX6_hundredths, cX6_hundredths), (3, some .int), (2, 0, 6), (1056, 1054, 1055, 98)),
  ((yX6_allWater, cX6_allWater), (3, some .int), (0, 0, 6), (1114, 1112, 1113, 98)),
  ((yX6_sloshing, cX6_sloshing), (2, some .int), (1, 0, 6), (1196, 1194, 1195, 98)),
  ((yX6_copy, cX6_copy), (2, none), (1, 0, 6), (1231, 1229, 1230, 98)),
  ((yX7_init, cX7_init), (1, none), (0, 2, 7), (379, 378, 0, 102)),
  ((yX7_copy, cX7_copy), (2, none), (1, 0, 7), (849, 847, 848, 102)),
  ((yX8_init, cX8_init), (1, none), (0, 2, 8), (435, 434, 0, 103)),
  ((yX8_read, cX8_read), (4, some .int), (2, 0, 8), (736, 734, 735, 103)),
  ((yX8_scan, cX8_scan), (9, none), (2, 0, 8), (740, 739, 4, 103)),
  ((yX8_put, cX8_put), (4, none), (3, 0, 8), (751, 750, 5, 103)),
  ((yX8_rangeEnd, cX8_rangeEnd), (6, some .int), (5, 1, 8), (744, 743, 0, 103)),
  ((yX8_numeral, cX8_numeral), (5, some .int), (3, 1, 8), (747, 746, 0, 103)),
  ((yX8_wordAt, cX8_wordAt), (4, some .int), (3, 1, 8), (754, 753, 0, 103)),
  ((yX8_matches, cX8_matches), (6, some .boolean), (4, 1, 8), (757, 756, 0, 103)),
  ((yX8_signOf, cX8_signOf), (2, some .int), (2, 1, 8), (801, 800, 0, 103)),
  ((yX8_token, cX8_token), (1, some .int), (0, 0, 8), (809, 808, 7, 103)),
  ((yX8_fail, cX8_fail), (2, some .boolean), (1, 0, 8), (813, 812, 8, 103)),
  ((yX8_emit, cX8_emit), (2, none), (1, 0, 8), (825, 824, 11, 103)),
  ((yX8_clause, cX8_clause), (3, some .boolean), (1, 0, 8), (805, 804, 6, 103)),
  ((yX8_placeName, cX8_placeName), (3, some .boolean), (2, 0, 8), (833, 832, 13, 103)),
  ((yX8_figure, cX8_figure), (3, some .boolean), (2, 0, 8), (829, 828, 12, 103)),
  ((yX8_test, cX8_test), (5, some .boolean), (1, 0, 8), (837, 836, 14, 103)),
  ((yX8_fact, cX8_fact), (3, some .boolean), (1, 0, 8), (841, 840, 15, 103)),
  ((yX8_comparison, cX8_comparison), (2, some .boolean), (0, 0, 8), (845, 844, 16, 103)),
  ((yX8_sum, cX8_sum), (4, some .boolean), (0, 0, 8), (817, 816, 9, 103)),
  ((yX8_value, cX8_value), (2, some .boolean), (0, 0, 8), (821, 820, 10, 103)),
  ((yX9_init, cX9_init), (1, none), (0, 2, 9), (503, 502, 0, 105)),
  ((yX9_go, cX9_go), (4, none), (2, 0, 9), (869, 867, 868, 105)),
  ((yX9_applies, cX9_applies), (6, some .boolean), (3, 0, 9), (880, 879, 19, 105)),
  ((yX9_act, cX9_act), (10, none), (3, 0, 9), (919, 918, 22, 105)),
  ((yX9_compute, cX9_compute), (9, some .long), (4, 0, 9), (884, 883, 20, 105)),
  ((yX9_worth, cX9_worth), (2, some .long), (2, 1, 9), (908, 907, 0, 105)),
  ((yX9_joined, cX9_joined), (5, some .long), (3, 1, 9), (887, 886, 0, 105)),
  ((yX10_init, cX10_init), (1, none), (0, 2, 10), (129, 128, 0, 97)),
  ((yX10_begin, cX10_begin), (5, none), (4, 0, 10), (626, 624, 625, 97)),
  ((yX10_shape, cX10_shape), (3, none), (2, 0, 10), (637, 635, 636, 97)),
  ((yX10_fillBetween, cX10_fillBetween), (3, none), (1, 0, 10), (641, 640, 0, 97)),
  ((yX10_isOver, cX10_isOver), (1, some .boolean), (0, 0, 10), (873, 871, 872, 97)),
  ((yX10_draft, cX10_draft), (1, some .int), (0, 0, 10), (914, 912, 913, 97)),
  ((yX10_pour, cX10_pour), (3, none), (2, 0, 10), (681, 679, 680, 97)),
  ((yX10_add, cX10_add), (3, none), (2, 0, 10), (937, 935, 936, 97)),
  ((yX10_remove, cX10_remove), (3, none), (2, 0, 10), (929, 927, 928, 97)),
  ((yX10_cross, cX10_cross), (6, none), (3, 0, 10), (942, 940, 941, 97)),
  ((yX10_outerHeight, cX10_outerHeight), (4, some .int), (2, 0, 10), (956, 954, 955, 97)),
  ((yX10_innerHeight, cX10_innerHeight), (7, some .int), (2, 0, 10), (950, 948, 949, 97)),
  ((yX10_letIn, cX10_letIn), (6, none), (1, 0, 10), (946, 944, 945, 97)),
  ((yX10_letOut, cX10_letOut), (6, none), (1, 0, 10), (962, 960, 961, 97)),
  ((yX10_keep, cX10_keep), (4, none), (2, 0, 10), (1109, 1107, 1108, 97)),
  ((yX10_restore, cX10_restore), (4, none), (2, 0, 10), (1118, 1116, 1117, 97)),
  ((yX10_copy, cX10_copy), (2, none), (1, 0, 10), (1227, 1225, 1226, 97)),
  ((yX11_init, cX11_init), (2, none), (0, 2, 11), (121, 120, 0, 96)),
  ((yX11_ship, cX11_ship), (5, some .boolean), (4, 0, 11), (618, 616, 617, 96)),
  ((yX11_form, cX11_form), (4, some .int), (2, 0, 11), (633, 631, 632, 96)),
  ((yX11_place, cX11_place), (8, some .int), (6, 0, 11), (645, 643, 644, 96)),
  ((yX11_water, cX11_water), (4, some .int), (2, 0, 11), (673, 671, 672, 96)),
  ((yX11_walls, cX11_walls), (4, some .int), (2, 0, 11), (686, 684, 685, 96)),
  ((yX11_cargo, cX11_cargo), (5, some .int), (4, 0, 11), (690, 688, 689, 96)),
  ((yX11_door, cX11_door), (5, some .int), (4, 0, 11), (698, 696, 697, 96)),
  ((yX11_port, cX11_port), (5, some .int), (4, 0, 11), (710, 708, 709, 96)),
  ((yX11_opened, cX11_opened), (6, some .int), (5, 0, 11), (702, 701, 2, 96)),
  ((yX11_sets, cX11_sets), (4, some .int), (2, 0, 11), (714, 712, 713, 96)),
  ((yX11_feed, cX11_feed), (6, some .int), (5, 0, 11), (720, 718, 719, 96)),
  ((yX11_append, cX11_append), (3, none), (1, 0, 11), (724, 723, 3, 96)),
  ((yX11_end, cX11_end), (2, some .int), (1, 0, 11), (728, 726, 727, 96)),
  ((yX11_plan, cX11_plan), (2, some .int), (0, 0, 11), (732, 730, 731, 96)),
  ((yX11_run, cX11_run), (3, some .int), (2, 0, 11), (857, 855, 856, 96)),
  ((yX11_goBy, cX11_goBy), (5, none), (3, 0, 11), (865, 864, 18, 96)),
  ((yX11_tells, cX11_tells), (2, some .int), (1, 0, 11), (981, 979, 980, 96)),
  ((yX11_up, cX11_up), (1, some .long), (0, 0, 11), (1008, 1006, 1007, 96)),
  ((yX11_turn, cX11_turn), (2, some .long), (1, 0, 11), (1013, 1011, 1012, 96)),
  ((yX11_rest, cX11_rest), (2, some .int), (1, 0, 11), (1018, 1016, 1017, 96)),
  ((yX11_lever, cX11_lever), (2, some .int), (1, 0, 11), (1023, 1021, 1022, 96)),
  ((yX11_of, cX11_of), (4, some .int), (2, 0, 11), (1027, 1025, 1026, 96)),
  ((yX11_flows, cX11_flows), (3, some .long), (2, 0, 11), (1031, 1029, 1030, 96)),
  ((yX11_inside, cX11_inside), (3, some .int), (2, 0, 11), (1038, 1036, 1037, 96)),
  ((yX11_outside, cX11_outside), (2, some .int), (1, 0, 11), (1043, 1041, 1042, 96)),
  ((yX11_slid, cX11_slid), (2, some .int), (1, 0, 11), (1048, 1046, 1047, 96)),
  ((yX11_sinks, cX11_sinks), (5, some .int), (1, 0, 11), (1052, 1050, 1051, 96)),
  ((yX11_parts, cX11_parts), (5, some .int), (1, 0, 11), (1064, 1062, 1063, 96)),
  ((yX11_carried, cX11_carried), (11, some .int), (3, 0, 11), (1068, 1066, 1067, 96)),
  ((yX11_order, cX11_order), (5, some .int), (3, 0, 11), (1076, 1074, 1075, 96)),
  ((yX11_ahead, cX11_ahead), (6, some .int), (3, 0, 11), (1105, 1103, 1104, 96)),
  ((yX11_saved, cX11_saved), (8, some .int), (4, 0, 11), (1122, 1120, 1121, 96)),
  ((yX11_hoses, cX11_hoses), (7, some .int), (3, 0, 11), (1130, 1128, 1129, 96)),
  ((yX11_ice, cX11_ice), (4, some .int), (2, 0, 11), (1135, 1133, 1134, 96)),
  ((yX11_load, cX11_load), (3, some .int), (2, 0, 11), (1143, 1141, 1142, 96)),
  ((yX11_night, cX11_night), (10, some .int), (2, 0, 11), (1151, 1149, 1150, 96)),
  ((yX11_finishable, cX11_finishable), (9, some .long), (2, 0, 11), (1155, 1154, 26, 96)),
  ((yX11_stiffWith, cX11_stiffWith), (3, some .long), (1, 0, 11), (1159, 1158, 27, 96)),
  ((yX11_guess, cX11_guess), (12, some .int), (3, 0, 11), (1163, 1161, 1162, 96)),
  ((yX11_missed, cX11_missed), (5, some .int), (3, 0, 11), (1168, 1167, 28, 96)),
  ((yX11_best, cX11_best), (4, some .int), (3, 0, 11), (1173, 1171, 1172, 96)),
  ((yX11_slop, cX11_slop), (2, some .int), (1, 0, 11), (1192, 1190, 1191, 96)),
  ((yX11_still, cX11_still), (9, some .int), (1, 0, 11), (1202, 1200, 1201, 96)),
  ((yX11_floods, cX11_floods), (4, some .int), (2, 0, 11), (1206, 1204, 1205, 96)),
  ((yX11_leaves, cX11_leaves), (6, some .int), (2, 0, 11), (1210, 1208, 1209, 96)),
  ((yX11_drain, cX11_drain), (3, none), (1, 0, 11), (1214, 1213, 30, 96)),
  ((yX11_count, cX11_count), (2, some .int), (1, 0, 11), (1219, 1217, 1218, 96)),
  ((yX11_image, cX11_image), (2, some .int), (1, 0, 11), (1223, 1221, 1222, 96)),
  ((yX11_back, cX11_back), (2, some .int), (1, 0, 11), (1251, 1249, 1250, 96)),
  ((yX11_hasPlace, cX11_hasPlace), (2, some .boolean), (1, 0, 11), (677, 676, 1, 96)),
  ((yX11_hasPlan, cX11_hasPlan), (2, some .boolean), (1, 0, 11), (861, 860, 17, 96)),
  ((yX11_hasImage, cX11_hasImage), (2, some .boolean), (1, 0, 11), (1126, 1125, 25, 96)),
  ((yX11_within, cX11_within), (3, some .boolean), (3, 1, 11), (621, 620, 0, 96)),
  ((yX11_root, cX11_root), (6, some .int), (1, 1, 11), (994, 993, 0, 96)),
  ((yX11_down, cX11_down), (4, some .long), (2, 1, 11), (657, 656, 0, 96)),
  ((yX12_init, cX12_init), (1, none), (0, 2, 12), (1256, 1255, 0, 108)),
  ((yX12_in, cX12_in), (6, some .boolean), (3, 1, 12), (1435, 1434, 0, 108)),
  ((yX12_between, cX12_between), (6, some .long), (3, 1, 12), (1617, 1616, 0, 108)),
  ((yX12_floor, cX12_floor), (4, some .long), (2, 1, 12), (1542, 1541, 0, 108)),
  ((yX12_without, cX12_without), (1, some .int), (1, 1, 12), (1562, 1561, 0, 108)),
  ((yX12_isShip, cX12_isShip), (1, some .boolean), (0, 0, 12), (1446, 1445, 31, 108)),
  ((yX12_isPlace, cX12_isPlace), (2, some .boolean), (1, 0, 12), (1463, 1462, 32, 108)),
  ((yX12_isCargo, cX12_isCargo), (2, some .boolean), (1, 0, 12), (1633, 1632, 53, 108)),
  ((yX12_ship, cX12_ship), (6, some .boolean), (4, 0, 12), (1430, 1428, 1429, 108)),
  ((yX12_form, cX12_form), (4, some .int), (2, 0, 12), (1442, 1440, 1441, 108)),
  ((yX12_place, cX12_place), (8, some .int), (6, 0, 12), (1451, 1449, 1450, 108)),
  ((yX12_cap, cX12_cap), (2, some .int), (1, 0, 12), (1467, 1466, 33, 108)),
  ((yX12_level, cX12_level), (3, some .int), (1, 0, 12), (1523, 1522, 39, 108)),
  ((yX12_water, cX12_water), (4, some .int), (2, 0, 12), (1459, 1457, 1458, 108)),
  ((yX12_walls, cX12_walls), (4, some .int), (2, 0, 12), (1471, 1469, 1470, 108)),
  ((yX12_cargo, cX12_cargo), (6, some .int), (4, 0, 12), (1475, 1473, 1474, 108)),
  ((yX12_isHole, cX12_isHole), (5, some .boolean), (4, 0, 12), (1485, 1484, 34, 108)),
  ((yX12_door, cX12_door), (6, some .int), (4, 0, 12), (1481, 1479, 1480, 108)),
  ((yX12_port, cX12_port), (6, some .int), (4, 0, 12), (1490, 1488, 1489, 108)),
  ((yX12_sets, cX12_sets), (5, some .int), (2, 0, 12), (1494, 1492, 1493, 108)),
  ((yX12_sine, cX12_sine), (1, some .int), (1, 1, 12), (1527, 1526, 0, 108)),
  ((yX12_leverAt, cX12_leverAt), (3, some .int), (1, 0, 12), (1566, 1565, 46, 108)),
  ((yX12_total, cX12_total), (3, some .int), (0, 0, 12), (1507, 1506, 35, 108)),
  ((yX12_upward, cX12_upward), (4, some .long), (0, 0, 12), (1519, 1518, 38, 108)),
  ((yX12_draft, cX12_draft), (1, some .int), (0, 0, 12), (1511, 1510, 36, 108)),
  ((yX12_runs, cX12_runs), (8, some .long), (2, 0, 12), (1537, 1536, 41, 108)),
  ((yX12_allRuns, cX12_allRuns), (5, some .long), (1, 0, 12), (1533, 1532, 40, 108)),
  ((yX12_asideNow, cX12_asideNow), (4, some .long), (0, 0, 12), (1578, 1577, 49, 108)),
  ((yX12_turnBy, cX12_turnBy), (9, some .long), (2, 0, 12), (1559, 1558, 45, 108)),
  ((yX12_restBy, cX12_restBy), (7, some .int), (2, 0, 12), (1555, 1554, 44, 108)),
  ((yX12_restFrom, cX12_restFrom), (2, some .int), (1, 0, 12), (1574, 1573, 48, 108)),
  ((yX12_loll, cX12_loll), (1, some .int), (0, 0, 12), (1551, 1550, 43, 108)),
  ((yX12_stiff, cX12_stiff), (3, some .int), (0, 0, 12), (1515, 1514, 37, 108)),
  ((yX12_beat, cX12_beat), (6, some .int), (0, 0, 12), (1546, 1545, 42, 108)),
  ((yX12_range, cX12_range), (7, some .int), (0, 0, 12), (1570, 1569, 47, 108)),
  ((yX12_isOver, cX12_isOver), (1, some .boolean), (0, 0, 12), (1582, 1581, 50, 108)),
  ((yX12_tells, cX12_tells), (2, some .int), (1, 0, 12), (1503, 1501, 1502, 108)),
  ((yX12_up, cX12_up), (1, some .long), (0, 0, 12), (1586, 1584, 1585, 108)),
  ((yX12_turn, cX12_turn), (2, some .long), (1, 0, 12), (1590, 1588, 1589, 108)),
  ((yX12_rest, cX12_rest), (2, some .int), (1, 0, 12), (1594, 1592, 1593, 108)),
  ((yX12_lever, cX12_lever), (2, some .int), (1, 0, 12), (1598, 1596, 1597, 108)),
  ((yX12_of, cX12_of), (3, some .int), (2, 0, 12), (1602, 1600, 1601, 108)),
  ((yX12_flows, cX12_flows), (3, some .long), (2, 0, 12), (1606, 1604, 1605, 108)),
  ((yX12_insideAt, cX12_insideAt), (6, some .int), (2, 0, 12), (1614, 1613, 51, 108)),
  ((yX12_outsideAt, cX12_outsideAt), (4, some .int), (1, 0, 12), (1625, 1624, 52, 108)),
  ((yX12_inside, cX12_inside), (3, some .int), (2, 0, 12), (1610, 1608, 1609, 108)),
  ((yX12_outside, cX12_outside), (2, some .int), (1, 0, 12), (1621, 1619, 1620, 108)),
  ((yX12_slid, cX12_slid), (2, some .int), (1, 0, 12), (1629, 1627, 1628, 108)),
  ((yX12_feed, cX12_feed), (6, some .int), (5, 0, 12), (1637, 1635, 1636, 108)),
  ((yX12_put, cX12_put), (3, none), (1, 0, 12), (1641, 1640, 54, 108)),
  ((yX12_end, cX12_end), (2, some .int), (1, 0, 12), (1645, 1643, 1644, 108)),
  ((yX12_wordOf, cX12_wordOf), (1, some (.object "java/lang/String")), (1, 1, 12), (1693, 1692, 0, 108)),
  ((yX12_clauseOf, cX12_clauseOf), (1, some (.object "java/lang/String")), (1, 1, 12), (1664, 1663, 0, 108)),
  ((yX12_fails, cX12_fails), (3, none), (2, 0, 12), (1686, 1685, 59, 108)),
  ((yX12_sign, cX12_sign), (1, some .int), (0, 0, 12), (1661, 1660, 57, 108)),
  ((yX12_blanks, cX12_blanks), (1, none), (0, 0, 12), (1657, 1656, 56, 108)),
  ((yX12_isDigit, cX12_isDigit), (1, some .boolean), (0, 0, 12), (1727, 1726, 64, 108)),
  ((yX12_stands, cX12_stands), (5, some .boolean), (1, 0, 12), (1673, 1672, 58, 108)),
  ((yX12_takes, cX12_takes), (3, some .boolean), (1, 0, 12), (1751, 1750, 69, 108)),
  ((yX12_entry, cX12_entry), (3, none), (2, 0, 12), (1742, 1741, 67, 108)),
  ((yX12_isCounted, cX12_isCounted), (2, none), (1, 0, 12), (1738, 1737, 66, 108)),
  ((yX12_digits, cX12_digits), (4, some .int), (1, 0, 12), (1734, 1733, 65, 108)),
  ((yX12_value, cX12_value), (3, none), (0, 0, 12), (1723, 1722, 63, 108)),
  ((yX12_term, cX12_term), (2, none), (0, 0, 12), (1719, 1718, 62, 108)),
  ((yX12_sum, cX12_sum), (2, none), (0, 0, 12), (1715, 1714, 61, 108)),
  ((yX12_compared, cX12_compared), (3, none), (0, 0, 12), (1768, 1767, 73, 108)),
  ((yX12_top, cX12_top), (1, some .int), (0, 0, 12), (1776, 1775, 75, 108)),
  ((yX12_opens, cX12_opens), (2, none), (1, 0, 12), (1764, 1763, 72, 108)),
  ((yX12_answers, cX12_answers), (2, none), (1, 0, 12), (1772, 1771, 74, 108)),
  ((yX12_fact, cX12_fact), (1, some .boolean), (0, 0, 12), (1759, 1758, 71, 108)),
  ((yX12_test, cX12_test), (5, none), (0, 0, 12), (1755, 1754, 70, 108)),
  ((yX12_amount, cX12_amount), (2, some .int), (1, 0, 12), (1746, 1745, 68, 108)),
  ((yX12_letter, cX12_letter), (2, some .int), (0, 0, 12), (1690, 1689, 60, 108)),
  ((yX12_clause, cX12_clause), (5, none), (1, 0, 12), (1653, 1652, 55, 108)),
  ((yX12_plan, cX12_plan), (3, some .int), (0, 0, 12), (1649, 1647, 1648, 108)),
  ((yX12_isPlan, cX12_isPlan), (2, some .boolean), (1, 0, 12), (1786, 1785, 76, 108)),
  ((yX12_truth, cX12_truth), (1, some .long), (1, 1, 12), (1812, 1811, 0, 108)),
  ((yX12_both, cX12_both), (5, some .long), (3, 1, 12), (1809, 1808, 0, 108)),
  ((yX12_answer, cX12_answer), (8, some .long), (3, 0, 12), (1806, 1805, 81, 108)),
  ((yX12_asks, cX12_asks), (2, none), (0, 0, 12), (1802, 1801, 80, 108)),
  ((yX12_pours, cX12_pours), (3, none), (2, 0, 12), (1816, 1815, 82, 108)),
  ((yX12_crosses, cX12_crosses), (5, none), (3, 0, 12), (1820, 1819, 83, 108)),
  ((yX12_does, cX12_does), (3, none), (2, 0, 12), (1798, 1797, 79, 108)),
  ((yX12_doorsGo, cX12_doorsGo), (5, none), (0, 0, 12), (1824, 1823, 84, 108)),
  ((yX12_portGoes, cX12_portGoes), (5, none), (1, 0, 12), (1828, 1827, 85, 108)),
  ((yX12_goesBy, cX12_goesBy), (4, none), (1, 0, 12), (1794, 1793, 78, 108)),
  ((yX12_goesOn, cX12_goesOn), (4, none), (2, 0, 12), (1790, 1789, 77, 108)),
  ((yX12_run, cX12_run), (3, some .int), (2, 0, 12), (1782, 1780, 1781, 108)),
  ((yX12_carry, cX12_carry), (3, none), (1, 0, 12), (1842, 1841, 87, 108)),
  ((yX12_carriesAll, cX12_carriesAll), (3, none), (2, 0, 12), (1838, 1837, 86, 108)),
  ((yX12_image, cX12_image), (2, some .int), (1, 0, 12), (1834, 1832, 1833, 108)),
  ((yX12_back, cX12_back), (2, some .int), (1, 0, 12), (1846, 1844, 1845, 108)),
  ((yX12_sinks, cX12_sinks), (5, some .int), (1, 0, 12), (1850, 1848, 1849, 108)),
  ((yX12_parts, cX12_parts), (5, some .int), (1, 0, 12), (1854, 1852, 1853, 108)),
  ((yX12_carried, cX12_carried), (9, some .int), (3, 0, 12), (1858, 1856, 1857, 108)),
  ((yX12_isNext, cX12_isNext), (6, some .boolean), (1, 0, 12), (1872, 1871, 89, 108)),
  ((yX12_swaps, cX12_swaps), (4, none), (2, 0, 12), (1876, 1875, 90, 108)),
  ((yX12_isFilled, cX12_isFilled), (7, some .boolean), (2, 0, 12), (1868, 1867, 88, 108)),
  ((yX12_order, cX12_order), (7, some .int), (3, 0, 12), (1863, 1861, 1862, 108)),
  ((yX12_allWater, cX12_allWater), (3, some .int), (0, 0, 12), (1884, 1883, 91, 108)),
  ((yX12_ahead, cX12_ahead), (6, some .int), (3, 0, 12), (1880, 1878, 1879, 108)),
  ((yX12_saved, cX12_saved), (7, some .int), (4, 0, 12), (1888, 1886, 1887, 108)),
  ((yX12_hoses, cX12_hoses), (7, some .int), (3, 0, 12), (1893, 1891, 1892, 108)),
  ((yX12_ice, cX12_ice), (5, some .int), (2, 0, 12), (1898, 1896, 1897, 108)),
  ((yX12_load, cX12_load), (4, some .int), (2, 0, 12), (1902, 1900, 1901, 108)),
  ((yX12_isBorne, cX12_isBorne), (5, some .boolean), (2, 0, 12), (1910, 1909, 92, 108)),
  ((yX12_night, cX12_night), (5, some .int), (2, 0, 12), (1906, 1904, 1905, 108)),
  ((yX12_guess, cX12_guess), (11, some .int), (3, 0, 12), (1914, 1912, 1913, 108)),
  ((yX12_worst, cX12_worst), (9, some .int), (4, 0, 12), (1923, 1922, 93, 108)),
  ((yX12_best, cX12_best), (9, some .int), (3, 0, 12), (1918, 1916, 1917, 108)),
  ((yX12_slopOf, cX12_slopOf), (7, some .int), (1, 0, 12), (1931, 1930, 94, 108)),
  ((yX12_slop, cX12_slop), (2, some .int), (1, 0, 12), (1927, 1925, 1926, 108)),
  ((yX12_still, cX12_still), (8, some .int), (1, 0, 12), (1936, 1934, 1935, 108)),
  ((yX12_floods, cX12_floods), (6, some .int), (2, 0, 12), (1940, 1938, 1939, 108)),
  ((yX12_leaves, cX12_leaves), (6, some .int), (2, 0, 12), (1944, 1942, 1943, 108)),
  ((yX12_count, cX12_count), (2, some .int), (1, 0, 12), (1948, 1946, 1947, 108)),
  ((yJ6_bitCount_0f7a4, cJ6_bitCount_0f7a4), (1, some .int), (1, 1, 99), (1079, 1078, 0, 116)),
  ((yJ0_length_8abf5, cJ0_length_8abf5), (1, some .int), (0, 0, 100), (1677, 1675, 1676, 111)),
  ((yJ0_charAt_5068e, cJ0_charAt_5068e), (2, some .char), (1, 0, 100), (762, 760, 761, 111)),
  ((yJ0_coder_7d493, cJ0_coder_7d493), (1, some .byte), (0, 0, 100), (1681, 1679, 1680, 111)),
  ((yJ0_isLatin1_aae02, cJ0_isLatin1_aae02), (1, some .boolean), (0, 0, 100), (766, 764, 765, 111)),
  ((yJ0_checkIndex_df160, cJ0_checkIndex_df160), (2, none), (2, 1, 100), (774, 773, 0, 111)),
  ((yJ1_charAt_3b067, cJ1_charAt_3b067), (2, some .char), (2, 1, 99), (771, 770, 0, 112)),
  ((yJ7_fill_d0a16, cJ7_fill_d0a16), (5, none), (2, 1, 99), (1089, 1088, 0, 109)),
  ((yJ7_fill_53178, cJ7_fill_53178), (4, none), (2, 1, 99), (629, 628, 0, 109)),
  ((yJ3_checkIndex_8e157, cJ3_checkIndex_8e157), (3, some .int), (3, 1, 99), (779, 778, 0, 113)),
  ((x, cL_law), (4, some .boolean), (1, 3, 99), (0, 0, 0, 0))]
