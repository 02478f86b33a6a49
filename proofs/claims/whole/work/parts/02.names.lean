def RX0 : String := "NinthDayHooded$Guides"
def TX0 : u_T := fun k => match k with
  | 0 => ("NinthDayHooded$Guides", "hooded", "[I", true)
  | 1 => ("NinthDayHooded$Guides", "best", "[I", true)
  | 2 => ("NinthDayHooded$Guides", "chosen", "[I", true)
  | 3 => ("NinthDayHooded$Guides", "leading", "[I", true)
  | 4 => ("NinthDayHooded$Guides", "prices", "[I", true)
  | 5 => ("NinthDayHooded$Guides", "atLeast", "[I", true)
  | 6 => ("NinthDayHooded$Guides", "n", "I", false)
  | 7 => ("NinthDayHooded$Guides", "crowd", "I", false)
  | _ => ("NinthDayHooded$Guides", "worth", "I", false)
def tyX0 : Nat → FieldType := fun k => match k with
  | 0 => .array .int
  | 1 => .array .int
  | 2 => .array .int
  | 3 => .array .int
  | 4 => .array .int
  | 5 => .array .int
  | 6 => .int
  | 7 => .int
  | _ => .int
theorem nmX0 : ∀ a, a < 9 → ∀ b, b < 9 → a ≠ b → (TX0 a).2.1 ≠ (TX0 b).2.1 := by decide +kernel
theorem tyX0_ok : ∀ k, k < 9 → parseFieldDescriptor (TX0 k).2.2.1 = some (tyX0 k) := by decide +kernel
def RX1 : String := "NinthDayHooded$Past"
def TX1 : u_T := fun k => match k with
  | 0 => ("NinthDayHooded$Past", "before", "[LNinthDayHooded$State;", true)
  | 1 => ("NinthDayHooded$Past", "kept", "[LNinthDayHooded$State;", true)
  | 2 => ("NinthDayHooded$Past", "keptCrowd", "[I", true)
  | 3 => ("NinthDayHooded$Past", "next", "I", false)
  | _ => ("NinthDayHooded$Past", "undos", "I", false)
def tyX1 : Nat → FieldType := fun k => match k with
  | 0 => .array (.object "NinthDayHooded$State")
  | 1 => .array (.object "NinthDayHooded$State")
  | 2 => .array .int
  | 3 => .int
  | _ => .int
theorem nmX1 : ∀ a, a < 5 → ∀ b, b < 5 → a ≠ b → (TX1 a).2.1 ≠ (TX1 b).2.1 := by decide +kernel
theorem tyX1_ok : ∀ k, k < 5 → parseFieldDescriptor (TX1 k).2.2.1 = some (tyX1 k) := by decide +kernel
def RX2 : String := "NinthDayHooded$People"
def TX2 : u_T := fun k => match k with
  | 0 => ("NinthDayHooded$People", "trust", "[I", true)
  | 1 => ("NinthDayHooded$People", "likes", "[I", true)
  | 2 => ("NinthDayHooded$People", "ring", "[I", true)
  | 3 => ("NinthDayHooded$People", "most", "[I", true)
  | _ => ("NinthDayHooded$People", "n", "I", false)
def tyX2 : Nat → FieldType := fun k => match k with
  | 0 => .array .int
  | 1 => .array .int
  | 2 => .array .int
  | 3 => .array .int
  | _ => .int
theorem nmX2 : ∀ a, a < 5 → ∀ b, b < 5 → a ≠ b → (TX2 a).2.1 ≠ (TX2 b).2.1 := by decide +kernel
theorem tyX2_ok : ∀ k, k < 5 → parseFieldDescriptor (TX2 k).2.2.1 = some (tyX2 k) := by decide +kernel
def RX3 : String := "NinthDayHooded$Row"
def TX3 : u_T := fun k => match k with
  | 0 => ("NinthDayHooded$Row", "numbers", "[I", true)
  | _ => ("NinthDayHooded$Row", "size", "I", false)
def tyX3 : Nat → FieldType := fun k => match k with
  | 0 => .array .int
  | _ => .int
theorem nmX3 : ∀ a, a < 2 → ∀ b, b < 2 → a ≠ b → (TX3 a).2.1 ≠ (TX3 b).2.1 := by decide +kernel
theorem tyX3_ok : ∀ k, k < 2 → parseFieldDescriptor (TX3 k).2.2.1 = some (tyX3 k) := by decide +kernel
def RX4 : String := "NinthDayHooded$Rule"
def TX4 : u_T := fun k => match k with
  | 0 => ("NinthDayHooded$Rule", "code", "[I", true)
  | 1 => ("NinthDayHooded$Rule", "draft", "[I", true)
  | 2 => ("NinthDayHooded$Rule", "waiting", "[I", true)
  | 3 => ("NinthDayHooded$Rule", "stack", "[I", true)
  | 4 => ("NinthDayHooded$Rule", "things", "[I", true)
  | 5 => ("NinthDayHooded$Rule", "compared", "[Z", true)
  | 6 => ("NinthDayHooded$Rule", "size", "I", false)
  | 7 => ("NinthDayHooded$Rule", "drafted", "I", false)
  | 8 => ("NinthDayHooded$Rule", "waits", "I", false)
  | 9 => ("NinthDayHooded$Rule", "depth", "I", false)
  | 10 => ("NinthDayHooded$Rule", "digits", "I", false)
  | _ => ("NinthDayHooded$Rule", "wantsThing", "Z", false)
def tyX4 : Nat → FieldType := fun k => match k with
  | 0 => .array .int
  | 1 => .array .int
  | 2 => .array .int
  | 3 => .array .int
  | 4 => .array .int
  | 5 => .array .boolean
  | 6 => .int
  | 7 => .int
  | 8 => .int
  | 9 => .int
  | 10 => .int
  | _ => .boolean
theorem nmX4 : ∀ a, a < 12 → ∀ b, b < 12 → a ≠ b → (TX4 a).2.1 ≠ (TX4 b).2.1 := by decide +kernel
theorem tyX4_ok : ∀ k, k < 12 → parseFieldDescriptor (TX4 k).2.2.1 = some (tyX4 k) := by decide +kernel
def RX5 : String := "NinthDayHooded$State"
def TX5 : u_T := fun k => match k with
  | 0 => ("NinthDayHooded$State", "hood", "[I", true)
  | 1 => ("NinthDayHooded$State", "street", "[I", true)
  | 2 => ("NinthDayHooded$State", "trades", "[I", true)
  | 3 => ("NinthDayHooded$State", "lessons", "[I", true)
  | 4 => ("NinthDayHooded$State", "book", "[J", true)
  | _ => ("NinthDayHooded$State", "now", "I", false)
def tyX5 : Nat → FieldType := fun k => match k with
  | 0 => .array .int
  | 1 => .array .int
  | 2 => .array .int
  | 3 => .array .int
  | 4 => .array .long
  | _ => .int
theorem nmX5 : ∀ a, a < 6 → ∀ b, b < 6 → a ≠ b → (TX5 a).2.1 ≠ (TX5 b).2.1 := by decide +kernel
theorem tyX5_ok : ∀ k, k < 6 → parseFieldDescriptor (TX5 k).2.2.1 = some (tyX5 k) := by decide +kernel
def RX6 : String := "NinthDayHooded$Tasks"
def TX6 : u_T := fun k => match k with
  | 0 => ("NinthDayHooded$Tasks", "trade", "[I", true)
  | 1 => ("NinthDayHooded$Tasks", "need", "[I", true)
  | 2 => ("NinthDayHooded$Tasks", "needOf", "[I", true)
  | 3 => ("NinthDayHooded$Tasks", "able", "[I", true)
  | 4 => ("NinthDayHooded$Tasks", "known", "[I", true)
  | 5 => ("NinthDayHooded$Tasks", "hooded", "[I", true)
  | 6 => ("NinthDayHooded$Tasks", "moved", "[I", true)
  | 7 => ("NinthDayHooded$Tasks", "movedTo", "[I", true)
  | 8 => ("NinthDayHooded$Tasks", "n", "I", false)
  | 9 => ("NinthDayHooded$Tasks", "crowd", "I", false)
  | _ => ("NinthDayHooded$Tasks", "wanted", "I", false)
def tyX6 : Nat → FieldType := fun k => match k with
  | 0 => .array .int
  | 1 => .array .int
  | 2 => .array .int
  | 3 => .array .int
  | 4 => .array .int
  | 5 => .array .int
  | 6 => .array .int
  | 7 => .array .int
  | 8 => .int
  | 9 => .int
  | _ => .int
theorem nmX6 : ∀ a, a < 11 → ∀ b, b < 11 → a ≠ b → (TX6 a).2.1 ≠ (TX6 b).2.1 := by decide +kernel
theorem tyX6_ok : ∀ k, k < 11 → parseFieldDescriptor (TX6 k).2.2.1 = some (tyX6 k) := by decide +kernel
def RX7 : String := "NinthDayHooded$Text"
def TX7 : u_T := fun k => match k with
  | 0 => ("NinthDayHooded$Text", "signs", "[I", true)
  | _ => ("NinthDayHooded$Text", "length", "I", false)
def tyX7 : Nat → FieldType := fun k => match k with
  | 0 => .array .int
  | _ => .int
theorem nmX7 : ∀ a, a < 2 → ∀ b, b < 2 → a ≠ b → (TX7 a).2.1 ≠ (TX7 b).2.1 := by decide +kernel
theorem tyX7_ok : ∀ k, k < 2 → parseFieldDescriptor (TX7 k).2.2.1 = some (tyX7 k) := by decide +kernel
def RX8 : String := "NinthDayHooded$Thefts"
def TX8 : u_T := fun k => match k with
  | 0 => ("NinthDayHooded$Thefts", "robbed", "[I", true)
  | 1 => ("NinthDayHooded$Thefts", "when", "[I", true)
  | 2 => ("NinthDayHooded$Thefts", "who", "[I", true)
  | _ => ("NinthDayHooded$Thefts", "n", "I", false)
def tyX8 : Nat → FieldType := fun k => match k with
  | 0 => .array .int
  | 1 => .array .int
  | 2 => .array .int
  | _ => .int
theorem nmX8 : ∀ a, a < 4 → ∀ b, b < 4 → a ≠ b → (TX8 a).2.1 ≠ (TX8 b).2.1 := by decide +kernel
theorem tyX8_ok : ∀ k, k < 4 → parseFieldDescriptor (TX8 k).2.2.1 = some (tyX8 k) := by decide +kernel
def RX9 : String := "NinthDayHooded$Walk"
def TX9 : u_T := fun k => match k with
  | 0 => ("NinthDayHooded$Walk", "guides", "LNinthDayHooded$Guides;", true)
  | 1 => ("NinthDayHooded$Walk", "leadings", "[I", true)
  | 2 => ("NinthDayHooded$Walk", "led", "I", false)
  | 3 => ("NinthDayHooded$Walk", "price", "I", false)
  | _ => ("NinthDayHooded$Walk", "learnt", "I", false)
def tyX9 : Nat → FieldType := fun k => match k with
  | 0 => .object "NinthDayHooded$Guides"
  | 1 => .array .int
  | 2 => .int
  | 3 => .int
  | _ => .int
theorem nmX9 : ∀ a, a < 5 → ∀ b, b < 5 → a ≠ b → (TX9 a).2.1 ≠ (TX9 b).2.1 := by decide +kernel
theorem tyX9_ok : ∀ k, k < 5 → parseFieldDescriptor (TX9 k).2.2.1 = some (tyX9 k) := by decide +kernel
def RX10 : String := "NinthDayHooded$Wishes"
def TX10 : u_T := fun k => match k with
  | 0 => ("NinthDayHooded$Wishes", "one", "[I", true)
  | 1 => ("NinthDayHooded$Wishes", "other", "[I", true)
  | 2 => ("NinthDayHooded$Wishes", "same", "[I", true)
  | 3 => ("NinthDayHooded$Wishes", "colour", "[I", true)
  | 4 => ("NinthDayHooded$Wishes", "kin", "[I", true)
  | _ => ("NinthDayHooded$Wishes", "n", "I", false)
def tyX10 : Nat → FieldType := fun k => match k with
  | 0 => .array .int
  | 1 => .array .int
  | 2 => .array .int
  | 3 => .array .int
  | 4 => .array .int
  | _ => .int
theorem nmX10 : ∀ a, a < 6 → ∀ b, b < 6 → a ≠ b → (TX10 a).2.1 ≠ (TX10 b).2.1 := by decide +kernel
theorem tyX10_ok : ∀ k, k < 6 → parseFieldDescriptor (TX10 k).2.2.1 = some (tyX10 k) := by decide +kernel
def RX11 : String := "NinthDayHooded"
def TX11 : u_T := fun k => match k with
  | 0 => ("NinthDayHooded", "text", "LNinthDayHooded$Text;", true)
  | 1 => ("NinthDayHooded", "row", "LNinthDayHooded$Row;", true)
  | 2 => ("NinthDayHooded", "people", "LNinthDayHooded$People;", true)
  | 3 => ("NinthDayHooded", "state", "LNinthDayHooded$State;", true)
  | 4 => ("NinthDayHooded", "sketch", "LNinthDayHooded$State;", true)
  | 5 => ("NinthDayHooded", "past", "LNinthDayHooded$Past;", true)
  | 6 => ("NinthDayHooded", "rule", "LNinthDayHooded$Rule;", true)
  | 7 => ("NinthDayHooded", "walk", "LNinthDayHooded$Walk;", true)
  | 8 => ("NinthDayHooded", "tasks", "LNinthDayHooded$Tasks;", true)
  | 9 => ("NinthDayHooded", "wishes", "LNinthDayHooded$Wishes;", true)
  | _ => ("NinthDayHooded", "thefts", "LNinthDayHooded$Thefts;", true)
def tyX11 : Nat → FieldType := fun k => match k with
  | 0 => .object "NinthDayHooded$Text"
  | 1 => .object "NinthDayHooded$Row"
  | 2 => .object "NinthDayHooded$People"
  | 3 => .object "NinthDayHooded$State"
  | 4 => .object "NinthDayHooded$State"
  | 5 => .object "NinthDayHooded$Past"
  | 6 => .object "NinthDayHooded$Rule"
  | 7 => .object "NinthDayHooded$Walk"
  | 8 => .object "NinthDayHooded$Tasks"
  | 9 => .object "NinthDayHooded$Wishes"
  | _ => .object "NinthDayHooded$Thefts"
theorem nmX11 : ∀ a, a < 11 → ∀ b, b < 11 → a ≠ b → (TX11 a).2.1 ≠ (TX11 b).2.1 := by decide +kernel
theorem tyX11_ok : ∀ k, k < 11 → parseFieldDescriptor (TX11 k).2.2.1 = some (tyX11 k) := by decide +kernel
def RX12 : String := "NinthDayHoodedModel"
def TX12 : u_T := fun k => match k with
  | 0 => ("NinthDayHoodedModel", "now", "[I", true)
  | 1 => ("NinthDayHoodedModel", "people", "I", false)
  | 2 => ("NinthDayHoodedModel", "trust", "[I", true)
  | 3 => ("NinthDayHoodedModel", "likes", "[I", true)
  | 4 => ("NinthDayHoodedModel", "text", "[B", true)
  | 5 => ("NinthDayHoodedModel", "typed", "I", false)
  | 6 => ("NinthDayHoodedModel", "row", "[I", true)
  | 7 => ("NinthDayHoodedModel", "rowMany", "I", false)
  | 8 => ("NinthDayHoodedModel", "thrown", "I", false)
  | 9 => ("NinthDayHoodedModel", "read", "[B", false)
  | 10 => ("NinthDayHoodedModel", "length", "I", false)
  | 11 => ("NinthDayHoodedModel", "top", "I", false)
  | 12 => ("NinthDayHoodedModel", "at", "I", false)
  | 13 => ("NinthDayHoodedModel", "wrong", "I", false)
  | 14 => ("NinthDayHoodedModel", "comes", "[I", true)
  | 15 => ("NinthDayHoodedModel", "rule", "[B", true)
  | 16 => ("NinthDayHoodedModel", "ruleSize", "I", false)
  | 17 => ("NinthDayHoodedModel", "askedState", "[I", false)
  | 18 => ("NinthDayHoodedModel", "askedOne", "I", false)
  | 19 => ("NinthDayHoodedModel", "askedGuide", "I", false)
  | 20 => ("NinthDayHoodedModel", "askedDay", "I", false)
  | 21 => ("NinthDayHoodedModel", "guide", "[I", true)
  | 22 => ("NinthDayHoodedModel", "bestGuide", "[I", true)
  | 23 => ("NinthDayHoodedModel", "leadsNow", "[I", true)
  | 24 => ("NinthDayHoodedModel", "costs", "[I", true)
  | 25 => ("NinthDayHoodedModel", "hooded", "I", false)
  | 26 => ("NinthDayHoodedModel", "leastAlone", "I", false)
  | 27 => ("NinthDayHoodedModel", "leastCost", "I", false)
  | 28 => ("NinthDayHoodedModel", "ledNow", "I", false)
  | 29 => ("NinthDayHoodedModel", "learnt", "I", false)
  | 30 => ("NinthDayHoodedModel", "undos", "[I", true)
  | 31 => ("NinthDayHoodedModel", "undoMany", "I", false)
  | 32 => ("NinthDayHoodedModel", "aside", "[I", true)
  | 33 => ("NinthDayHoodedModel", "acts", "[I", true)
  | 34 => ("NinthDayHoodedModel", "seasonLed", "I", false)
  | 35 => ("NinthDayHoodedModel", "counts", "[I", true)
  | 36 => ("NinthDayHoodedModel", "then", "[I", true)
  | 37 => ("NinthDayHoodedModel", "tasks", "[I", true)
  | 38 => ("NinthDayHoodedModel", "taskMany", "I", false)
  | 39 => ("NinthDayHoodedModel", "hoods", "[I", true)
  | 40 => ("NinthDayHoodedModel", "skills", "[I", true)
  | 41 => ("NinthDayHoodedModel", "askedMany", "I", false)
  | 42 => ("NinthDayHoodedModel", "placed", "[I", true)
  | 43 => ("NinthDayHoodedModel", "tried", "I", false)
  | 44 => ("NinthDayHoodedModel", "changed", "[I", true)
  | 45 => ("NinthDayHoodedModel", "wishes", "[I", true)
  | 46 => ("NinthDayHoodedModel", "wishMany", "I", false)
  | 47 => ("NinthDayHoodedModel", "colour", "[I", true)
  | 48 => ("NinthDayHoodedModel", "bestColour", "[I", true)
  | 49 => ("NinthDayHoodedModel", "fewestColours", "I", false)
  | 50 => ("NinthDayHoodedModel", "ring", "[I", true)
  | 51 => ("NinthDayHoodedModel", "ringMany", "I", false)
  | 52 => ("NinthDayHoodedModel", "given", "[I", true)
  | 53 => ("NinthDayHoodedModel", "thefts", "[I", true)
  | 54 => ("NinthDayHoodedModel", "theftMany", "I", false)
  | 55 => ("NinthDayHoodedModel", "seeing", "I", false)
  | 56 => ("NinthDayHoodedModel", "blind", "I", false)
  | 57 => ("NinthDayHoodedModel", "came", "I", false)
  | 58 => ("NinthDayHoodedModel", "kept", "[I", true)
  | 59 => ("NinthDayHoodedModel", "isKept", "[Z", true)
  | _ => ("NinthDayHoodedModel", "keptCame", "[I", true)
def tyX12 : Nat → FieldType := fun k => match k with
  | 0 => .array .int
  | 1 => .int
  | 2 => .array .int
  | 3 => .array .int
  | 4 => .array .byte
  | 5 => .int
  | 6 => .array .int
  | 7 => .int
  | 8 => .int
  | 9 => .array .byte
  | 10 => .int
  | 11 => .int
  | 12 => .int
  | 13 => .int
  | 14 => .array .int
  | 15 => .array .byte
  | 16 => .int
  | 17 => .array .int
  | 18 => .int
  | 19 => .int
  | 20 => .int
  | 21 => .array .int
  | 22 => .array .int
  | 23 => .array .int
  | 24 => .array .int
  | 25 => .int
  | 26 => .int
  | 27 => .int
  | 28 => .int
  | 29 => .int
  | 30 => .array .int
  | 31 => .int
  | 32 => .array .int
  | 33 => .array .int
  | 34 => .int
  | 35 => .array .int
  | 36 => .array .int
  | 37 => .array .int
  | 38 => .int
  | 39 => .array .int
  | 40 => .array .int
  | 41 => .int
  | 42 => .array .int
  | 43 => .int
  | 44 => .array .int
  | 45 => .array .int
  | 46 => .int
  | 47 => .array .int
  | 48 => .array .int
  | 49 => .int
  | 50 => .array .int
  | 51 => .int
  | 52 => .array .int
  | 53 => .array .int
  | 54 => .int
  | 55 => .int
  | 56 => .int
  | 57 => .int
  | 58 => .array .int
  | 59 => .array .boolean
  | _ => .array .int
theorem nmX12 : ∀ a, a < 61 → ∀ b, b < 61 → a ≠ b → (TX12 a).2.1 ≠ (TX12 b).2.1 := by decide +kernel
theorem tyX12_ok : ∀ k, k < 61 → parseFieldDescriptor (TX12 k).2.2.1 = some (tyX12 k) := by decide +kernel
-- own words
abbrev xe_cl : List vw_C := [(RX0, TX0, 9), (RX1, TX1, 5), (RX2, TX2, 5), (RX3, TX3, 2), (RX4, TX4, 12), (RX5, TX5, 6), (RX6, TX6, 11), (RX7, TX7, 2), (RX8, TX8, 4), (RX9, TX9, 5), (RX10, TX10, 6), (RX11, TX11, 11), (RX12, TX12, 61)]
def xe_ty (ci : Nat) : Nat → FieldType := match ci with
  | 0 => tyX0
  | 1 => tyX1
  | 2 => tyX2
  | 3 => tyX3
  | 4 => tyX4
  | 5 => tyX5
  | 6 => tyX6
  | 7 => tyX7
  | 8 => tyX8
  | 9 => tyX9
  | 10 => tyX10
  | 11 => tyX11
  | _ => tyX12
/-- the blank object of a class -/
def xe_dflt (ci : Nat) : List Value := match ci with
  | 0 => [.null, .null, .null, .null, .null, .null, .int 0, .int 0, .int 0]
  | 1 => [.null, .null, .null, .int 0, .int 0]
  | 2 => [.null, .null, .null, .null, .int 0]
  | 3 => [.null, .int 0]
  | 4 => [.null, .null, .null, .null, .null, .null, .int 0, .int 0, .int 0, .int 0, .int 0, .int 0]
  | 5 => [.null, .null, .null, .null, .null, .int 0]
  | 6 => [.null, .null, .null, .null, .null, .null, .null, .null, .int 0, .int 0, .int 0]
  | 7 => [.null, .int 0]
  | 8 => [.null, .null, .null, .int 0]
  | 9 => [.null, .null, .int 0, .int 0, .int 0]
  | 10 => [.null, .null, .null, .null, .null, .int 0]
  | 11 => [.null, .null, .null, .null, .null, .null, .null, .null, .null, .null, .null]
  | _ => [.null, .int 0, .null, .null, .null, .int 0, .null, .int 0, .int 0, .null, .int 0, .int 0, .int 0, .int 0, .null, .null, .int 0, .null, .int 0, .int 0, .int 0, .null, .null, .null, .null, .int 0, .int 0, .int 0, .int 0, .int 0, .null, .int 0, .null, .null, .int 0, .null, .null, .null, .int 0, .null, .null, .int 0, .null, .int 0, .null, .null, .int 0, .null, .null, .int 0, .null, .int 0, .null, .null, .int 0, .int 0, .int 0, .int 0, .null, .null, .null]
/-- how many places the law's own making fills, the script's among them -/
def xe_Z : Nat := 178
