/-! Class names, fields in the order of the slots, their types (printed names, pasted). -/
def RX0 : String := "CommaWill$Forest"
def TX0 : u_T := fun k => match k with
  | 0 => ("CommaWill$Forest", "trees", "I", false)
  | 1 => ("CommaWill$Forest", "deep", "[I", true)
  | 2 => ("CommaWill$Forest", "above", "[J", true)
  | 3 => ("CommaWill$Forest", "list", "[I", true)
  | 4 => ("CommaWill$Forest", "count", "I", false)
  | _ => ("CommaWill$Forest", "joins", "I", false)
def tyX0 : Nat → FieldType := fun k => match k with
  | 0 => .int
  | 1 => .array .int
  | 2 => .array .long
  | 3 => .array .int
  | 4 => .int
  | _ => .int
abbrev wsX00 : List Cond := u_ws RX0 TX0 6
theorem nmX0 : ∀ a, a < 6 → ∀ b, b < 6 → a ≠ b → (TX0 a).2.1 ≠ (TX0 b).2.1 := by decide +kernel
theorem tyX0_ok : ∀ k, k < 6 → parseFieldDescriptor (TX0 k).2.2.1 = some (tyX0 k) := by decide +kernel
def RX1 : String := "CommaWill$Ledger"
def TX1 : u_T := fun k => match k with
  | 0 => ("CommaWill$Ledger", "got", "[I", true)
  | 1 => ("CommaWill$Ledger", "paper", "LCommaWill$Paper;", true)
  | _ => ("CommaWill$Ledger", "isKnown", "[Z", true)
def tyX1 : Nat → FieldType := fun k => match k with
  | 0 => .array .int
  | 1 => .object "CommaWill$Paper"
  | _ => .array .boolean
abbrev wsX10 : List Cond := u_ws RX1 TX1 3
theorem nmX1 : ∀ a, a < 3 → ∀ b, b < 3 → a ≠ b → (TX1 a).2.1 ≠ (TX1 b).2.1 := by decide +kernel
theorem tyX1_ok : ∀ k, k < 3 → parseFieldDescriptor (TX1 k).2.2.1 = some (tyX1 k) := by decide +kernel
def RX2 : String := "CommaWill$Log"
def TX2 : u_T := fun k => match k with
  | 0 => ("CommaWill$Log", "size", "I", false)
  | 1 => ("CommaWill$Log", "what", "[I", true)
  | 2 => ("CommaWill$Log", "where", "[I", true)
  | _ => ("CommaWill$Log", "was", "[I", true)
def tyX2 : Nat → FieldType := fun k => match k with
  | 0 => .int
  | 1 => .array .int
  | 2 => .array .int
  | _ => .array .int
abbrev wsX20 : List Cond := u_ws RX2 TX2 4
theorem nmX2 : ∀ a, a < 4 → ∀ b, b < 4 → a ≠ b → (TX2 a).2.1 ≠ (TX2 b).2.1 := by decide +kernel
theorem tyX2_ok : ∀ k, k < 4 → parseFieldDescriptor (TX2 k).2.2.1 = some (tyX2 k) := by decide +kernel
def RX3 : String := "CommaWill$Paper"
def TX3 : u_T := fun k => match k with
  | 0 => ("CommaWill$Paper", "would", "[I", true)
  | 1 => ("CommaWill$Paper", "first", "[I", true)
  | 2 => ("CommaWill$Paper", "barred", "I", false)
  | 3 => ("CommaWill$Paper", "fit", "I", false)
  | 4 => ("CommaWill$Paper", "sums", "LCommaWill$Sums;", true)
  | 5 => ("CommaWill$Paper", "forest", "LCommaWill$Forest;", false)
  | 6 => ("CommaWill$Paper", "will", "LCommaWill$Will;", false)
  | 7 => ("CommaWill$Paper", "law", "LCommaWill$Text;", false)
  | _ => ("CommaWill$Paper", "base", "I", false)
def tyX3 : Nat → FieldType := fun k => match k with
  | 0 => .array .int
  | 1 => .array .int
  | 2 => .int
  | 3 => .int
  | 4 => .object "CommaWill$Sums"
  | 5 => .object "CommaWill$Forest"
  | 6 => .object "CommaWill$Will"
  | 7 => .object "CommaWill$Text"
  | _ => .int
abbrev wsX30 : List Cond := u_ws RX3 TX3 9
theorem nmX3 : ∀ a, a < 9 → ∀ b, b < 9 → a ≠ b → (TX3 a).2.1 ≠ (TX3 b).2.1 := by decide +kernel
theorem tyX3_ok : ∀ k, k < 9 → parseFieldDescriptor (TX3 k).2.2.1 = some (tyX3 k) := by decide +kernel
def RX4 : String := "CommaWill$Reader"
def TX4 : u_T := fun k => match k with
  | 0 => ("CommaWill$Reader", "bytes", "[I", true)
  | 1 => ("CommaWill$Reader", "length", "I", false)
  | 2 => ("CommaWill$Reader", "faultAt", "I", false)
  | 3 => ("CommaWill$Reader", "text", "LCommaWill$Text;", true)
  | 4 => ("CommaWill$Reader", "lawful", "Z", false)
  | 5 => ("CommaWill$Reader", "start", "I", false)
  | 6 => ("CommaWill$Reader", "stop", "I", false)
  | 7 => ("CommaWill$Reader", "parts", "I", false)
  | _ => ("CommaWill$Reader", "open", "I", false)
def tyX4 : Nat → FieldType := fun k => match k with
  | 0 => .array .int
  | 1 => .int
  | 2 => .int
  | 3 => .object "CommaWill$Text"
  | 4 => .boolean
  | 5 => .int
  | 6 => .int
  | 7 => .int
  | _ => .int
abbrev wsX40 : List Cond := u_ws RX4 TX4 9
theorem nmX4 : ∀ a, a < 9 → ∀ b, b < 9 → a ≠ b → (TX4 a).2.1 ≠ (TX4 b).2.1 := by decide +kernel
theorem tyX4_ok : ∀ k, k < 9 → parseFieldDescriptor (TX4 k).2.2.1 = some (tyX4 k) := by decide +kernel
def RX5 : String := "CommaWill$Settler"
def TX5 : u_T := fun k => match k with
  | 0 => ("CommaWill$Settler", "tree", "I", false)
  | 1 => ("CommaWill$Settler", "more", "I", false)
  | 2 => ("CommaWill$Settler", "trial", "[I", true)
  | 3 => ("CommaWill$Settler", "wrong", "[J", true)
  | 4 => ("CommaWill$Settler", "forest", "LCommaWill$Forest;", false)
  | _ => ("CommaWill$Settler", "least", "[I", false)
def tyX5 : Nat → FieldType := fun k => match k with
  | 0 => .int
  | 1 => .int
  | 2 => .array .int
  | 3 => .array .long
  | 4 => .object "CommaWill$Forest"
  | _ => .array .int
abbrev wsX50 : List Cond := u_ws RX5 TX5 6
theorem nmX5 : ∀ a, a < 6 → ∀ b, b < 6 → a ≠ b → (TX5 a).2.1 ≠ (TX5 b).2.1 := by decide +kernel
theorem tyX5_ok : ∀ k, k < 6 → parseFieldDescriptor (TX5 k).2.2.1 = some (tyX5 k) := by decide +kernel
def RX6 : String := "CommaWill$Sums"
def TX6 : u_T := fun k => match k with
  | 0 => ("CommaWill$Sums", "words", "[I", true)
  | _ => ("CommaWill$Sums", "stack", "[I", true)
def tyX6 : Nat → FieldType := fun k => match k with
  | 0 => .array .int
  | _ => .array .int
abbrev wsX60 : List Cond := u_ws RX6 TX6 2
theorem nmX6 : ∀ a, a < 2 → ∀ b, b < 2 → a ≠ b → (TX6 a).2.1 ≠ (TX6 b).2.1 := by decide +kernel
theorem tyX6_ok : ∀ k, k < 2 → parseFieldDescriptor (TX6 k).2.2.1 = some (tyX6 k) := by decide +kernel
def RX7 : String := "CommaWill$Text"
def TX7 : u_T := fun k => match k with
  | 0 => ("CommaWill$Text", "clauses", "I", false)
  | 1 => ("CommaWill$Text", "size", "I", false)
  | 2 => ("CommaWill$Text", "head", "[I", true)
  | 3 => ("CommaWill$Text", "first", "[I", true)
  | 4 => ("CommaWill$Text", "second", "[I", true)
  | 5 => ("CommaWill$Text", "test", "[I", true)
  | 6 => ("CommaWill$Text", "repeats", "[I", true)
  | _ => ("CommaWill$Text", "code", "[I", true)
def tyX7 : Nat → FieldType := fun k => match k with
  | 0 => .int
  | 1 => .int
  | 2 => .array .int
  | 3 => .array .int
  | 4 => .array .int
  | 5 => .array .int
  | 6 => .array .int
  | _ => .array .int
abbrev wsX70 : List Cond := u_ws RX7 TX7 8
theorem nmX7 : ∀ a, a < 8 → ∀ b, b < 8 → a ≠ b → (TX7 a).2.1 ≠ (TX7 b).2.1 := by decide +kernel
theorem tyX7_ok : ∀ k, k < 8 → parseFieldDescriptor (TX7 k).2.2.1 = some (tyX7 k) := by decide +kernel
def RX8 : String := "CommaWill$Will"
def TX8 : u_T := fun k => match k with
  | 0 => ("CommaWill$Will", "names", "I", false)
  | 1 => ("CommaWill$Will", "owner", "[I", true)
  | 2 => ("CommaWill$Will", "kinds", "[I", true)
  | 3 => ("CommaWill$Will", "marks", "[I", true)
  | 4 => ("CommaWill$Will", "living", "I", false)
  | 5 => ("CommaWill$Will", "terms", "[I", true)
  | 6 => ("CommaWill$Will", "judges", "I", false)
  | 7 => ("CommaWill$Will", "held", "[I", true)
  | 8 => ("CommaWill$Will", "tolds", "I", false)
  | 9 => ("CommaWill$Will", "toldOf", "[I", true)
  | 10 => ("CommaWill$Will", "toldMuch", "[I", true)
  | 11 => ("CommaWill$Will", "laws", "I", false)
  | 12 => ("CommaWill$Will", "lawAt", "[LCommaWill$Text;", true)
  | _ => ("CommaWill$Will", "inForce", "I", false)
def tyX8 : Nat → FieldType := fun k => match k with
  | 0 => .int
  | 1 => .array .int
  | 2 => .array .int
  | 3 => .array .int
  | 4 => .int
  | 5 => .array .int
  | 6 => .int
  | 7 => .array .int
  | 8 => .int
  | 9 => .array .int
  | 10 => .array .int
  | 11 => .int
  | 12 => .array (.object "CommaWill$Text")
  | _ => .int
abbrev wsX80 : List Cond := u_ws RX8 TX8 14
theorem nmX8 : ∀ a, a < 14 → ∀ b, b < 14 → a ≠ b → (TX8 a).2.1 ≠ (TX8 b).2.1 := by decide +kernel
theorem tyX8_ok : ∀ k, k < 14 → parseFieldDescriptor (TX8 k).2.2.1 = some (tyX8 k) := by decide +kernel
def RX9 : String := "CommaWill"
def TX9 : u_T := fun k => match k with
  | 0 => ("CommaWill", "will", "LCommaWill$Will;", true)
  | 1 => ("CommaWill", "before", "LCommaWill$Will;", true)
  | 2 => ("CommaWill", "images", "[LCommaWill$Will;", true)
  | 3 => ("CommaWill", "log", "LCommaWill$Log;", true)
  | 4 => ("CommaWill", "logBefore", "LCommaWill$Log;", true)
  | 5 => ("CommaWill", "reader", "LCommaWill$Reader;", true)
  | 6 => ("CommaWill", "orderSums", "LCommaWill$Sums;", true)
  | 7 => ("CommaWill", "forest", "LCommaWill$Forest;", true)
  | 8 => ("CommaWill", "ledger", "LCommaWill$Ledger;", true)
  | 9 => ("CommaWill", "paper", "LCommaWill$Paper;", true)
  | 10 => ("CommaWill", "settler", "LCommaWill$Settler;", true)
  | 11 => ("CommaWill", "fitting", "[I", true)
  | 12 => ("CommaWill", "chances", "[J", true)
  | 13 => ("CommaWill", "refusals", "[I", true)
  | 14 => ("CommaWill", "blotted", "I", false)
  | 15 => ("CommaWill", "stoppedAt", "I", false)
  | 16 => ("CommaWill", "latestStatus", "I", false)
  | 17 => ("CommaWill", "drawnLiving", "I", false)
  | 18 => ("CommaWill", "remarked", "Z", false)
  | _ => ("CommaWill", "stale", "Z", false)
def tyX9 : Nat → FieldType := fun k => match k with
  | 0 => .object "CommaWill$Will"
  | 1 => .object "CommaWill$Will"
  | 2 => .array (.object "CommaWill$Will")
  | 3 => .object "CommaWill$Log"
  | 4 => .object "CommaWill$Log"
  | 5 => .object "CommaWill$Reader"
  | 6 => .object "CommaWill$Sums"
  | 7 => .object "CommaWill$Forest"
  | 8 => .object "CommaWill$Ledger"
  | 9 => .object "CommaWill$Paper"
  | 10 => .object "CommaWill$Settler"
  | 11 => .array .int
  | 12 => .array .long
  | 13 => .array .int
  | 14 => .int
  | 15 => .int
  | 16 => .int
  | 17 => .int
  | 18 => .boolean
  | _ => .boolean
abbrev wsX90 : List Cond := u_ws RX9 TX9 20
theorem nmX9 : ∀ a, a < 20 → ∀ b, b < 20 → a ≠ b → (TX9 a).2.1 ≠ (TX9 b).2.1 := by decide +kernel
theorem tyX9_ok : ∀ k, k < 20 → parseFieldDescriptor (TX9 k).2.2.1 = some (tyX9 k) := by decide +kernel
def RX10 : String := "CommaWillModel"
def TX10 : u_T := fun k => match k with
  | 0 => ("CommaWillModel", "status", "I", false)
  | 1 => ("CommaWillModel", "refused", "[I", true)
  | 2 => ("CommaWillModel", "kept", "[I", true)
  | 3 => ("CommaWillModel", "images", "[I", true)
  | 4 => ("CommaWillModel", "hasImage", "[Z", true)
  | 5 => ("CommaWillModel", "aside", "[I", true)
  | 6 => ("CommaWillModel", "blots0", "I", false)
  | 7 => ("CommaWillModel", "words", "[B", true)
  | 8 => ("CommaWillModel", "firstWord", "I", false)
  | 9 => ("CommaWillModel", "lastWord", "I", false)
  | 10 => ("CommaWillModel", "isOrders", "Z", false)
  | 11 => ("CommaWillModel", "tape", "[B", true)
  | 12 => ("CommaWillModel", "five", "[I", true)
  | 13 => ("CommaWillModel", "taped", "I", false)
  | 14 => ("CommaWillModel", "fault", "I", false)
  | 15 => ("CommaWillModel", "code", "[I", true)
  | 16 => ("CommaWillModel", "value", "[I", true)
  | 17 => ("CommaWillModel", "placed", "[I", true)
  | 18 => ("CommaWillModel", "tokens", "I", false)
  | 19 => ("CommaWillModel", "token", "I", false)
  | 20 => ("CommaWillModel", "leaves", "I", false)
  | 21 => ("CommaWillModel", "bad", "I", false)
  | 22 => ("CommaWillModel", "go", "I", false)
  | 23 => ("CommaWillModel", "goEnd", "I", false)
  | 24 => ("CommaWillModel", "broken", "Z", false)
  | 25 => ("CommaWillModel", "inOrders", "Z", false)
  | 26 => ("CommaWillModel", "asked", "[I", true)
  | 27 => ("CommaWillModel", "orderDone", "I", false)
  | 28 => ("CommaWillModel", "orderLatest", "I", false)
  | 29 => ("CommaWillModel", "catalan", "[I", true)
  | 30 => ("CommaWillModel", "low", "[I", true)
  | 31 => ("CommaWillModel", "high", "[I", true)
  | 32 => ("CommaWillModel", "treeMany", "I", false)
  | 33 => ("CommaWillModel", "marks", "[I", true)
  | 34 => ("CommaWillModel", "treeOf", "[I", true)
  | 35 => ("CommaWillModel", "readingMany", "I", false)
  | 36 => ("CommaWillModel", "would", "[I", true)
  | 37 => ("CommaWillModel", "got", "[I", true)
  | 38 => ("CommaWillModel", "fit", "I", false)
  | 39 => ("CommaWillModel", "bestMarks", "[I", true)
  | 40 => ("CommaWillModel", "givesSo", "[Z", true)
  | 41 => ("CommaWillModel", "parts", "[J", true)
  | 42 => ("CommaWillModel", "left0", "[I", true)
  | 43 => ("CommaWillModel", "leftAhead", "[I", true)
  | 44 => ("CommaWillModel", "undoMany", "I", false)
  | 45 => ("CommaWillModel", "stopped0", "I", false)
  | 46 => ("CommaWillModel", "orderAt", "I", false)
  | 47 => ("CommaWillModel", "howOften", "I", false)
  | 48 => ("CommaWillModel", "head", "I", false)
  | 49 => ("CommaWillModel", "sumsAre", "Z", false)
  | 50 => ("CommaWillModel", "testIs", "Z", false)
  | 51 => ("CommaWillModel", "sums", "[J", true)
  | 52 => ("CommaWillModel", "drawnMoved", "[I", true)
  | 53 => ("CommaWillModel", "isDrawn", "Z", false)
  | _ => ("CommaWillModel", "latest", "I", false)
def tyX10 : Nat → FieldType := fun k => match k with
  | 0 => .int
  | 1 => .array .int
  | 2 => .array .int
  | 3 => .array .int
  | 4 => .array .boolean
  | 5 => .array .int
  | 6 => .int
  | 7 => .array .byte
  | 8 => .int
  | 9 => .int
  | 10 => .boolean
  | 11 => .array .byte
  | 12 => .array .int
  | 13 => .int
  | 14 => .int
  | 15 => .array .int
  | 16 => .array .int
  | 17 => .array .int
  | 18 => .int
  | 19 => .int
  | 20 => .int
  | 21 => .int
  | 22 => .int
  | 23 => .int
  | 24 => .boolean
  | 25 => .boolean
  | 26 => .array .int
  | 27 => .int
  | 28 => .int
  | 29 => .array .int
  | 30 => .array .int
  | 31 => .array .int
  | 32 => .int
  | 33 => .array .int
  | 34 => .array .int
  | 35 => .int
  | 36 => .array .int
  | 37 => .array .int
  | 38 => .int
  | 39 => .array .int
  | 40 => .array .boolean
  | 41 => .array .long
  | 42 => .array .int
  | 43 => .array .int
  | 44 => .int
  | 45 => .int
  | 46 => .int
  | 47 => .int
  | 48 => .int
  | 49 => .boolean
  | 50 => .boolean
  | 51 => .array .long
  | 52 => .array .int
  | 53 => .boolean
  | _ => .int
abbrev wsX100 : List Cond := u_ws RX10 TX10 55
theorem nmX10 : ∀ a, a < 55 → ∀ b, b < 55 → a ≠ b → (TX10 a).2.1 ≠ (TX10 b).2.1 := by decide +kernel
theorem tyX10_ok : ∀ k, k < 55 → parseFieldDescriptor (TX10 k).2.2.1 = some (tyX10 k) := by decide +kernel
