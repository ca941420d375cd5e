/-! ===== the words that hold at every later point, too ===== -/
def lw_gd : List Cond := lw_tbl.filter goodWord
theorem gd_mem {w : Cond} (h : w ∈ lw_tbl) (g : goodWord w = true) : w ∈ lw_gd := List.mem_filter.mpr ⟨h, g⟩
theorem gd_in {w : Cond} (h : w ∈ lw_gd) : w ∈ lw_tbl := (List.mem_filter.mp h).1
theorem gd_ok {w : Cond} (h : w ∈ lw_gd) : goodWord w = true := (List.mem_filter.mp h).2
def RX0 : String := "LastPages$Endings"
def TX0 : u_T := fun k => match k with
  | 0 => ("LastPages$Endings", "allowed", "[I", true)
  | 1 => ("LastPages$Endings", "tried", "[I", true)
  | 2 => ("LastPages$Endings", "before", "[J", true)
  | 3 => ("LastPages$Endings", "after", "[J", true)
  | 4 => ("LastPages$Endings", "least", "[I", true)
  | 5 => ("LastPages$Endings", "story", "LLastPages$Story;", false)
  | 6 => ("LastPages$Endings", "misses", "I", false)
  | _ => ("LastPages$Endings", "start", "I", false)
def tyX0 : Nat → FieldType := fun k => match k with
  | 0 => .array .int
  | 1 => .array .int
  | 2 => .array .long
  | 3 => .array .long
  | 4 => .array .int
  | 5 => .object "LastPages$Story"
  | 6 => .int
  | _ => .int
theorem nmX0 : ∀ a, a < 8 → ∀ b, b < 8 → a ≠ b → (TX0 a).2.1 ≠ (TX0 b).2.1 := by decide +kernel
theorem tyX0_ok : ∀ k, k < 8 → parseFieldDescriptor (TX0 k).2.2.1 = some (tyX0 k) := by decide +kernel
theorem inX0 : ∀ w ∈ u_ws RX0 TX0 8, w ∈ lw_gd := by decide +kernel
def RX1 : String := "LastPages$Fitting"
def TX1 : u_T := fun k => match k with
  | 0 => ("LastPages$Fitting", "fit", "[I", true)
  | 1 => ("LastPages$Fitting", "ways", "[J", true)
  | 2 => ("LastPages$Fitting", "books", "I", false)
  | _ => ("LastPages$Fitting", "finales", "I", false)
def tyX1 : Nat → FieldType := fun k => match k with
  | 0 => .array .int
  | 1 => .array .long
  | 2 => .int
  | _ => .int
theorem nmX1 : ∀ a, a < 4 → ∀ b, b < 4 → a ≠ b → (TX1 a).2.1 ≠ (TX1 b).2.1 := by decide +kernel
theorem tyX1_ok : ∀ k, k < 4 → parseFieldDescriptor (TX1 k).2.2.1 = some (tyX1 k) := by decide +kernel
theorem inX1 : ∀ w ∈ u_ws RX1 TX1 4, w ∈ lw_gd := by decide +kernel
def RX2 : String := "LastPages$Life"
def TX2 : u_T := fun k => match k with
  | 0 => ("LastPages$Life", "tallies", "[I", true)
  | 1 => ("LastPages$Life", "rounds", "[I", true)
  | 2 => ("LastPages$Life", "fit", "[I", true)
  | 3 => ("LastPages$Life", "keptBound", "[I", true)
  | 4 => ("LastPages$Life", "keptLiars", "I", false)
  | 5 => ("LastPages$Life", "steps", "I", false)
  | _ => ("LastPages$Life", "chance", "I", false)
def tyX2 : Nat → FieldType := fun k => match k with
  | 0 => .array .int
  | 1 => .array .int
  | 2 => .array .int
  | 3 => .array .int
  | 4 => .int
  | 5 => .int
  | _ => .int
theorem nmX2 : ∀ a, a < 7 → ∀ b, b < 7 → a ≠ b → (TX2 a).2.1 ≠ (TX2 b).2.1 := by decide +kernel
theorem tyX2_ok : ∀ k, k < 7 → parseFieldDescriptor (TX2 k).2.2.1 = some (tyX2 k) := by decide +kernel
theorem inX2 : ∀ w ∈ u_ws RX2 TX2 7, w ∈ lw_gd := by decide +kernel
def RX3 : String := "LastPages$Lot"
def TX3 : u_T := fun k => match k with
  | 0 => ("LastPages$Lot", "cost", "[I", true)
  | 1 => ("LastPages$Lot", "set", "[I", true)
  | _ => ("LastPages$Lot", "many", "I", false)
def tyX3 : Nat → FieldType := fun k => match k with
  | 0 => .array .int
  | 1 => .array .int
  | _ => .int
theorem nmX3 : ∀ a, a < 3 → ∀ b, b < 3 → a ≠ b → (TX3 a).2.1 ≠ (TX3 b).2.1 := by decide +kernel
theorem tyX3_ok : ∀ k, k < 3 → parseFieldDescriptor (TX3 k).2.2.1 = some (tyX3 k) := by decide +kernel
theorem inX3 : ∀ w ∈ u_ws RX3 TX3 3, w ∈ lw_gd := by decide +kernel
def RX4 : String := "LastPages$Shelf"
def TX4 : u_T := fun k => match k with
  | 0 => ("LastPages$Shelf", "story", "LLastPages$Story;", true)
  | 1 => ("LastPages$Shelf", "offers", "LLastPages$Lot;", true)
  | 2 => ("LastPages$Shelf", "watches", "LLastPages$Lot;", true)
  | 3 => ("LastPages$Shelf", "names", "[J", true)
  | 4 => ("LastPages$Shelf", "kinds", "[I", true)
  | 5 => ("LastPages$Shelf", "numbers", "[I", true)
  | 6 => ("LastPages$Shelf", "from", "[I", true)
  | 7 => ("LastPages$Shelf", "misses", "[I", true)
  | 8 => ("LastPages$Shelf", "pages", "[I", true)
  | 9 => ("LastPages$Shelf", "page", "[I", true)
  | 10 => ("LastPages$Shelf", "bound", "[I", true)
  | 11 => ("LastPages$Shelf", "follows", "[I", true)
  | 12 => ("LastPages$Shelf", "hint", "[I", true)
  | 13 => ("LastPages$Shelf", "weeks", "LLastPages$Weeks;", false)
  | 14 => ("LastPages$Shelf", "named", "I", false)
  | 15 => ("LastPages$Shelf", "books", "I", false)
  | 16 => ("LastPages$Shelf", "readers", "I", false)
  | 17 => ("LastPages$Shelf", "liars", "I", false)
  | _ => ("LastPages$Shelf", "hints", "I", false)
def tyX4 : Nat → FieldType := fun k => match k with
  | 0 => .object "LastPages$Story"
  | 1 => .object "LastPages$Lot"
  | 2 => .object "LastPages$Lot"
  | 3 => .array .long
  | 4 => .array .int
  | 5 => .array .int
  | 6 => .array .int
  | 7 => .array .int
  | 8 => .array .int
  | 9 => .array .int
  | 10 => .array .int
  | 11 => .array .int
  | 12 => .array .int
  | 13 => .object "LastPages$Weeks"
  | 14 => .int
  | 15 => .int
  | 16 => .int
  | 17 => .int
  | _ => .int
theorem nmX4 : ∀ a, a < 19 → ∀ b, b < 19 → a ≠ b → (TX4 a).2.1 ≠ (TX4 b).2.1 := by decide +kernel
theorem tyX4_ok : ∀ k, k < 19 → parseFieldDescriptor (TX4 k).2.2.1 = some (tyX4 k) := by decide +kernel
theorem inX4 : ∀ w ∈ u_ws RX4 TX4 19, w ∈ lw_gd := by decide +kernel
def RX5 : String := "LastPages$ShelfReader"
def TX5 : u_T := fun k => match k with
  | 0 => ("LastPages$ShelfReader", "row", "[I", true)
  | _ => ("LastPages$ShelfReader", "rowLength", "I", false)
def tyX5 : Nat → FieldType := fun k => match k with
  | 0 => .array .int
  | _ => .int
theorem nmX5 : ∀ a, a < 2 → ∀ b, b < 2 → a ≠ b → (TX5 a).2.1 ≠ (TX5 b).2.1 := by decide +kernel
theorem tyX5_ok : ∀ k, k < 2 → parseFieldDescriptor (TX5 k).2.2.1 = some (tyX5 k) := by decide +kernel
theorem inX5 : ∀ w ∈ u_ws RX5 TX5 2, w ∈ lw_gd := by decide +kernel
def RX6 : String := "LastPages$Story"
def TX6 : u_T := fun k => match k with
  | 0 => ("LastPages$Story", "odd", "[I", true)
  | 1 => ("LastPages$Story", "leads", "[I", true)
  | 2 => ("LastPages$Story", "finaleLength", "[I", true)
  | 3 => ("LastPages$Story", "finaleTurn", "[I", true)
  | 4 => ("LastPages$Story", "states", "I", false)
  | 5 => ("LastPages$Story", "turns", "I", false)
  | 6 => ("LastPages$Story", "finals", "I", false)
  | _ => ("LastPages$Story", "finales", "I", false)
def tyX6 : Nat → FieldType := fun k => match k with
  | 0 => .array .int
  | 1 => .array .int
  | 2 => .array .int
  | 3 => .array .int
  | 4 => .int
  | 5 => .int
  | 6 => .int
  | _ => .int
theorem nmX6 : ∀ a, a < 8 → ∀ b, b < 8 → a ≠ b → (TX6 a).2.1 ≠ (TX6 b).2.1 := by decide +kernel
theorem tyX6_ok : ∀ k, k < 8 → parseFieldDescriptor (TX6 k).2.2.1 = some (tyX6 k) := by decide +kernel
theorem inX6 : ∀ w ∈ u_ws RX6 TX6 8, w ∈ lw_gd := by decide +kernel
def RX7 : String := "LastPages$Tokens"
def TX7 : u_T := fun k => match k with
  | 0 => ("LastPages$Tokens", "text", "[B", true)
  | 1 => ("LastPages$Tokens", "words", "[J", true)
  | 2 => ("LastPages$Tokens", "taped", "I", false)
  | 3 => ("LastPages$Tokens", "length", "I", false)
  | 4 => ("LastPages$Tokens", "at", "I", false)
  | 5 => ("LastPages$Tokens", "kind", "I", false)
  | 6 => ("LastPages$Tokens", "start", "I", false)
  | 7 => ("LastPages$Tokens", "number", "I", false)
  | 8 => ("LastPages$Tokens", "word", "I", false)
  | 9 => ("LastPages$Tokens", "name", "J", false)
  | 10 => ("LastPages$Tokens", "passed", "I", false)
  | 11 => ("LastPages$Tokens", "faultKind", "I", false)
  | _ => ("LastPages$Tokens", "faultPlace", "I", false)
def tyX7 : Nat → FieldType := fun k => match k with
  | 0 => .array .byte
  | 1 => .array .long
  | 2 => .int
  | 3 => .int
  | 4 => .int
  | 5 => .int
  | 6 => .int
  | 7 => .int
  | 8 => .int
  | 9 => .long
  | 10 => .int
  | 11 => .int
  | _ => .int
theorem nmX7 : ∀ a, a < 13 → ∀ b, b < 13 → a ≠ b → (TX7 a).2.1 ≠ (TX7 b).2.1 := by decide +kernel
theorem tyX7_ok : ∀ k, k < 13 → parseFieldDescriptor (TX7 k).2.2.1 = some (tyX7 k) := by decide +kernel
theorem inX7 : ∀ w ∈ u_ws RX7 TX7 13, w ∈ lw_gd := by decide +kernel
def RX8 : String := "LastPages$Tray"
def TX8 : u_T := fun k => match k with
  | 0 => ("LastPages$Tray", "row", "[J", true)
  | 1 => ("LastPages$Tray", "here", "Z", false)
  | 2 => ("LastPages$Tray", "sort", "I", false)
  | _ => ("LastPages$Tray", "length", "I", false)
def tyX8 : Nat → FieldType := fun k => match k with
  | 0 => .array .long
  | 1 => .boolean
  | 2 => .int
  | _ => .int
theorem nmX8 : ∀ a, a < 4 → ∀ b, b < 4 → a ≠ b → (TX8 a).2.1 ≠ (TX8 b).2.1 := by decide +kernel
theorem tyX8_ok : ∀ k, k < 4 → parseFieldDescriptor (TX8 k).2.2.1 = some (tyX8 k) := by decide +kernel
theorem inX8 : ∀ w ∈ u_ws RX8 TX8 4, w ∈ lw_gd := by decide +kernel
def RX9 : String := "LastPages$Weeks"
def TX9 : u_T := fun k => match k with
  | 0 => ("LastPages$Weeks", "word", "[I", true)
  | 1 => ("LastPages$Weeks", "sign", "[I", true)
  | 2 => ("LastPages$Weeks", "thing", "[I", true)
  | 3 => ("LastPages$Weeks", "number", "[I", true)
  | 4 => ("LastPages$Weeks", "partner", "[I", true)
  | 5 => ("LastPages$Weeks", "here", "Z", false)
  | 6 => ("LastPages$Weeks", "rows", "I", false)
  | _ => ("LastPages$Weeks", "steps", "I", false)
def tyX9 : Nat → FieldType := fun k => match k with
  | 0 => .array .int
  | 1 => .array .int
  | 2 => .array .int
  | 3 => .array .int
  | 4 => .array .int
  | 5 => .boolean
  | 6 => .int
  | _ => .int
theorem nmX9 : ∀ a, a < 8 → ∀ b, b < 8 → a ≠ b → (TX9 a).2.1 ≠ (TX9 b).2.1 := by decide +kernel
theorem tyX9_ok : ∀ k, k < 8 → parseFieldDescriptor (TX9 k).2.2.1 = some (tyX9 k) := by decide +kernel
theorem inX9 : ∀ w ∈ u_ws RX9 TX9 8, w ∈ lw_gd := by decide +kernel
def RX10 : String := "LastPages$WeeksReader"
def TX10 : u_T := fun k => match k with
  | 0 => ("LastPages$WeeksReader", "open", "[I", true)
  | _ => ("LastPages$WeeksReader", "depth", "I", false)
def tyX10 : Nat → FieldType := fun k => match k with
  | 0 => .array .int
  | _ => .int
theorem nmX10 : ∀ a, a < 2 → ∀ b, b < 2 → a ≠ b → (TX10 a).2.1 ≠ (TX10 b).2.1 := by decide +kernel
theorem tyX10_ok : ∀ k, k < 2 → parseFieldDescriptor (TX10 k).2.2.1 = some (tyX10 k) := by decide +kernel
theorem inX10 : ∀ w ∈ u_ws RX10 TX10 2, w ∈ lw_gd := by decide +kernel
def RX11 : String := "LastPages"
def TX11 : u_T := fun k => match k with
  | 0 => ("LastPages", "trays", "[LLastPages$Tray;", true)
  | 1 => ("LastPages", "tokens", "LLastPages$Tokens;", true)
  | 2 => ("LastPages", "shelfReader", "LLastPages$ShelfReader;", true)
  | 3 => ("LastPages", "weeksReader", "LLastPages$WeeksReader;", true)
  | 4 => ("LastPages", "marks", "[LLastPages$Shelf;", true)
  | 5 => ("LastPages", "endings", "LLastPages$Endings;", true)
  | 6 => ("LastPages", "fitting", "LLastPages$Fitting;", true)
  | 7 => ("LastPages", "life", "LLastPages$Life;", true)
  | 8 => ("LastPages", "lived", "[I", true)
  | 9 => ("LastPages", "shelf", "LLastPages$Shelf;", false)
  | 10 => ("LastPages", "spareShelf", "LLastPages$Shelf;", false)
  | 11 => ("LastPages", "spareWeeks", "LLastPages$Weeks;", false)
  | 12 => ("LastPages", "status", "I", false)
  | 13 => ("LastPages", "top", "J", false)
  | 14 => ("LastPages", "bottom", "J", false)
  | 15 => ("LastPages", "faultKind", "I", false)
  | 16 => ("LastPages", "faultPlace", "I", false)
  | _ => ("LastPages", "marked", "I", false)
def tyX11 : Nat → FieldType := fun k => match k with
  | 0 => .array (.object "LastPages$Tray")
  | 1 => .object "LastPages$Tokens"
  | 2 => .object "LastPages$ShelfReader"
  | 3 => .object "LastPages$WeeksReader"
  | 4 => .array (.object "LastPages$Shelf")
  | 5 => .object "LastPages$Endings"
  | 6 => .object "LastPages$Fitting"
  | 7 => .object "LastPages$Life"
  | 8 => .array .int
  | 9 => .object "LastPages$Shelf"
  | 10 => .object "LastPages$Shelf"
  | 11 => .object "LastPages$Weeks"
  | 12 => .int
  | 13 => .long
  | 14 => .long
  | 15 => .int
  | 16 => .int
  | _ => .int
theorem nmX11 : ∀ a, a < 18 → ∀ b, b < 18 → a ≠ b → (TX11 a).2.1 ≠ (TX11 b).2.1 := by decide +kernel
theorem tyX11_ok : ∀ k, k < 18 → parseFieldDescriptor (TX11 k).2.2.1 = some (tyX11 k) := by decide +kernel
theorem inX11 : ∀ w ∈ u_ws RX11 TX11 18, w ∈ lw_gd := by decide +kernel
def RX12 : String := "LastPagesModel"
def TX12 : u_T := fun k => match k with
  | 0 => ("LastPagesModel", "status", "I", false)
  | 1 => ("LastPagesModel", "thrown", "I", false)
  | 2 => ("LastPagesModel", "above", "J", false)
  | 3 => ("LastPagesModel", "under", "J", false)
  | 4 => ("LastPagesModel", "traySort", "[I", true)
  | 5 => ("LastPagesModel", "trayMany", "[I", true)
  | 6 => ("LastPagesModel", "numbers", "[J", true)
  | 7 => ("LastPagesModel", "tape", "[B", true)
  | 8 => ("LastPagesModel", "taped", "I", false)
  | 9 => ("LastPagesModel", "textEnd", "I", false)
  | 10 => ("LastPagesModel", "faultKind", "I", false)
  | 11 => ("LastPagesModel", "faultAt", "I", false)
  | 12 => ("LastPagesModel", "bad", "I", false)
  | 13 => ("LastPagesModel", "badAt", "I", false)
  | 14 => ("LastPagesModel", "token", "I", false)
  | 15 => ("LastPagesModel", "at", "I", false)
  | 16 => ("LastPagesModel", "behind", "I", false)
  | 17 => ("LastPagesModel", "number", "I", false)
  | 18 => ("LastPagesModel", "letters", "I", false)
  | 19 => ("LastPagesModel", "word", "J", false)
  | 20 => ("LastPagesModel", "c", "[I", true)
  | 21 => ("LastPagesModel", "before", "[I", true)
  | 22 => ("LastPagesModel", "words", "[J", true)
  | 23 => ("LastPagesModel", "markMany", "I", false)
  | 24 => ("LastPagesModel", "newSteps", "I", false)
  | 25 => ("LastPagesModel", "ends", "[J", true)
  | 26 => ("LastPagesModel", "have", "[J", true)
  | 27 => ("LastPagesModel", "comes", "[J", true)
  | 28 => ("LastPagesModel", "came", "[J", true)
  | 29 => ("LastPagesModel", "least", "[I", true)
  | 30 => ("LastPagesModel", "bestRow", "[I", true)
  | 31 => ("LastPagesModel", "asked", "[I", true)
  | 32 => ("LastPagesModel", "fitting", "[I", true)
  | 33 => ("LastPagesModel", "mostBy", "[I", true)
  | 34 => ("LastPagesModel", "livedLast", "[I", true)
  | 35 => ("LastPagesModel", "hasLived", "Z", false)
  | 36 => ("LastPagesModel", "isOver", "Z", false)
  | 37 => ("LastPagesModel", "random", "I", false)
  | 38 => ("LastPagesModel", "done", "I", false)
  | 39 => ("LastPagesModel", "missed", "I", false)
  | 40 => ("LastPagesModel", "bindings", "I", false)
  | 41 => ("LastPagesModel", "loosed", "I", false)
  | 42 => ("LastPagesModel", "guessed", "I", false)
  | _ => ("LastPagesModel", "leftOver", "I", false)
def tyX12 : Nat → FieldType := fun k => match k with
  | 0 => .int
  | 1 => .int
  | 2 => .long
  | 3 => .long
  | 4 => .array .int
  | 5 => .array .int
  | 6 => .array .long
  | 7 => .array .byte
  | 8 => .int
  | 9 => .int
  | 10 => .int
  | 11 => .int
  | 12 => .int
  | 13 => .int
  | 14 => .int
  | 15 => .int
  | 16 => .int
  | 17 => .int
  | 18 => .int
  | 19 => .long
  | 20 => .array .int
  | 21 => .array .int
  | 22 => .array .long
  | 23 => .int
  | 24 => .int
  | 25 => .array .long
  | 26 => .array .long
  | 27 => .array .long
  | 28 => .array .long
  | 29 => .array .int
  | 30 => .array .int
  | 31 => .array .int
  | 32 => .array .int
  | 33 => .array .int
  | 34 => .array .int
  | 35 => .boolean
  | 36 => .boolean
  | 37 => .int
  | 38 => .int
  | 39 => .int
  | 40 => .int
  | 41 => .int
  | 42 => .int
  | _ => .int
theorem nmX12 : ∀ a, a < 44 → ∀ b, b < 44 → a ≠ b → (TX12 a).2.1 ≠ (TX12 b).2.1 := by decide +kernel
theorem tyX12_ok : ∀ k, k < 44 → parseFieldDescriptor (TX12 k).2.2.1 = some (tyX12 k) := by decide +kernel
theorem inX12 : ∀ w ∈ u_ws RX12 TX12 44, w ∈ lw_gd := by decide +kernel
abbrev cls_ : List vw_C := [(RX0, TX0, 8), (RX1, TX1, 4), (RX2, TX2, 7), (RX3, TX3, 3), (RX4, TX4, 19), (RX5, TX5, 2), (RX6, TX6, 8), (RX7, TX7, 13), (RX8, TX8, 4), (RX9, TX9, 8), (RX10, TX10, 2), (RX11, TX11, 18), (RX12, TX12, 44)]
def ftab : Nat → List Nat
  | 0 => [2, 2, 2, 2, 2, 2, 0, 0]
  | 1 => [2, 2, 0, 0]
  | 2 => [2, 2, 2, 2, 0, 0, 0]
  | 3 => [2, 2, 0]
  | 4 => [2, 2, 2, 2, 2, 2, 2, 2, 2, 2, 2, 2, 2, 2, 0, 0, 0, 0, 0]
  | 5 => [2, 0]
  | 6 => [2, 2, 2, 2, 0, 0, 0, 0]
  | 7 => [2, 2, 0, 0, 0, 0, 0, 0, 0, 1, 0, 0, 0]
  | 8 => [2, 0, 0, 0]
  | 9 => [2, 2, 2, 2, 2, 0, 0, 0]
  | 10 => [2, 0]
  | 11 => [2, 2, 2, 2, 2, 2, 2, 2, 2, 2, 2, 2, 0, 1, 1, 0, 0, 0]
  | 12 => [0, 0, 1, 1, 2, 2, 2, 2, 0, 0, 0, 0, 0, 0, 0, 0, 0, 0, 0, 1, 2, 2, 2, 0, 0, 2, 2, 2, 2, 2, 2, 2, 2, 2, 2, 0, 0, 0, 0, 0, 0, 0, 0, 0]
  | _ => []
def rk : Nat → Option Nat
  | 0 => some 20
  | 1 => some 20
  | 2 => some 22
  | 3 => some 22
  | 4 => some 20
  | 5 => some 6
  | 100 => some 20
  | 101 => some 22
  | 200 => some 20
  | 201 => some 20
  | 202 => some 20
  | 203 => some 20
  | 300 => some 20
  | 301 => some 20
  | 400 => some 6
  | 401 => some 3
  | 402 => some 3
  | 403 => some 22
  | 404 => some 20
  | 405 => some 20
  | 406 => some 20
  | 407 => some 20
  | 408 => some 20
  | 409 => some 20
  | 410 => some 20
  | 411 => some 20
  | 412 => some 20
  | 413 => some 9
  | 500 => some 20
  | 600 => some 20
  | 601 => some 20
  | 602 => some 20
  | 603 => some 20
  | 700 => some 21
  | 701 => some 22
  | 800 => some 22
  | 900 => some 20
  | 901 => some 20
  | 902 => some 20
  | 903 => some 20
  | 904 => some 20
  | 1000 => some 20
  | 1100 => some 24
  | 1101 => some 7
  | 1102 => some 5
  | 1103 => some 10
  | 1104 => some 23
  | 1105 => some 0
  | 1106 => some 1
  | 1107 => some 2
  | 1108 => some 20
  | 1109 => some 4
  | 1110 => some 4
  | 1111 => some 9
  | 1204 => some 20
  | 1205 => some 20
  | 1206 => some 22
  | 1207 => some 21
  | 1220 => some 20
  | 1221 => some 20
  | 1222 => some 22
  | 1225 => some 22
  | 1226 => some 22
  | 1227 => some 22
  | 1228 => some 22
  | 1229 => some 20
  | 1230 => some 20
  | 1231 => some 20
  | 1232 => some 20
  | 1233 => some 20
  | 1234 => some 20
  | _ => none
def zk : Nat → Bool
  | 801 => true
  | 905 => true
  | 1235 => true
  | 1236 => true
  | _ => false
/-! ===== heaps: int, long and reference fields by field and address; int, long and reference rows by address and place ===== -/
abbrev Hp : Type := (Nat → Nat → Int32) × (Nat → Nat → Int64) × (Nat → Nat → Nat) × (Nat → Nat → Int32) × (Nat → Nat → Int64) × (Nat → Nat → Nat)
def hGi (h : Hp) (f a : Nat) : Int32 := h.1 f a
def hGl (h : Hp) (f a : Nat) : Int64 := h.2.1 f a
def hGr (h : Hp) (f a : Nat) : Nat := h.2.2.1 f a
def hAi (h : Hp) (a i : Nat) : Int32 := h.2.2.2.1 a i
def hAl (h : Hp) (a i : Nat) : Int64 := h.2.2.2.2.1 a i
def hAr (h : Hp) (a i : Nat) : Nat := h.2.2.2.2.2 a i
def up2 {β : Type} (g : Nat → Nat → β) (x y : Nat) (v : β) : Nat → Nat → β := fun p q => if p = x ∧ q = y then v else g p q
def hSi (h : Hp) (f a : Nat) (v : Int32) : Hp := (up2 h.1 f a v, h.2)
def hSl (h : Hp) (f a : Nat) (v : Int64) : Hp := (h.1, up2 h.2.1 f a v, h.2.2)
def hSr (h : Hp) (f a : Nat) (v : Nat) : Hp := (h.1, h.2.1, up2 h.2.2.1 f a v, h.2.2.2)
def hTi (h : Hp) (a i : Nat) (v : Int32) : Hp := (h.1, h.2.1, h.2.2.1, up2 h.2.2.2.1 a i v, h.2.2.2.2)
def hTl (h : Hp) (a i : Nat) (v : Int64) : Hp := (h.1, h.2.1, h.2.2.1, h.2.2.2.1, up2 h.2.2.2.2.1 a i v, h.2.2.2.2.2)
def hTr (h : Hp) (a i : Nat) (v : Nat) : Hp := (h.1, h.2.1, h.2.2.1, h.2.2.2.1, h.2.2.2.2.1, up2 h.2.2.2.2.2 a i v)
def up1 {β : Type} (g : Nat → Nat → β) (x : Nat) (v : Nat → β) : Nat → Nat → β := fun p q => if p = x then v q else g p q
def hCi (h : Hp) (a0 sp a dp n : Nat) : Hp := (h.1, h.2.1, h.2.2.1, up1 h.2.2.2.1 a (va_cpy (hAi h a0) (hAi h a) sp dp n), h.2.2.2.2)
def hCl (h : Hp) (a0 sp a dp n : Nat) : Hp := (h.1, h.2.1, h.2.2.1, h.2.2.2.1, up1 h.2.2.2.2.1 a (va_cpy (hAl h a0) (hAl h a) sp dp n), h.2.2.2.2.2)
/-- the layout: addresses, kind of each (below 20 a class, 20 int[], 21 byte[], 22 long[], 23 Shelf[], 24 Tray[]), length of each, the tables' numbers, the array classes -/
abbrev Ly : Type := List Nat × (Nat → Nat) × (Nat → Nat) × va_G × (Nat → ClassId)
def isO (Y : Ly) (k a : Nat) : Prop := a ∈ Y.1 ∧ Y.2.1 a = k
def lnY (Y : Ly) (a : Nat) : Nat := Y.2.2.1 a
def tysY (Y : Ly) : List (ClassId × FieldType) := [(Y.2.2.2.2 0, .int), (Y.2.2.2.2 1, .byte), (Y.2.2.2.2 2, .long), (Y.2.2.2.2 3, .object RX4), (Y.2.2.2.2 4, .object RX8)]
def fv (h : Hp) (f a : Nat) : Nat → Value
  | 0 => .int (hGi h f a)
  | 1 => .long (hGl h f a)
  | _ => .ref (hGr h f a)
def fvs (h : Hp) (a : Nat) : Nat → List Nat → List Value
  | _, [] => []
  | f, t :: ts => fv h f a t :: fvs h a (f + 1) ts
def enc (Y : Ly) (h : Hp) (a : Nat) : va_E :=
  if Y.2.1 a = 20 then .inl (Y.2.2.2.2 0, Y.2.2.1 a, .inl (hAi h a))
  else if Y.2.1 a = 21 then .inl (Y.2.2.2.2 1, Y.2.2.1 a, .inl (hAi h a))
  else if Y.2.1 a = 22 then .inl (Y.2.2.2.2 2, Y.2.2.1 a, .inr (.inl (hAl h a)))
  else if Y.2.1 a = 23 then .inl (Y.2.2.2.2 3, Y.2.2.1 a, .inr (.inr (.inr (.inr (fun i => some (hAr h a i))))))
  else if Y.2.1 a = 24 then .inl (Y.2.2.2.2 4, Y.2.2.1 a, .inr (.inr (.inr (.inr (fun i => some (hAr h a i))))))
  else .inr (Y.2.1 a, fvs h a (100 * Y.2.1 a) (ftab (Y.2.1 a)))
def Ty (Y : Ly) (h : Hp) : Prop :=
  (∀ f kt, rk f = some kt → ∀ a, isO Y (f / 100) a → isO Y kt (hGr h f a)) ∧
  (∀ f, zk f = true → ∀ a, isO Y (f / 100) a → hGi h f a = 0 ∨ hGi h f a = 1) ∧
  (∀ a, isO Y 23 a → ∀ i, i < lnY Y a → isO Y 4 (hAr h a i)) ∧ (∀ a, isO Y 24 a → ∀ i, i < lnY Y a → isO Y 8 (hAr h a i))
theorem fvs_get (h : Hp) (a : Nat) : ∀ (ts : List Nat) (f k t : Nat), ts[k]? = some t → (fvs h a f ts)[k]? = some (fv h (f + k) a t)
  | [], f, k, t, e => by simp at e
  | t0 :: ts, f, 0, t, e => by simp at e; subst e; rfl
  | t0 :: ts, f, k + 1, t, e => by
    have := fvs_get h a ts (f + 1) k t (by simpa using e)
    simpa [fvs, Nat.add_assoc, Nat.add_comm 1 k] using this
theorem fvs_len (h : Hp) (a : Nat) : ∀ (ts : List Nat) (f : Nat), (fvs h a f ts).length = ts.length
  | [], f => rfl
  | t0 :: ts, f => by simp [fvs, fvs_len h a ts (f + 1)]
theorem fvs_eq {h h' : Hp} {a : Nat} : ∀ (ts : List Nat) (f : Nat), (∀ j, j < ts.length → hGi h' (f + j) a = hGi h (f + j) a ∧ hGl h' (f + j) a = hGl h (f + j) a ∧ hGr h' (f + j) a = hGr h (f + j) a) → fvs h' a f ts = fvs h a f ts
  | [], f, _ => rfl
  | t0 :: ts, f, H => by
    have h0 := H 0 (by simp)
    have hr := fvs_eq (h := h) (h' := h') (a := a) ts (f + 1) (fun j hj => by have := H (j + 1) (by simpa using hj); simpa [Nat.add_assoc, Nat.add_comm 1 j] using this)
    simp only [Nat.add_zero] at h0
    simp only [fvs, hr, List.cons.injEq, and_true]
    unfold fv
    split <;> simp [h0]
theorem up2_same {β : Type} (g : Nat → Nat → β) (x y : Nat) (v : β) : up2 g x y v x y = v := by simp [up2]
theorem up2_ne {β : Type} (g : Nat → Nat → β) {x y p q : Nat} (v : β) (h : ¬ (p = x ∧ q = y)) : up2 g x y v p q = g p q := by simp [up2, h]
/-- a field of one kind set, as rows of values -/
theorem fvs_set {h h' : Hp} {a : Nat} {v : Value} : ∀ (ts : List Nat) (f k t : Nat), ts[k]? = some t → fv h' (f + k) a t = v →
    (∀ j, j ≠ k → hGi h' (f + j) a = hGi h (f + j) a ∧ hGl h' (f + j) a = hGl h (f + j) a ∧ hGr h' (f + j) a = hGr h (f + j) a) → fvs h' a f ts = (fvs h a f ts).set k v
  | [], f, k, t, e, _, _ => by simp at e
  | t0 :: ts, f, 0, t, e, hv, H => by
    simp at e
    subst e
    simp only [fvs, List.set_cons_zero, List.cons.injEq]
    refine ⟨by simpa using hv, fvs_eq ts (f + 1) (fun j hj => ?_)⟩
    have := H (j + 1) (by omega)
    simpa [Nat.add_assoc, Nat.add_comm 1 j] using this
  | t0 :: ts, f, k + 1, t, e, hv, H => by
    have h0 := H 0 (by omega)
    simp only [Nat.add_zero] at h0
    have hr := fvs_set (h := h) (h' := h') (a := a) (v := v) ts (f + 1) k t (by simpa using e) (by rw [← hv]; congr 1; omega) (fun j hj => by
      have := H (j + 1) (by omega)
      simpa [Nat.add_assoc, Nat.add_comm 1 j] using this)
    simp only [fvs, List.set_cons_succ, hr, List.cons.injEq, and_true]
    unfold fv
    split <;> simp [h0]
theorem enc_obj {Y : Ly} {h : Hp} {a ci : Nat} (ha : isO Y ci a) (hc : ci < 20) : enc Y h a = .inr (ci, fvs h a (100 * ci) (ftab ci)) := by
  obtain ⟨-, rfl⟩ := ha
  unfold enc
  rw [if_neg (by omega), if_neg (by omega), if_neg (by omega), if_neg (by omega), if_neg (by omega)]
theorem enc_20 {Y : Ly} {h : Hp} {a : Nat} (ha : isO Y 20 a) : enc Y h a = .inl (Y.2.2.2.2 0, Y.2.2.1 a, .inl (hAi h a)) := by unfold enc; rw [if_pos ha.2]
theorem enc_21 {Y : Ly} {h : Hp} {a : Nat} (ha : isO Y 21 a) : enc Y h a = .inl (Y.2.2.2.2 1, Y.2.2.1 a, .inl (hAi h a)) := by unfold enc; rw [if_neg (by rw [ha.2]; decide), if_pos ha.2]
theorem enc_22 {Y : Ly} {h : Hp} {a : Nat} (ha : isO Y 22 a) : enc Y h a = .inl (Y.2.2.2.2 2, Y.2.2.1 a, .inr (.inl (hAl h a))) := by unfold enc; rw [if_neg (by rw [ha.2]; decide), if_neg (by rw [ha.2]; decide), if_pos ha.2]
theorem enc_23 {Y : Ly} {h : Hp} {a : Nat} (ha : isO Y 23 a) : enc Y h a = .inl (Y.2.2.2.2 3, Y.2.2.1 a, .inr (.inr (.inr (.inr (fun i => some (hAr h a i)))))) := by unfold enc; rw [if_neg (by rw [ha.2]; decide), if_neg (by rw [ha.2]; decide), if_neg (by rw [ha.2]; decide), if_pos ha.2]
theorem enc_24 {Y : Ly} {h : Hp} {a : Nat} (ha : isO Y 24 a) : enc Y h a = .inl (Y.2.2.2.2 4, Y.2.2.1 a, .inr (.inr (.inr (.inr (fun i => some (hAr h a i)))))) := by unfold enc; rw [if_neg (by rw [ha.2]; decide), if_neg (by rw [ha.2]; decide), if_neg (by rw [ha.2]; decide), if_neg (by rw [ha.2]; decide), if_pos ha.2]
/-- two heaps alike at an address -/
def sameAt (h h' : Hp) (b : Nat) : Prop := (∀ f, hGi h' f b = hGi h f b ∧ hGl h' f b = hGl h f b ∧ hGr h' f b = hGr h f b) ∧ (∀ i, hAi h' b i = hAi h b i ∧ hAl h' b i = hAl h b i ∧ hAr h' b i = hAr h b i)
theorem enc_same {Y : Ly} {h h' : Hp} {b : Nat} (s : sameAt h h' b) : enc Y h' b = enc Y h b := by
  have e1 : hAi h' b = hAi h b := funext fun i => (s.2 i).1
  have e2 : hAl h' b = hAl h b := funext fun i => (s.2 i).2.1
  have e3 : hAr h' b = hAr h b := funext fun i => (s.2 i).2.2
  have e4 : fvs h' b (100 * Y.2.1 b) (ftab (Y.2.1 b)) = fvs h b (100 * Y.2.1 b) (ftab (Y.2.1 b)) := fvs_eq _ _ (fun j _ => s.1 _)
  unfold enc
  rw [e1, e2, e3, e4]
theorem pl_eq {L : List Nat} {f g : Nat → va_E} (h : ∀ b, f b = g b) : va_pl L f = va_pl L g := by rw [funext h]
theorem up_enc {Y : Ly} {h h' : Hp} {a : Nat} {e : va_E} (h1 : enc Y h' a = e) (h2 : ∀ b, b ≠ a → sameAt h h' b) : ∀ b, va_up (enc Y h) a e b = enc Y h' b := by
  intro b
  by_cases q : b = a
  · subst q; simp [va_up, h1]
  · simp [va_up, q, enc_same (h2 b q)]
theorem pl_set {Y : Ly} {A : Nat → Prop} {h h' : Hp} {a k : Nat} {e : va_E} (hD : va_D A (va_pl Y.1 (enc Y h))) (ha : a ∈ Y.1) (hk : (va_pl Y.1 (enc Y h))[k]? = some (a, enc Y h a)) (h1 : enc Y h' a = e) (h2 : ∀ b, b ≠ a → sameAt h h' b) :
    (va_pl Y.1 (enc Y h)).set k (a, e) = va_pl Y.1 (enc Y h') := by
  have := va_pl_set (A := A) (X := []) (L := Y.1) (f := enc Y h) (a := a) (k := k) (e := e) (by simpa using hD) ha (by simpa using hk)
  simp only [List.nil_append] at this
  rw [this]
  exact pl_eq (up_enc h1 h2)
theorem pl_get {Y : Ly} {h : Hp} {a : Nat} (ha : a ∈ Y.1) : ∃ k : Nat, (va_pl Y.1 (enc Y h))[k]? = some (a, enc Y h a) := by
  have := va_pl_get (X := []) (L := Y.1) (f := enc Y h) ha
  simpa using this
theorem same_si {h : Hp} {f a b : Nat} {v : Int32} (q : b ≠ a) : sameAt h (hSi h f a v) b := ⟨fun g => ⟨by simp [hGi, hSi, up2, q], rfl, rfl⟩, fun _ => ⟨rfl, rfl, rfl⟩⟩
theorem same_sl {h : Hp} {f a b : Nat} {v : Int64} (q : b ≠ a) : sameAt h (hSl h f a v) b := ⟨fun g => ⟨rfl, by simp [hGl, hSl, up2, q], rfl⟩, fun _ => ⟨rfl, rfl, rfl⟩⟩
theorem same_sr {h : Hp} {f a b : Nat} {v : Nat} (q : b ≠ a) : sameAt h (hSr h f a v) b := ⟨fun g => ⟨rfl, rfl, by simp [hGr, hSr, up2, q]⟩, fun _ => ⟨rfl, rfl, rfl⟩⟩
theorem same_ti {h : Hp} {a i b : Nat} {v : Int32} (q : b ≠ a) : sameAt h (hTi h a i v) b := ⟨fun g => ⟨rfl, rfl, rfl⟩, fun _ => ⟨by simp [hAi, hTi, up2, q], rfl, rfl⟩⟩
theorem same_tl {h : Hp} {a i b : Nat} {v : Int64} (q : b ≠ a) : sameAt h (hTl h a i v) b := ⟨fun g => ⟨rfl, rfl, rfl⟩, fun _ => ⟨rfl, by simp [hAl, hTl, up2, q], rfl⟩⟩
theorem same_tr {h : Hp} {a i b : Nat} {v : Nat} (q : b ≠ a) : sameAt h (hTr h a i v) b := ⟨fun g => ⟨rfl, rfl, rfl⟩, fun _ => ⟨rfl, rfl, by simp [hAr, hTr, up2, q]⟩⟩
theorem same_ci {h : Hp} {a0 sp a dp n b : Nat} (q : b ≠ a) : sameAt h (hCi h a0 sp a dp n) b := ⟨fun g => ⟨rfl, rfl, rfl⟩, fun _ => ⟨by simp [hAi, hCi, up1, q], rfl, rfl⟩⟩
theorem same_cl {h : Hp} {a0 sp a dp n b : Nat} (q : b ≠ a) : sameAt h (hCl h a0 sp a dp n) b := ⟨fun g => ⟨rfl, rfl, rfl⟩, fun _ => ⟨rfl, by simp [hAl, hCl, up1, q], rfl⟩⟩
theorem Ty_si {Y : Ly} {h : Hp} {f a : Nat} {v : Int32} (H : Ty Y h) (hz : zk f = false ∨ v = 0 ∨ v = 1) : Ty Y (hSi h f a v) := by
  refine ⟨H.1, fun g hg b hb => ?_, H.2.2.1, H.2.2.2⟩
  by_cases q : g = f ∧ b = a
  · obtain ⟨rfl, rfl⟩ := q
    rcases hz with h0 | h0
    · rw [hg] at h0; cases h0
    · simpa [hGi, hSi, up2] using h0
  · have := H.2.1 g hg b hb
    simpa [hGi, hSi, up2_ne _ _ q] using this
theorem Ty_sl {Y : Ly} {h : Hp} {f a : Nat} {v : Int64} (H : Ty Y h) : Ty Y (hSl h f a v) := H
theorem Ty_ti {Y : Ly} {h : Hp} {a i : Nat} {v : Int32} (H : Ty Y h) : Ty Y (hTi h a i v) := H
theorem Ty_tl {Y : Ly} {h : Hp} {a i : Nat} {v : Int64} (H : Ty Y h) : Ty Y (hTl h a i v) := H
theorem Ty_ci {Y : Ly} {h : Hp} {a0 sp a dp n : Nat} (H : Ty Y h) : Ty Y (hCi h a0 sp a dp n) := H
theorem Ty_cl {Y : Ly} {h : Hp} {a0 sp a dp n : Nat} (H : Ty Y h) : Ty Y (hCl h a0 sp a dp n) := H
theorem Ty_sr {Y : Ly} {h : Hp} {f a v kt : Nat} (H : Ty Y h) (hk : rk f = some kt) (hv : isO Y kt v) : Ty Y (hSr h f a v) := by
  refine ⟨fun g kg hg b hb => ?_, H.2.1, H.2.2.1, H.2.2.2⟩
  by_cases q : g = f ∧ b = a
  · obtain ⟨rfl, rfl⟩ := q
    rw [hk] at hg
    cases hg
    simpa [hGr, hSr, up2] using hv
  · have := H.1 g kg hg b hb
    simpa [hGr, hSr, up2_ne _ _ q] using this
theorem Ty_tr23 {Y : Ly} {h : Hp} {a i v : Nat} (H : Ty Y h) (ha : isO Y 23 a) (hv : isO Y 4 v) : Ty Y (hTr h a i v) := by
  refine ⟨H.1, H.2.1, fun b hb j hj => ?_, fun b hb j hj => ?_⟩
  · by_cases q : b = a ∧ j = i
    · obtain ⟨rfl, rfl⟩ := q
      simpa [hAr, hTr, up2] using hv
    · have := H.2.2.1 b hb j hj
      simpa [hAr, hTr, up2_ne _ _ q] using this
  · have q : ¬ (b = a ∧ j = i) := fun q => by
      have h1 := ha.2
      have h2 := hb.2
      rw [q.1] at h2
      omega
    have := H.2.2.2 b hb j hj
    simpa [hAr, hTr, up2_ne _ _ q] using this
