-- class tables (out of the printed names), the layout of the cells, the words of the tables
def RX0 : String := "SeatHall$Books"
def TX0 : u_T := fun k => match k with
  | 0 => ("SeatHall$Books", "bought", "[I", true)
  | 1 => ("SeatHall$Books", "told", "LSeatHall$Told;", false)
  | 2 => ("SeatHall$Books", "spare", "LSeatHall$Plan;", true)
  | 3 => ("SeatHall$Books", "plans", "[LSeatHall$Plan;", true)
  | _ => ("SeatHall$Books", "later", "[I", true)
def tyX0 : Nat → FieldType := fun k => match k with
  | 0 => .array .int
  | 1 => .object "SeatHall$Told"
  | 2 => .object "SeatHall$Plan"
  | 3 => .array (.object "SeatHall$Plan")
  | _ => .array .int
theorem nmX0 : ∀ a, a < 5 → ∀ b, b < 5 → a ≠ b → (TX0 a).2.1 ≠ (TX0 b).2.1 := by decide +kernel
theorem tyX0_ok : ∀ k, k < 5 → parseFieldDescriptor (TX0 k).2.2.1 = some (tyX0 k) := by decide +kernel
def RX1 : String := "SeatHall$Crowd"
def TX1 : u_T := fun k => match k with
  | 0 => ("SeatHall$Crowd", "numbers", "[J", true)
  | 1 => ("SeatHall$Crowd", "low", "I", false)
  | 2 => ("SeatHall$Crowd", "high", "I", false)
  | 3 => ("SeatHall$Crowd", "worst", "[I", true)
  | _ => ("SeatHall$Crowd", "looked", "[I", true)
def tyX1 : Nat → FieldType := fun k => match k with
  | 0 => .array .long
  | 1 => .int
  | 2 => .int
  | 3 => .array .int
  | _ => .array .int
theorem nmX1 : ∀ a, a < 5 → ∀ b, b < 5 → a ≠ b → (TX1 a).2.1 ≠ (TX1 b).2.1 := by decide +kernel
theorem tyX1_ok : ∀ k, k < 5 → parseFieldDescriptor (TX1 k).2.2.1 = some (tyX1 k) := by decide +kernel
def RX2 : String := "SeatHall$Plan"
def TX2 : u_T := fun k => match k with
  | 0 => ("SeatHall$Plan", "ticket", "I", true)
  | 1 => ("SeatHall$Plan", "cases", "I", true)
  | 2 => ("SeatHall$Plan", "going", "[J", true)
  | 3 => ("SeatHall$Plan", "comings", "[I", true)
  | 4 => ("SeatHall$Plan", "lefts", "[J", true)
  | 5 => ("SeatHall$Plan", "ahead", "[J", true)
  | 6 => ("SeatHall$Plan", "shares", "[J", true)
  | 7 => ("SeatHall$Plan", "lasts", "I", false)
  | 8 => ("SeatHall$Plan", "value", "J", false)
  | 9 => ("SeatHall$Plan", "gone", "J", false)
  | 10 => ("SeatHall$Plan", "sunk", "J", false)
  | _ => ("SeatHall$Plan", "thoughtGone", "J", false)
def tyX2 : Nat → FieldType := fun k => match k with
  | 0 => .int
  | 1 => .int
  | 2 => .array .long
  | 3 => .array .int
  | 4 => .array .long
  | 5 => .array .long
  | 6 => .array .long
  | 7 => .int
  | 8 => .long
  | 9 => .long
  | 10 => .long
  | _ => .long
theorem nmX2 : ∀ a, a < 12 → ∀ b, b < 12 → a ≠ b → (TX2 a).2.1 ≠ (TX2 b).2.1 := by decide +kernel
theorem tyX2_ok : ∀ k, k < 12 → parseFieldDescriptor (TX2 k).2.2.1 = some (tyX2 k) := by decide +kernel
def RX3 : String := "SeatHall$Reader"
def TX3 : u_T := fun k => match k with
  | 0 => ("SeatHall$Reader", "tape", "LSeatHall$Tape;", true)
  | 1 => ("SeatHall$Reader", "types", "[I", true)
  | 2 => ("SeatHall$Reader", "into", "LSeatHall$Told;", false)
  | 3 => ("SeatHall$Reader", "length", "I", false)
  | 4 => ("SeatHall$Reader", "type", "I", false)
  | 5 => ("SeatHall$Reader", "start", "I", false)
  | 6 => ("SeatHall$Reader", "stop", "I", false)
  | 7 => ("SeatHall$Reader", "toldLines", "I", false)
  | 8 => ("SeatHall$Reader", "fault", "I", false)
  | _ => ("SeatHall$Reader", "faultPlace", "I", false)
def tyX3 : Nat → FieldType := fun k => match k with
  | 0 => .object "SeatHall$Tape"
  | 1 => .array .int
  | 2 => .object "SeatHall$Told"
  | 3 => .int
  | 4 => .int
  | 5 => .int
  | 6 => .int
  | 7 => .int
  | 8 => .int
  | _ => .int
theorem nmX3 : ∀ a, a < 10 → ∀ b, b < 10 → a ≠ b → (TX3 a).2.1 ≠ (TX3 b).2.1 := by decide +kernel
theorem tyX3_ok : ∀ k, k < 10 → parseFieldDescriptor (TX3 k).2.2.1 = some (tyX3 k) := by decide +kernel
def RX4 : String := "SeatHall$Run"
def TX4 : u_T := fun k => match k with
  | 0 => ("SeatHall$Run", "there", "Z", false)
  | 1 => ("SeatHall$Run", "next", "I", false)
  | 2 => ("SeatHall$Run", "seed", "I", false)
  | 3 => ("SeatHall$Run", "had", "[I", true)
  | 4 => ("SeatHall$Run", "came", "[I", true)
  | _ => ("SeatHall$Run", "wet", "[I", true)
def tyX4 : Nat → FieldType := fun k => match k with
  | 0 => .boolean
  | 1 => .int
  | 2 => .int
  | 3 => .array .int
  | 4 => .array .int
  | _ => .array .int
theorem nmX4 : ∀ a, a < 6 → ∀ b, b < 6 → a ≠ b → (TX4 a).2.1 ≠ (TX4 b).2.1 := by decide +kernel
theorem tyX4_ok : ∀ k, k < 6 → parseFieldDescriptor (TX4 k).2.2.1 = some (tyX4 k) := by decide +kernel
def RX5 : String := "SeatHall$Search"
def TX5 : u_T := fun k => match k with
  | 0 => ("SeatHall$Search", "prices", "[I", true)
  | 1 => ("SeatHall$Search", "tickets", "[I", true)
  | 2 => ("SeatHall$Search", "set", "[I", true)
  | 3 => ("SeatHall$Search", "best", "[J", true)
  | 4 => ("SeatHall$Search", "hasPrices", "Z", false)
  | 5 => ("SeatHall$Search", "hasPair", "Z", false)
  | 6 => ("SeatHall$Search", "pairFirst", "I", false)
  | _ => ("SeatHall$Search", "pairSecond", "I", false)
def tyX5 : Nat → FieldType := fun k => match k with
  | 0 => .array .int
  | 1 => .array .int
  | 2 => .array .int
  | 3 => .array .long
  | 4 => .boolean
  | 5 => .boolean
  | 6 => .int
  | _ => .int
theorem nmX5 : ∀ a, a < 8 → ∀ b, b < 8 → a ≠ b → (TX5 a).2.1 ≠ (TX5 b).2.1 := by decide +kernel
theorem tyX5_ok : ∀ k, k < 8 → parseFieldDescriptor (TX5 k).2.2.1 = some (tyX5 k) := by decide +kernel
def RX6 : String := "SeatHall$Seating"
def TX6 : u_T := fun k => match k with
  | 0 => ("SeatHall$Seating", "there", "Z", false)
  | 1 => ("SeatHall$Seating", "size", "I", false)
  | 2 => ("SeatHall$Seating", "best", "[I", true)
  | 3 => ("SeatHall$Seating", "row", "[I", true)
  | 4 => ("SeatHall$Seating", "ranks", "[I", true)
  | 5 => ("SeatHall$Seating", "rank", "I", false)
  | _ => ("SeatHall$Seating", "free", "I", false)
def tyX6 : Nat → FieldType := fun k => match k with
  | 0 => .boolean
  | 1 => .int
  | 2 => .array .int
  | 3 => .array .int
  | 4 => .array .int
  | 5 => .int
  | _ => .int
theorem nmX6 : ∀ a, a < 7 → ∀ b, b < 7 → a ≠ b → (TX6 a).2.1 ≠ (TX6 b).2.1 := by decide +kernel
theorem tyX6_ok : ∀ k, k < 7 → parseFieldDescriptor (TX6 k).2.2.1 = some (tyX6 k) := by decide +kernel
def RX7 : String := "SeatHall$Tape"
def TX7 : u_T := fun k => match k with
  | 0 => ("SeatHall$Tape", "bytes", "[I", true)
  | _ => ("SeatHall$Tape", "size", "I", false)
def tyX7 : Nat → FieldType := fun k => match k with
  | 0 => .array .int
  | _ => .int
theorem nmX7 : ∀ a, a < 2 → ∀ b, b < 2 → a ≠ b → (TX7 a).2.1 ≠ (TX7 b).2.1 := by decide +kernel
theorem tyX7_ok : ∀ k, k < 2 → parseFieldDescriptor (TX7 k).2.2.1 = some (tyX7 k) := by decide +kernel
def RX8 : String := "SeatHall$Told"
def TX8 : u_T := fun k => match k with
  | 0 => ("SeatHall$Told", "chairs", "I", false)
  | 1 => ("SeatHall$Told", "costs", "I", false)
  | 2 => ("SeatHall$Told", "evenings", "I", false)
  | 3 => ("SeatHall$Told", "kinds", "I", false)
  | 4 => ("SeatHall$Told", "rows", "I", false)
  | 5 => ("SeatHall$Told", "tenLasts", "I", false)
  | 6 => ("SeatHall$Told", "eveningNumbers", "[I", true)
  | 7 => ("SeatHall$Told", "inSet", "[I", true)
  | 8 => ("SeatHall$Told", "kindNumbers", "[I", true)
  | 9 => ("SeatHall$Told", "many", "[I", true)
  | 10 => ("SeatHall$Told", "seats", "[I", true)
  | 11 => ("SeatHall$Told", "adds", "[I", true)
  | _ => ("SeatHall$Told", "prices", "[I", true)
def tyX8 : Nat → FieldType := fun k => match k with
  | 0 => .int
  | 1 => .int
  | 2 => .int
  | 3 => .int
  | 4 => .int
  | 5 => .int
  | 6 => .array .int
  | 7 => .array .int
  | 8 => .array .int
  | 9 => .array .int
  | 10 => .array .int
  | 11 => .array .int
  | _ => .array .int
theorem nmX8 : ∀ a, a < 13 → ∀ b, b < 13 → a ≠ b → (TX8 a).2.1 ≠ (TX8 b).2.1 := by decide +kernel
theorem tyX8_ok : ∀ k, k < 13 → parseFieldDescriptor (TX8 k).2.2.1 = some (tyX8 k) := by decide +kernel
def RX9 : String := "SeatHall"
def TX9 : u_T := fun k => match k with
  | 0 => ("SeatHall", "reader", "LSeatHall$Reader;", true)
  | 1 => ("SeatHall", "tape", "LSeatHall$Tape;", true)
  | 2 => ("SeatHall", "books", "LSeatHall$Books;", true)
  | 3 => ("SeatHall", "crowd", "LSeatHall$Crowd;", true)
  | 4 => ("SeatHall", "search", "LSeatHall$Search;", true)
  | 5 => ("SeatHall", "seating", "LSeatHall$Seating;", true)
  | 6 => ("SeatHall", "run", "LSeatHall$Run;", true)
  | 7 => ("SeatHall", "kept", "LSeatHall$Run;", true)
  | 8 => ("SeatHall", "told", "LSeatHall$Told;", false)
  | 9 => ("SeatHall", "spareTold", "LSeatHall$Told;", false)
  | 10 => ("SeatHall", "faultPlace", "I", false)
  | 11 => ("SeatHall", "refusedTexts", "I", false)
  | _ => ("SeatHall", "refusedRuns", "I", false)
def tyX9 : Nat → FieldType := fun k => match k with
  | 0 => .object "SeatHall$Reader"
  | 1 => .object "SeatHall$Tape"
  | 2 => .object "SeatHall$Books"
  | 3 => .object "SeatHall$Crowd"
  | 4 => .object "SeatHall$Search"
  | 5 => .object "SeatHall$Seating"
  | 6 => .object "SeatHall$Run"
  | 7 => .object "SeatHall$Run"
  | 8 => .object "SeatHall$Told"
  | 9 => .object "SeatHall$Told"
  | 10 => .int
  | 11 => .int
  | _ => .int
theorem nmX9 : ∀ a, a < 13 → ∀ b, b < 13 → a ≠ b → (TX9 a).2.1 ≠ (TX9 b).2.1 := by decide +kernel
theorem tyX9_ok : ∀ k, k < 13 → parseFieldDescriptor (TX9 k).2.2.1 = some (tyX9 k) := by decide +kernel
def RX10 : String := "SeatHallModel"
def TX10 : u_T := fun k => match k with
  | 0 => ("SeatHallModel", "thrown", "I", false)
  | 1 => ("SeatHallModel", "chairs", "I", false)
  | 2 => ("SeatHallModel", "costs", "I", false)
  | 3 => ("SeatHallModel", "evenings", "I", false)
  | 4 => ("SeatHallModel", "kinds", "I", false)
  | 5 => ("SeatHallModel", "rows", "I", false)
  | 6 => ("SeatHallModel", "tenFor", "I", false)
  | 7 => ("SeatHallModel", "evening", "[I", true)
  | 8 => ("SeatHallModel", "kind", "[I", true)
  | 9 => ("SeatHallModel", "row", "[I", true)
  | 10 => ("SeatHallModel", "price", "[I", true)
  | 11 => ("SeatHallModel", "tape", "[I", true)
  | 12 => ("SeatHallModel", "taped", "I", false)
  | 13 => ("SeatHallModel", "faultKind", "I", false)
  | 14 => ("SeatHallModel", "faultPlace", "I", false)
  | 15 => ("SeatHallModel", "refused", "[I", true)
  | 16 => ("SeatHallModel", "size", "I", false)
  | 17 => ("SeatHallModel", "next", "I", false)
  | 18 => ("SeatHallModel", "sort", "I", false)
  | 19 => ("SeatHallModel", "place", "I", false)
  | 20 => ("SeatHallModel", "long0", "I", false)
  | 21 => ("SeatHallModel", "value", "I", false)
  | 22 => ("SeatHallModel", "word", "J", false)
  | 23 => ("SeatHallModel", "newChairs", "I", false)
  | 24 => ("SeatHallModel", "newCosts", "I", false)
  | 25 => ("SeatHallModel", "newEvenings", "I", false)
  | 26 => ("SeatHallModel", "newKinds", "I", false)
  | 27 => ("SeatHallModel", "newRows", "I", false)
  | 28 => ("SeatHallModel", "newFor", "I", false)
  | 29 => ("SeatHallModel", "told", "I", false)
  | 30 => ("SeatHallModel", "newEvening", "[I", true)
  | 31 => ("SeatHallModel", "newKind", "[I", true)
  | 32 => ("SeatHallModel", "newRow", "[I", true)
  | 33 => ("SeatHallModel", "newPrice", "[I", true)
  | 34 => ("SeatHallModel", "plan", "[I", true)
  | 35 => ("SeatHallModel", "goes", "[Z", true)
  | 36 => ("SeatHallModel", "cases", "[J", true)
  | 37 => ("SeatHallModel", "then", "[J", true)
  | 38 => ("SeatHallModel", "came", "J", false)
  | 39 => ("SeatHallModel", "sunk", "J", false)
  | 40 => ("SeatHallModel", "worthOf", "[I", true)
  | 41 => ("SeatHallModel", "coming", "[J", true)
  | 42 => ("SeatHallModel", "gone", "[J", true)
  | 43 => ("SeatHallModel", "sunken", "[J", true)
  | 44 => ("SeatHallModel", "numbers", "[J", true)
  | 45 => ("SeatHallModel", "hasFound", "Z", false)
  | 46 => ("SeatHallModel", "found", "[J", true)
  | 47 => ("SeatHallModel", "may", "[Z", true)
  | 48 => ("SeatHallModel", "pairA", "I", false)
  | 49 => ("SeatHallModel", "pairB", "I", false)
  | 50 => ("SeatHallModel", "wereSet", "[I", true)
  | 51 => ("SeatHallModel", "were", "[I", true)
  | 52 => ("SeatHallModel", "moved", "[I", true)
  | 53 => ("SeatHallModel", "orderMany", "I", false)
  | 54 => ("SeatHallModel", "order", "[I", true)
  | 55 => ("SeatHallModel", "line", "[I", true)
  | 56 => ("SeatHallModel", "byRow", "[I", true)
  | 57 => ("SeatHallModel", "left", "[I", true)
  | 58 => ("SeatHallModel", "hasRun", "Z", false)
  | 59 => ("SeatHallModel", "hasImage", "Z", false)
  | 60 => ("SeatHallModel", "run", "[I", true)
  | 61 => ("SeatHallModel", "image", "[I", true)
  | 62 => ("SeatHallModel", "leftOf", "[I", true)
  | 63 => ("SeatHallModel", "hadOf", "[I", true)
  | 64 => ("SeatHallModel", "imageLeft", "[I", true)
  | 65 => ("SeatHallModel", "imageHad", "[I", true)
  | 66 => ("SeatHallModel", "saw", "[I", true)
  | _ => ("SeatHallModel", "imageSaw", "[I", true)
def tyX10 : Nat → FieldType := fun k => match k with
  | 0 => .int
  | 1 => .int
  | 2 => .int
  | 3 => .int
  | 4 => .int
  | 5 => .int
  | 6 => .int
  | 7 => .array .int
  | 8 => .array .int
  | 9 => .array .int
  | 10 => .array .int
  | 11 => .array .int
  | 12 => .int
  | 13 => .int
  | 14 => .int
  | 15 => .array .int
  | 16 => .int
  | 17 => .int
  | 18 => .int
  | 19 => .int
  | 20 => .int
  | 21 => .int
  | 22 => .long
  | 23 => .int
  | 24 => .int
  | 25 => .int
  | 26 => .int
  | 27 => .int
  | 28 => .int
  | 29 => .int
  | 30 => .array .int
  | 31 => .array .int
  | 32 => .array .int
  | 33 => .array .int
  | 34 => .array .int
  | 35 => .array .boolean
  | 36 => .array .long
  | 37 => .array .long
  | 38 => .long
  | 39 => .long
  | 40 => .array .int
  | 41 => .array .long
  | 42 => .array .long
  | 43 => .array .long
  | 44 => .array .long
  | 45 => .boolean
  | 46 => .array .long
  | 47 => .array .boolean
  | 48 => .int
  | 49 => .int
  | 50 => .array .int
  | 51 => .array .int
  | 52 => .array .int
  | 53 => .int
  | 54 => .array .int
  | 55 => .array .int
  | 56 => .array .int
  | 57 => .array .int
  | 58 => .boolean
  | 59 => .boolean
  | 60 => .array .int
  | 61 => .array .int
  | 62 => .array .int
  | 63 => .array .int
  | 64 => .array .int
  | 65 => .array .int
  | 66 => .array .int
  | _ => .array .int
theorem nmX10 : ∀ a, a < 68 → ∀ b, b < 68 → a ≠ b → (TX10 a).2.1 ≠ (TX10 b).2.1 := by decide +kernel
theorem tyX10_ok : ∀ k, k < 68 → parseFieldDescriptor (TX10 k).2.2.1 = some (tyX10 k) := by decide +kernel
def RJ9 : String := "java/lang/Math"
def RJ0 : String := "java/lang/String"
def RJ1 : String := "java/lang/StringLatin1"
def RJ2 : String := "java/lang/StringUTF16"
def RJ3 : String := "jdk/internal/util/Preconditions"
def RL : String := "SeatHallLaw"
abbrev classes : List vw_C := [(RX0, TX0, 5), (RX1, TX1, 5), (RX2, TX2, 12), (RX3, TX3, 10), (RX4, TX4, 6), (RX5, TX5, 8), (RX6, TX6, 7), (RX7, TX7, 2), (RX8, TX8, 13), (RX9, TX9, 13), (RX10, TX10, 68)]
def layA : List (Nat × Nat) := [(0, 9), (0, 3), (0, 7), (1, 700), (1, 700), (0, 8), (1, 48), (1, 16), (1, 66), (1, 6), (1, 4), (1, 4), (1, 5), (0, 0), (1, 6), (0, 8), (1, 48), (1, 16), (1, 66), (1, 6), (1, 4), (1, 4), (1, 5), (0, 2), (1, 16), (2, 16), (2, 17), (2, 16), (2, 33), (4, 30), (1, 6)]
def layB : List (Nat × Nat) := [(0, 1), (2, 401), (1, 2406), (1, 6), (0, 5), (1, 5), (1, 6), (1, 16), (2, 5), (0, 6), (1, 5), (1, 5), (1, 4), (0, 4), (1, 360), (1, 96), (1, 16), (0, 4), (1, 360), (1, 96), (1, 16), (0, 8), (1, 48), (1, 16), (1, 66), (1, 6), (1, 4), (1, 4), (1, 5), (0, 10), (1, 64), (1, 66), (1, 8), (1, 5), (1, 700), (1, 2), (1, 64), (1, 66), (1, 8), (1, 5), (1, 7293), (3, 7293), (2, 429), (2, 429), (1, 30), (2, 480), (2, 30), (2, 30), (2, 401), (2, 5), (3, 401), (1, 16), (1, 6), (1, 6), (1, 5), (1, 5), (1, 4), (1, 4), (1, 2), (1, 2), (1, 360), (1, 360), (1, 360), (1, 360), (1, 160), (1, 160), (2, 1)]
def layP (i : Nat) : Nat → Nat × Nat := fun j => match j with | 0 => (0, 2) | 1 => (1, 16) | 2 => (2, 16) | 3 => (2, 17) | 4 => (2, if i % 5 = 2 then 208 else 16) | _ => (2, if i % 5 = 2 then 429 else 33)
def LAY (a : Nat) : Nat × Nat := if a < 31 then layA.getD a (9, 0) else if a < 211 then layP ((a - 31) / 6) ((a - 31) % 6) else layB.getD (a - 211) (9, 0)
def NT : Nat := 278
def FT0 : List (Nat × Nat) := [(3, 1), (2, 0), (3, 10), (3, 16), (3, 17)]
def FT1 : List (Nat × Nat) := [(3, 1), (0, 0), (0, 0), (3, 2), (3, 3)]
def FT2 : List (Nat × Nat) := [(0, 0), (0, 0), (3, 4), (3, 1), (3, 2), (3, 5), (3, 3), (0, 0), (1, 0), (1, 0), (1, 0), (1, 0)]
def FT3 : List (Nat × Nat) := [(3, 1), (3, 3), (2, 0), (0, 0), (0, 0), (0, 0), (0, 0), (0, 0), (0, 0), (0, 0)]
def FT4 : List (Nat × Nat) := [(0, 1), (0, 0), (0, 0), (3, 1), (3, 2), (3, 3)]
def FT5 : List (Nat × Nat) := [(3, 1), (3, 2), (3, 3), (3, 4), (0, 1), (0, 1), (0, 0), (0, 0)]
def FT6 : List (Nat × Nat) := [(0, 1), (0, 0), (3, 1), (3, 2), (3, 3), (0, 0), (0, 0)]
def FT7 : List (Nat × Nat) := [(3, 1), (0, 0)]
def FT8 : List (Nat × Nat) := [(0, 0), (0, 0), (0, 0), (0, 0), (0, 0), (0, 0), (3, 1), (3, 2), (3, 3), (3, 4), (3, 5), (3, 6), (3, 7)]
def FT9 : List (Nat × Nat) := [(3, 1), (3, 2), (3, 13), (3, 211), (3, 215), (3, 220), (3, 224), (3, 228), (2, 0), (2, 0), (0, 0), (0, 0), (0, 0)]
def FT10 : List (Nat × Nat) := [(0, 0), (0, 0), (0, 0), (0, 0), (0, 0), (0, 0), (0, 0), (3, 1), (3, 2), (3, 3), (3, 4), (3, 5), (0, 0), (0, 0), (0, 0), (3, 6), (0, 0), (0, 0), (0, 0), (0, 0), (0, 0), (0, 0), (1, 0), (0, 0), (0, 0), (0, 0), (0, 0), (0, 0), (0, 0), (0, 0), (3, 7), (3, 8), (3, 9), (3, 10), (3, 11), (3, 12), (3, 13), (3, 14), (1, 0), (1, 0), (3, 15), (3, 16), (3, 17), (3, 18), (3, 19), (0, 1), (3, 20), (3, 21), (0, 0), (0, 0), (3, 22), (3, 23), (3, 24), (0, 0), (3, 25), (3, 26), (3, 27), (3, 28), (0, 1), (0, 1), (3, 29), (3, 30), (3, 31), (3, 32), (3, 33), (3, 34), (3, 35), (3, 36)]
def FT (ci : Nat) : List (Nat × Nat) := match ci with | 0 => FT0 | 1 => FT1 | 2 => FT2 | 3 => FT3 | 4 => FT4 | 5 => FT5 | 6 => FT6 | 7 => FT7 | 8 => FT8 | 9 => FT9 | 10 => FT10 | _ => []
theorem LAY_ok : ∀ a, a < NT → (LAY a).1 < 5 ∧ ((LAY a).1 = 0 → (LAY a).2 < 11) := by decide +kernel
theorem LAY_out {a : Nat} (h : NT ≤ a) : LAY a = (9, 0) := by
  unfold LAY
  unfold NT at h
  rw [if_neg (by omega), if_neg (by omega)]
  have e : layB.length = 67 := rfl
  show (layB[a - 211]?).getD (9, 0) = (9, 0)
  rw [List.getElem?_eq_none (by omega)]
  rfl
theorem LAY_lt {a x y : Nat} (h : LAY a = (x, y)) (hx : x < 9) : a < NT := by
  rcases Nat.lt_or_ge a NT with q | q
  · exact q
  · rw [LAY_out q] at h
    cases h
    omega
def W0 : List Cond := lw_tbl.filter goodWord
theorem w0_tab : ∀ w, w ∈ tables_1 → goodWord w = true → w ∈ W0 := fun w h g => List.mem_filter.mpr ⟨List.mem_append.mpr (Or.inr h), g⟩
theorem w0_sel : ∀ q, q ∈ lw_privs → goodWord (Cond.selects q.1.cls q.1 q.1) = true → Cond.selects q.1.cls q.1 q.1 ∈ W0 := fun q h g => List.mem_filter.mpr ⟨List.mem_append.mpr (Or.inl (List.mem_map.mpr ⟨q, h, rfl⟩)), g⟩
theorem w0_good : ∀ w ∈ W0, goodWord w = true := fun w h => (List.mem_filter.mp h).2
theorem w0_in : ∀ w ∈ W0, w ∈ lw_tbl := fun w h => (List.mem_filter.mp h).1
theorem wt1 : ∀ w, w ∈ tables_1_1 → goodWord w = true → w ∈ W0 := fun w h g => w0_tab w (List.mem_append.mpr (Or.inl h)) g
theorem wu1 : ∀ w, w ∈ tables_1_1 → w ∈ lw_tbl := fun w h => List.mem_append.mpr (Or.inr (List.mem_append.mpr (Or.inl h)))
theorem wt2 : ∀ w, w ∈ tables_1_2 → goodWord w = true → w ∈ W0 := fun w h g => w0_tab w (List.mem_append.mpr (Or.inr (List.mem_append.mpr (Or.inl h)))) g
theorem wu2 : ∀ w, w ∈ tables_1_2 → w ∈ lw_tbl := fun w h => List.mem_append.mpr (Or.inr (List.mem_append.mpr (Or.inr (List.mem_append.mpr (Or.inl h)))))
theorem wt3 : ∀ w, w ∈ tables_1_3 → goodWord w = true → w ∈ W0 := fun w h g => w0_tab w (List.mem_append.mpr (Or.inr (List.mem_append.mpr (Or.inr (List.mem_append.mpr (Or.inl h)))))) g
theorem wu3 : ∀ w, w ∈ tables_1_3 → w ∈ lw_tbl := fun w h => List.mem_append.mpr (Or.inr (List.mem_append.mpr (Or.inr (List.mem_append.mpr (Or.inr (List.mem_append.mpr (Or.inl h)))))))
theorem wt4 : ∀ w, w ∈ tables_1_4 → goodWord w = true → w ∈ W0 := fun w h g => w0_tab w (List.mem_append.mpr (Or.inr (List.mem_append.mpr (Or.inr (List.mem_append.mpr (Or.inr (List.mem_append.mpr (Or.inl h)))))))) g
theorem wu4 : ∀ w, w ∈ tables_1_4 → w ∈ lw_tbl := fun w h => List.mem_append.mpr (Or.inr (List.mem_append.mpr (Or.inr (List.mem_append.mpr (Or.inr (List.mem_append.mpr (Or.inr (List.mem_append.mpr (Or.inl h)))))))))
theorem wt5 : ∀ w, w ∈ tables_1_5 → goodWord w = true → w ∈ W0 := fun w h g => w0_tab w (List.mem_append.mpr (Or.inr (List.mem_append.mpr (Or.inr (List.mem_append.mpr (Or.inr (List.mem_append.mpr (Or.inr (List.mem_append.mpr (Or.inl h)))))))))) g
theorem wu5 : ∀ w, w ∈ tables_1_5 → w ∈ lw_tbl := fun w h => List.mem_append.mpr (Or.inr (List.mem_append.mpr (Or.inr (List.mem_append.mpr (Or.inr (List.mem_append.mpr (Or.inr (List.mem_append.mpr (Or.inr (List.mem_append.mpr (Or.inl h)))))))))))
theorem wt6 : ∀ w, w ∈ tables_1_6 → goodWord w = true → w ∈ W0 := fun w h g => w0_tab w (List.mem_append.mpr (Or.inr (List.mem_append.mpr (Or.inr (List.mem_append.mpr (Or.inr (List.mem_append.mpr (Or.inr (List.mem_append.mpr (Or.inr (List.mem_append.mpr (Or.inl h)))))))))))) g
theorem wu6 : ∀ w, w ∈ tables_1_6 → w ∈ lw_tbl := fun w h => List.mem_append.mpr (Or.inr (List.mem_append.mpr (Or.inr (List.mem_append.mpr (Or.inr (List.mem_append.mpr (Or.inr (List.mem_append.mpr (Or.inr (List.mem_append.mpr (Or.inr (List.mem_append.mpr (Or.inl h)))))))))))))
theorem wt7 : ∀ w, w ∈ tables_1_7 → goodWord w = true → w ∈ W0 := fun w h g => w0_tab w (List.mem_append.mpr (Or.inr (List.mem_append.mpr (Or.inr (List.mem_append.mpr (Or.inr (List.mem_append.mpr (Or.inr (List.mem_append.mpr (Or.inr (List.mem_append.mpr (Or.inr (List.mem_append.mpr (Or.inl h)))))))))))))) g
theorem wu7 : ∀ w, w ∈ tables_1_7 → w ∈ lw_tbl := fun w h => List.mem_append.mpr (Or.inr (List.mem_append.mpr (Or.inr (List.mem_append.mpr (Or.inr (List.mem_append.mpr (Or.inr (List.mem_append.mpr (Or.inr (List.mem_append.mpr (Or.inr (List.mem_append.mpr (Or.inr (List.mem_append.mpr (Or.inl h)))))))))))))))
theorem wt8 : ∀ w, w ∈ tables_1_8 → goodWord w = true → w ∈ W0 := fun w h g => w0_tab w (List.mem_append.mpr (Or.inr (List.mem_append.mpr (Or.inr (List.mem_append.mpr (Or.inr (List.mem_append.mpr (Or.inr (List.mem_append.mpr (Or.inr (List.mem_append.mpr (Or.inr (List.mem_append.mpr (Or.inr (h))))))))))))))) g
theorem wu8 : ∀ w, w ∈ tables_1_8 → w ∈ lw_tbl := fun w h => List.mem_append.mpr (Or.inr (List.mem_append.mpr (Or.inr (List.mem_append.mpr (Or.inr (List.mem_append.mpr (Or.inr (List.mem_append.mpr (Or.inr (List.mem_append.mpr (Or.inr (List.mem_append.mpr (Or.inr (List.mem_append.mpr (Or.inr (h))))))))))))))))
