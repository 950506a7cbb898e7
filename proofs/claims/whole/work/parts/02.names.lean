def RX0 : String := "GiftShops$Parser"
def TX0 : u_T := fun k => match k with
  | 0 => ("GiftShops$Parser", "scanner", "LGiftShops$Scanner;", true)
  | 1 => ("GiftShops$Parser", "into", "LGiftShops$Rules;", false)
  | _ => ("GiftShops$Parser", "fault", "I", false)
def tyX0 : Nat → FieldType := fun k => match k with
  | 0 => .object "GiftShops$Scanner"
  | 1 => .object "GiftShops$Rules"
  | _ => .int
abbrev wsX00 : List Cond := u_ws RX0 TX0 3
theorem nmX0 : ∀ a, a < 3 → ∀ b, b < 3 → a ≠ b → (TX0 a).2.1 ≠ (TX0 b).2.1 := by decide +kernel
theorem tyX0_ok : ∀ k, k < 3 → parseFieldDescriptor (TX0 k).2.2.1 = some (tyX0 k) := by decide +kernel
theorem iX0 : ∀ w ∈ wsX00, w ∈ lw_tbl := by decide +kernel
def RX1 : String := "GiftShops$Roads"
def TX1 : u_T := fun k => match k with
  | 0 => ("GiftShops$Roads", "lengths", "[I", true)
  | _ => ("GiftShops$Roads", "endingAt", "[I", true)
def tyX1 : Nat → FieldType := fun k => match k with
  | 0 => .array .int
  | _ => .array .int
abbrev wsX10 : List Cond := u_ws RX1 TX1 2
theorem nmX1 : ∀ a, a < 2 → ∀ b, b < 2 → a ≠ b → (TX1 a).2.1 ≠ (TX1 b).2.1 := by decide +kernel
theorem tyX1_ok : ∀ k, k < 2 → parseFieldDescriptor (TX1 k).2.2.1 = some (tyX1 k) := by decide +kernel
theorem iX1 : ∀ w ∈ wsX10, w ∈ lw_tbl := by decide +kernel
def RX2 : String := "GiftShops$Rules"
def TX2 : u_T := fun k => match k with
  | 0 => ("GiftShops$Rules", "codes", "[I", true)
  | 1 => ("GiftShops$Rules", "ends", "[I", true)
  | 2 => ("GiftShops$Rules", "ways", "[I", true)
  | 3 => ("GiftShops$Rules", "stack", "[I", true)
  | 4 => ("GiftShops$Rules", "size", "I", false)
  | _ => ("GiftShops$Rules", "lines", "I", false)
def tyX2 : Nat → FieldType := fun k => match k with
  | 0 => .array .int
  | 1 => .array .int
  | 2 => .array .int
  | 3 => .array .int
  | 4 => .int
  | _ => .int
abbrev wsX20 : List Cond := u_ws RX2 TX2 6
theorem nmX2 : ∀ a, a < 6 → ∀ b, b < 6 → a ≠ b → (TX2 a).2.1 ≠ (TX2 b).2.1 := by decide +kernel
theorem tyX2_ok : ∀ k, k < 6 → parseFieldDescriptor (TX2 k).2.2.1 = some (tyX2 k) := by decide +kernel
theorem iX2 : ∀ w ∈ wsX20, w ∈ lw_tbl := by decide +kernel
def RX3 : String := "GiftShops$Sale"
def TX3 : u_T := fun k => match k with
  | 0 => ("GiftShops$Sale", "thing", "LGiftShops$Thing;", true)
  | 1 => ("GiftShops$Sale", "shop", "I", true)
  | 2 => ("GiftShops$Sale", "since", "I", true)
  | 3 => ("GiftShops$Sale", "price", "I", true)
  | 4 => ("GiftShops$Sale", "week", "I", true)
  | _ => ("GiftShops$Sale", "isVoid", "Z", false)
def tyX3 : Nat → FieldType := fun k => match k with
  | 0 => .object "GiftShops$Thing"
  | 1 => .int
  | 2 => .int
  | 3 => .int
  | 4 => .int
  | _ => .boolean
abbrev wsX30 : List Cond := u_ws RX3 TX3 6
theorem nmX3 : ∀ a, a < 6 → ∀ b, b < 6 → a ≠ b → (TX3 a).2.1 ≠ (TX3 b).2.1 := by decide +kernel
theorem tyX3_ok : ∀ k, k < 6 → parseFieldDescriptor (TX3 k).2.2.1 = some (tyX3 k) := by decide +kernel
theorem iX3 : ∀ w ∈ wsX30, w ∈ lw_tbl := by decide +kernel
def RX4 : String := "GiftShops$Scanner"
def TX4 : u_T := fun k => match k with
  | 0 => ("GiftShops$Scanner", "tape", "LGiftShops$Tape;", true)
  | 1 => ("GiftShops$Scanner", "token", "I", false)
  | 2 => ("GiftShops$Scanner", "start", "I", false)
  | 3 => ("GiftShops$Scanner", "end", "I", false)
  | _ => ("GiftShops$Scanner", "number", "I", false)
def tyX4 : Nat → FieldType := fun k => match k with
  | 0 => .object "GiftShops$Tape"
  | 1 => .int
  | 2 => .int
  | 3 => .int
  | _ => .int
abbrev wsX40 : List Cond := u_ws RX4 TX4 5
theorem nmX4 : ∀ a, a < 5 → ∀ b, b < 5 → a ≠ b → (TX4 a).2.1 ≠ (TX4 b).2.1 := by decide +kernel
theorem tyX4_ok : ∀ k, k < 5 → parseFieldDescriptor (TX4 k).2.2.1 = some (tyX4 k) := by decide +kernel
theorem iX4 : ∀ w ∈ wsX40, w ∈ lw_tbl := by decide +kernel
def RX5 : String := "GiftShops$Shop"
def TX5 : u_T := fun k => match k with
  | 0 => ("GiftShops$Shop", "room", "I", false)
  | 1 => ("GiftShops$Shop", "lying", "I", false)
  | 2 => ("GiftShops$Shop", "lost", "I", false)
  | 3 => ("GiftShops$Shop", "sold", "[I", true)
  | _ => ("GiftShops$Shop", "lain", "[I", true)
def tyX5 : Nat → FieldType := fun k => match k with
  | 0 => .int
  | 1 => .int
  | 2 => .int
  | 3 => .array .int
  | _ => .array .int
abbrev wsX50 : List Cond := u_ws RX5 TX5 5
theorem nmX5 : ∀ a, a < 5 → ∀ b, b < 5 → a ≠ b → (TX5 a).2.1 ≠ (TX5 b).2.1 := by decide +kernel
theorem tyX5_ok : ∀ k, k < 5 → parseFieldDescriptor (TX5 k).2.2.1 = some (tyX5 k) := by decide +kernel
theorem iX5 : ∀ w ∈ wsX50, w ∈ lw_tbl := by decide +kernel
def RX6 : String := "GiftShops$Tape"
def TX6 : u_T := fun k => match k with
  | 0 => ("GiftShops$Tape", "signs", "[C", true)
  | _ => ("GiftShops$Tape", "length", "I", false)
def tyX6 : Nat → FieldType := fun k => match k with
  | 0 => .array .char
  | _ => .int
abbrev wsX60 : List Cond := u_ws RX6 TX6 2
theorem nmX6 : ∀ a, a < 2 → ∀ b, b < 2 → a ≠ b → (TX6 a).2.1 ≠ (TX6 b).2.1 := by decide +kernel
theorem tyX6_ok : ∀ k, k < 2 → parseFieldDescriptor (TX6 k).2.2.1 = some (tyX6 k) := by decide +kernel
theorem iX6 : ∀ w ∈ wsX60, w ∈ lw_tbl := by decide +kernel
def RX7 : String := "GiftShops$Thing"
def TX7 : u_T := fun k => match k with
  | 0 => ("GiftShops$Thing", "giver", "I", true)
  | 1 => ("GiftShops$Thing", "kind", "I", true)
  | 2 => ("GiftShops$Thing", "state", "I", true)
  | 3 => ("GiftShops$Thing", "season", "I", true)
  | 4 => ("GiftShops$Thing", "place", "I", false)
  | 5 => ("GiftShops$Thing", "shop", "I", false)
  | 6 => ("GiftShops$Thing", "since", "I", false)
  | 7 => ("GiftShops$Thing", "moves", "I", false)
  | _ => ("GiftShops$Thing", "lastSale", "I", false)
def tyX7 : Nat → FieldType := fun k => match k with
  | 0 => .int
  | 1 => .int
  | 2 => .int
  | 3 => .int
  | 4 => .int
  | 5 => .int
  | 6 => .int
  | 7 => .int
  | _ => .int
abbrev wsX70 : List Cond := u_ws RX7 TX7 9
theorem nmX7 : ∀ a, a < 9 → ∀ b, b < 9 → a ≠ b → (TX7 a).2.1 ≠ (TX7 b).2.1 := by decide +kernel
theorem tyX7_ok : ∀ k, k < 9 → parseFieldDescriptor (TX7 k).2.2.1 = some (tyX7 k) := by decide +kernel
theorem iX7 : ∀ w ∈ wsX70, w ∈ lw_tbl := by decide +kernel
def RX8 : String := "GiftShops$Turns"
def TX8 : u_T := fun k => match k with
  | 0 => ("GiftShops$Turns", "canCome", "[I", true)
  | 1 => ("GiftShops$Turns", "turnsOf", "[I", true)
  | 2 => ("GiftShops$Turns", "helpers", "I", false)
  | 3 => ("GiftShops$Turns", "triedHelpers", "I", false)
  | _ => ("GiftShops$Turns", "triedDays", "I", false)
def tyX8 : Nat → FieldType := fun k => match k with
  | 0 => .array .int
  | 1 => .array .int
  | 2 => .int
  | 3 => .int
  | _ => .int
abbrev wsX80 : List Cond := u_ws RX8 TX8 5
theorem nmX8 : ∀ a, a < 5 → ∀ b, b < 5 → a ≠ b → (TX8 a).2.1 ≠ (TX8 b).2.1 := by decide +kernel
theorem tyX8_ok : ∀ k, k < 5 → parseFieldDescriptor (TX8 k).2.2.1 = some (tyX8 k) := by decide +kernel
theorem iX8 : ∀ w ∈ wsX80, w ∈ lw_tbl := by decide +kernel
def RX9 : String := "GiftShops"
def TX9 : u_T := fun k => match k with
  | 0 => ("GiftShops", "things", "[LGiftShops$Thing;", true)
  | 1 => ("GiftShops", "thingCount", "I", false)
  | 2 => ("GiftShops", "sales", "[LGiftShops$Sale;", true)
  | 3 => ("GiftShops", "saleCount", "I", false)
  | 4 => ("GiftShops", "shops", "[LGiftShops$Shop;", true)
  | 5 => ("GiftShops", "bases", "[I", true)
  | 6 => ("GiftShops", "tape", "LGiftShops$Tape;", true)
  | 7 => ("GiftShops", "parser", "LGiftShops$Parser;", true)
  | 8 => ("GiftShops", "rules", "LGiftShops$Rules;", false)
  | 9 => ("GiftShops", "spareRules", "LGiftShops$Rules;", false)
  | 10 => ("GiftShops", "facts", "[I", true)
  | 11 => ("GiftShops", "doubles", "[I", true)
  | 12 => ("GiftShops", "agreed", "[I", true)
  | 13 => ("GiftShops", "rates", "[I", true)
  | 14 => ("GiftShops", "roads", "LGiftShops$Roads;", true)
  | 15 => ("GiftShops", "turns", "LGiftShops$Turns;", true)
  | 16 => ("GiftShops", "now", "I", false)
  | _ => ("GiftShops", "vanCost", "I", false)
def tyX9 : Nat → FieldType := fun k => match k with
  | 0 => .array (.object "GiftShops$Thing")
  | 1 => .int
  | 2 => .array (.object "GiftShops$Sale")
  | 3 => .int
  | 4 => .array (.object "GiftShops$Shop")
  | 5 => .array .int
  | 6 => .object "GiftShops$Tape"
  | 7 => .object "GiftShops$Parser"
  | 8 => .object "GiftShops$Rules"
  | 9 => .object "GiftShops$Rules"
  | 10 => .array .int
  | 11 => .array .int
  | 12 => .array .int
  | 13 => .array .int
  | 14 => .object "GiftShops$Roads"
  | 15 => .object "GiftShops$Turns"
  | 16 => .int
  | _ => .int
abbrev wsX90 : List Cond := u_ws RX9 TX9 18
theorem nmX9 : ∀ a, a < 18 → ∀ b, b < 18 → a ≠ b → (TX9 a).2.1 ≠ (TX9 b).2.1 := by decide +kernel
theorem tyX9_ok : ∀ k, k < 18 → parseFieldDescriptor (TX9 k).2.2.1 = some (tyX9 k) := by decide +kernel
theorem iX9 : ∀ w ∈ wsX90, w ∈ lw_tbl := by decide +kernel
def RX10 : String := "GiftShopsModel"
def TX10 : u_T := fun k => match k with
  | 0 => ("GiftShopsModel", "thrown", "I", false)
  | 1 => ("GiftShopsModel", "tape", "[I", true)
  | 2 => ("GiftShopsModel", "taped", "I", false)
  | 3 => ("GiftShopsModel", "size", "I", false)
  | 4 => ("GiftShopsModel", "sortOf", "[I", true)
  | 5 => ("GiftShopsModel", "place", "[I", true)
  | 6 => ("GiftShopsModel", "value", "[J", true)
  | 7 => ("GiftShopsModel", "at", "I", false)
  | 8 => ("GiftShopsModel", "fault", "I", false)
  | 9 => ("GiftShopsModel", "words", "[J", true)
  | 10 => ("GiftShopsModel", "lines", "[I", true)
  | 11 => ("GiftShopsModel", "lineWay", "[I", true)
  | 12 => ("GiftShopsModel", "lineAt", "[I", true)
  | 13 => ("GiftShopsModel", "op", "[I", true)
  | 14 => ("GiftShopsModel", "one", "[I", true)
  | 15 => ("GiftShopsModel", "holds", "I", false)
  | 16 => ("GiftShopsModel", "next", "I", false)
  | 17 => ("GiftShopsModel", "codes", "I", false)
  | 18 => ("GiftShopsModel", "deep", "I", false)
  | 19 => ("GiftShopsModel", "sumWaits", "[I", true)
  | 20 => ("GiftShopsModel", "signWaits", "[I", true)
  | 21 => ("GiftShopsModel", "andWaits", "[I", true)
  | 22 => ("GiftShopsModel", "known", "[I", true)
  | 23 => ("GiftShopsModel", "pile", "[I", true)
  | 24 => ("GiftShopsModel", "now", "I", false)
  | 25 => ("GiftShopsModel", "things", "I", false)
  | 26 => ("GiftShopsModel", "giver", "[I", true)
  | 27 => ("GiftShopsModel", "kind", "[I", true)
  | 28 => ("GiftShopsModel", "condition", "[I", true)
  | 29 => ("GiftShopsModel", "season", "[I", true)
  | 30 => ("GiftShopsModel", "state", "[I", true)
  | 31 => ("GiftShopsModel", "shop", "[I", true)
  | 32 => ("GiftShopsModel", "since", "[I", true)
  | 33 => ("GiftShopsModel", "moves", "[I", true)
  | 34 => ("GiftShopsModel", "bases", "[I", true)
  | 35 => ("GiftShopsModel", "rooms", "[I", true)
  | 36 => ("GiftShopsModel", "lay", "[I", true)
  | 37 => ("GiftShopsModel", "doubles", "[I", true)
  | 38 => ("GiftShopsModel", "agrees", "[I", true)
  | 39 => ("GiftShopsModel", "rate", "I", false)
  | 40 => ("GiftShopsModel", "rates", "[I", true)
  | 41 => ("GiftShopsModel", "sales", "I", false)
  | 42 => ("GiftShopsModel", "soldThing", "[I", true)
  | 43 => ("GiftShopsModel", "soldFor", "[I", true)
  | 44 => ("GiftShopsModel", "soldIn", "[I", true)
  | 45 => ("GiftShopsModel", "soldOn", "[I", true)
  | 46 => ("GiftShopsModel", "isVoid", "[Z", true)
  | 47 => ("GiftShopsModel", "cost", "I", false)
  | 48 => ("GiftShopsModel", "ways", "[I", true)
  | 49 => ("GiftShopsModel", "helpers", "I", false)
  | 50 => ("GiftShopsModel", "canCome", "[I", true)
  | 51 => ("GiftShopsModel", "comes", "[Z", true)
  | 52 => ("GiftShopsModel", "isSeen", "[Z", true)
  | _ => ("GiftShopsModel", "bound", "I", false)
def tyX10 : Nat → FieldType := fun k => match k with
  | 0 => .int
  | 1 => .array .int
  | 2 => .int
  | 3 => .int
  | 4 => .array .int
  | 5 => .array .int
  | 6 => .array .long
  | 7 => .int
  | 8 => .int
  | 9 => .array .long
  | 10 => .array .int
  | 11 => .array .int
  | 12 => .array .int
  | 13 => .array .int
  | 14 => .array .int
  | 15 => .int
  | 16 => .int
  | 17 => .int
  | 18 => .int
  | 19 => .array .int
  | 20 => .array .int
  | 21 => .array .int
  | 22 => .array .int
  | 23 => .array .int
  | 24 => .int
  | 25 => .int
  | 26 => .array .int
  | 27 => .array .int
  | 28 => .array .int
  | 29 => .array .int
  | 30 => .array .int
  | 31 => .array .int
  | 32 => .array .int
  | 33 => .array .int
  | 34 => .array .int
  | 35 => .array .int
  | 36 => .array .int
  | 37 => .array .int
  | 38 => .array .int
  | 39 => .int
  | 40 => .array .int
  | 41 => .int
  | 42 => .array .int
  | 43 => .array .int
  | 44 => .array .int
  | 45 => .array .int
  | 46 => .array .boolean
  | 47 => .int
  | 48 => .array .int
  | 49 => .int
  | 50 => .array .int
  | 51 => .array .boolean
  | 52 => .array .boolean
  | _ => .int
abbrev wsX100 : List Cond := u_ws RX10 TX10 54
theorem nmX10 : ∀ a, a < 54 → ∀ b, b < 54 → a ≠ b → (TX10 a).2.1 ≠ (TX10 b).2.1 := by decide +kernel
theorem tyX10_ok : ∀ k, k < 54 → parseFieldDescriptor (TX10 k).2.2.1 = some (tyX10 k) := by decide +kernel
theorem iX10 : ∀ w ∈ wsX100, w ∈ lw_tbl := by decide +kernel
abbrev gcl : List vw_C := [(RX0, TX0, 3), (RX1, TX1, 2), (RX2, TX2, 6), (RX3, TX3, 6), (RX4, TX4, 5), (RX5, TX5, 5), (RX6, TX6, 2), (RX7, TX7, 9), (RX8, TX8, 5), (RX9, TX9, 18), (RX10, TX10, 54)]
