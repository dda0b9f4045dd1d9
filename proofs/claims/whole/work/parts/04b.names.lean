/-! The classes: names, fields, their types (starting text: the printed names). -/
def cR0 : String := "IceManners$Book"
def cT0 : u_T := fun k => match k with
  | 0 => ("IceManners$Book", "acts", "[LIceManners$Kind;", true)
  | 1 => ("IceManners$Book", "doers", "[I", true)
  | 2 => ("IceManners$Book", "objects", "[I", true)
  | 3 => ("IceManners$Book", "size", "I", false)
  | _ => ("IceManners$Book", "why", "I", false)
def cY0 : Nat → FieldType := fun k => match k with
  | 0 => .array (.object "IceManners$Kind")
  | 1 => .array .int
  | 2 => .array .int
  | 3 => .int
  | _ => .int
theorem cn0 : ∀ a, a < 5 → ∀ b, b < 5 → a ≠ b → (cT0 a).2.1 ≠ (cT0 b).2.1 := by decide +kernel
theorem cy0_ok : ∀ k, k < 5 → parseFieldDescriptor (cT0 k).2.2.1 = some (cY0 k) := by decide +kernel
def cR1 : String := "IceManners$History"
def cT1 : u_T := fun k => match k with
  | 0 => ("IceManners$History", "states", "[LIceManners$State;", true)
  | 1 => ("IceManners$History", "next", "I", false)
  | _ => ("IceManners$History", "size", "I", false)
def cY1 : Nat → FieldType := fun k => match k with
  | 0 => .array (.object "IceManners$State")
  | 1 => .int
  | _ => .int
theorem cn1 : ∀ a, a < 3 → ∀ b, b < 3 → a ≠ b → (cT1 a).2.1 ≠ (cT1 b).2.1 := by decide +kernel
theorem cy1_ok : ∀ k, k < 3 → parseFieldDescriptor (cT1 k).2.2.1 = some (cY1 k) := by decide +kernel
def cR2 : String := "IceManners$Lake"
def cT2 : u_T := fun k => match k with
  | 0 => ("IceManners$Lake", "wide", "I", false)
  | 1 => ("IceManners$Lake", "high", "I", false)
  | 2 => ("IceManners$Lake", "people", "I", false)
  | 3 => ("IceManners$Lake", "rude", "I", false)
  | 4 => ("IceManners$Lake", "reach", "I", false)
  | 5 => ("IceManners$Lake", "cross", "I", false)
  | 6 => ("IceManners$Lake", "hollow", "I", false)
  | 7 => ("IceManners$Lake", "frost", "I", false)
  | 8 => ("IceManners$Lake", "names", "[J", true)
  | _ => ("IceManners$Lake", "loads", "[I", true)
def cY2 : Nat → FieldType := fun k => match k with
  | 0 => .int
  | 1 => .int
  | 2 => .int
  | 3 => .int
  | 4 => .int
  | 5 => .int
  | 6 => .int
  | 7 => .int
  | 8 => .array .long
  | _ => .array .int
theorem cn2 : ∀ a, a < 10 → ∀ b, b < 10 → a ≠ b → (cT2 a).2.1 ≠ (cT2 b).2.1 := by decide +kernel
theorem cy2_ok : ∀ k, k < 10 → parseFieldDescriptor (cT2 k).2.2.1 = some (cY2 k) := by decide +kernel
def cR3 : String := "IceManners$Reader"
def cT3 : u_T := fun k => match k with
  | 0 => ("IceManners$Reader", "text", "[I", true)
  | 1 => ("IceManners$Reader", "size", "I", false)
  | 2 => ("IceManners$Reader", "most", "I", false)
  | 3 => ("IceManners$Reader", "next", "I", false)
  | 4 => ("IceManners$Reader", "start", "I", false)
  | 5 => ("IceManners$Reader", "takenAt", "I", false)
  | 6 => ("IceManners$Reader", "value", "I", false)
  | 7 => ("IceManners$Reader", "name", "J", false)
  | 8 => ("IceManners$Reader", "letters", "I", false)
  | 9 => ("IceManners$Reader", "digits", "I", false)
  | 10 => ("IceManners$Reader", "kind", "LIceManners$Kind;", false)
  | 11 => ("IceManners$Reader", "faultKind", "I", false)
  | _ => ("IceManners$Reader", "faultPlace", "I", false)
def cY3 : Nat → FieldType := fun k => match k with
  | 0 => .array .int
  | 1 => .int
  | 2 => .int
  | 3 => .int
  | 4 => .int
  | 5 => .int
  | 6 => .int
  | 7 => .long
  | 8 => .int
  | 9 => .int
  | 10 => .object "IceManners$Kind"
  | 11 => .int
  | _ => .int
theorem cn3 : ∀ a, a < 13 → ∀ b, b < 13 → a ≠ b → (cT3 a).2.1 ≠ (cT3 b).2.1 := by decide +kernel
theorem cy3_ok : ∀ k, k < 13 → parseFieldDescriptor (cT3 k).2.2.1 = some (cY3 k) := by decide +kernel
def cR4 : String := "IceManners$Sentence"
def cT4 : u_T := fun k => match k with
  | 0 => ("IceManners$Sentence", "parts", "[LIceManners$Kind;", true)
  | 1 => ("IceManners$Sentence", "signs", "[LIceManners$Kind;", true)
  | 2 => ("IceManners$Sentence", "numbers", "[I", true)
  | 3 => ("IceManners$Sentence", "size", "I", false)
  | _ => ("IceManners$Sentence", "ones", "I", false)
def cY4 : Nat → FieldType := fun k => match k with
  | 0 => .array (.object "IceManners$Kind")
  | 1 => .array (.object "IceManners$Kind")
  | 2 => .array .int
  | 3 => .int
  | _ => .int
theorem cn4 : ∀ a, a < 5 → ∀ b, b < 5 → a ≠ b → (cT4 a).2.1 ≠ (cT4 b).2.1 := by decide +kernel
theorem cy4_ok : ∀ k, k < 5 → parseFieldDescriptor (cT4 k).2.2.1 = some (cY4 k) := by decide +kernel
def cR5 : String := "IceManners$State"
def cT5 : u_T := fun k => match k with
  | 0 => ("IceManners$State", "lake", "LIceManners$Lake;", true)
  | 1 => ("IceManners$State", "ice", "[I", true)
  | 2 => ("IceManners$State", "at", "[I", true)
  | 3 => ("IceManners$State", "temper", "[I", true)
  | 4 => ("IceManners$State", "praised", "[I", true)
  | 5 => ("IceManners$State", "fallen", "I", false)
  | 6 => ("IceManners$State", "bowed", "I", false)
  | 7 => ("IceManners$State", "hour", "I", false)
  | 8 => ("IceManners$State", "bowsMade", "I", false)
  | 9 => ("IceManners$State", "praisesMade", "I", false)
  | 10 => ("IceManners$State", "oathsMade", "I", false)
  | 11 => ("IceManners$State", "swearers", "I", false)
  | _ => ("IceManners$State", "seed", "I", false)
def cY5 : Nat → FieldType := fun k => match k with
  | 0 => .object "IceManners$Lake"
  | 1 => .array .int
  | 2 => .array .int
  | 3 => .array .int
  | 4 => .array .int
  | 5 => .int
  | 6 => .int
  | 7 => .int
  | 8 => .int
  | 9 => .int
  | 10 => .int
  | 11 => .int
  | _ => .int
theorem cn5 : ∀ a, a < 13 → ∀ b, b < 13 → a ≠ b → (cT5 a).2.1 ≠ (cT5 b).2.1 := by decide +kernel
theorem cy5_ok : ∀ k, k < 13 → parseFieldDescriptor (cT5 k).2.2.1 = some (cY5 k) := by decide +kernel
def cR6 : String := "IceManners$Telling"
def cT6 : u_T := fun k => match k with
  | 0 => ("IceManners$Telling", "reader", "LIceManners$Reader;", true)
  | 1 => ("IceManners$Telling", "draft", "LIceManners$Scene;", true)
  | 2 => ("IceManners$Telling", "lakeTold", "Z", false)
  | 3 => ("IceManners$Telling", "rudeTold", "Z", false)
  | 4 => ("IceManners$Telling", "crossTold", "Z", false)
  | 5 => ("IceManners$Telling", "hollowTold", "Z", false)
  | 6 => ("IceManners$Telling", "frostTold", "Z", false)
  | 7 => ("IceManners$Telling", "placeTold", "Z", false)
  | _ => ("IceManners$Telling", "iceTold", "J", false)
def cY6 : Nat → FieldType := fun k => match k with
  | 0 => .object "IceManners$Reader"
  | 1 => .object "IceManners$Scene"
  | 2 => .boolean
  | 3 => .boolean
  | 4 => .boolean
  | 5 => .boolean
  | 6 => .boolean
  | 7 => .boolean
  | _ => .long
theorem cn6 : ∀ a, a < 9 → ∀ b, b < 9 → a ≠ b → (cT6 a).2.1 ≠ (cT6 b).2.1 := by decide +kernel
theorem cy6_ok : ∀ k, k < 9 → parseFieldDescriptor (cT6 k).2.2.1 = some (cY6 k) := by decide +kernel
def cR7 : String := "IceManners$Ways"
def cT7 : u_T := fun k => match k with
  | 0 => ("IceManners$Ways", "worth", "[I", true)
  | 1 => ("IceManners$Ways", "queue", "[I", true)
  | 2 => ("IceManners$Ways", "sides", "[I", true)
  | _ => ("IceManners$Ways", "steps", "I", false)
def cY7 : Nat → FieldType := fun k => match k with
  | 0 => .array .int
  | 1 => .array .int
  | 2 => .array .int
  | _ => .int
theorem cn7 : ∀ a, a < 4 → ∀ b, b < 4 → a ≠ b → (cT7 a).2.1 ≠ (cT7 b).2.1 := by decide +kernel
theorem cy7_ok : ∀ k, k < 4 → parseFieldDescriptor (cT7 k).2.2.1 = some (cY7 k) := by decide +kernel
def cR8 : String := "IceManners$Scene"
def cT8 : u_T := fun k => match k with
  | 0 => ("IceManners$Scene", "lake", "LIceManners$Lake;", true)
  | 1 => ("IceManners$Scene", "state", "LIceManners$State;", true)
  | _ => ("IceManners$Scene", "sentence", "LIceManners$Sentence;", true)
def cY8 : Nat → FieldType := fun k => match k with
  | 0 => .object "IceManners$Lake"
  | 1 => .object "IceManners$State"
  | _ => .object "IceManners$Sentence"
theorem cn8 : ∀ a, a < 3 → ∀ b, b < 3 → a ≠ b → (cT8 a).2.1 ≠ (cT8 b).2.1 := by decide +kernel
theorem cy8_ok : ∀ k, k < 3 → parseFieldDescriptor (cT8 k).2.2.1 = some (cY8 k) := by decide +kernel
def cR9 : String := "IceManners"
def cT9 : u_T := fun k => match k with
  | 0 => ("IceManners", "tape", "[I", true)
  | 1 => ("IceManners", "size", "I", false)
  | 2 => ("IceManners", "scene", "LIceManners$Scene;", true)
  | 3 => ("IceManners", "draft", "LIceManners$Scene;", true)
  | 4 => ("IceManners", "images", "[LIceManners$Scene;", true)
  | 5 => ("IceManners", "kept", "[Z", true)
  | 6 => ("IceManners", "trial", "LIceManners$State;", true)
  | 7 => ("IceManners", "history", "LIceManners$History;", true)
  | 8 => ("IceManners", "reader", "LIceManners$Reader;", true)
  | 9 => ("IceManners", "telling", "LIceManners$Telling;", true)
  | 10 => ("IceManners", "page", "LIceManners$Book;", true)
  | 11 => ("IceManners", "ways", "LIceManners$Ways;", true)
  | 12 => ("IceManners", "text", "Ljava/lang/StringBuilder;", true)
  | 13 => ("IceManners", "judged", "[I", true)
  | 14 => ("IceManners", "hasJudged", "Z", false)
  | 15 => ("IceManners", "faultKind", "I", false)
  | _ => ("IceManners", "askCell", "I", false)
def cY9 : Nat → FieldType := fun k => match k with
  | 0 => .array .int
  | 1 => .int
  | 2 => .object "IceManners$Scene"
  | 3 => .object "IceManners$Scene"
  | 4 => .array (.object "IceManners$Scene")
  | 5 => .array .boolean
  | 6 => .object "IceManners$State"
  | 7 => .object "IceManners$History"
  | 8 => .object "IceManners$Reader"
  | 9 => .object "IceManners$Telling"
  | 10 => .object "IceManners$Book"
  | 11 => .object "IceManners$Ways"
  | 12 => .object "java/lang/StringBuilder"
  | 13 => .array .int
  | 14 => .boolean
  | 15 => .int
  | _ => .int
theorem cn9 : ∀ a, a < 17 → ∀ b, b < 17 → a ≠ b → (cT9 a).2.1 ≠ (cT9 b).2.1 := by decide +kernel
theorem cy9_ok : ∀ k, k < 17 → parseFieldDescriptor (cT9 k).2.2.1 = some (cY9 k) := by decide +kernel
def cR10 : String := "IceMannersModel"
def cT10 : u_T := fun k => match k with
  | 0 => ("IceMannersModel", "thrown", "I", false)
  | 1 => ("IceMannersModel", "tape", "[B", true)
  | 2 => ("IceMannersModel", "length", "I", false)
  | 3 => ("IceMannersModel", "size", "I", false)
  | 4 => ("IceMannersModel", "p", "I", false)
  | 5 => ("IceMannersModel", "limit", "I", false)
  | 6 => ("IceMannersModel", "s", "[I", true)
  | 7 => ("IceMannersModel", "h", "[I", true)
  | 8 => ("IceMannersModel", "read", "[I", true)
  | 9 => ("IceMannersModel", "names", "[J", true)
  | 10 => ("IceMannersModel", "reserved", "[J", true)
  | 11 => ("IceMannersModel", "token", "I", false)
  | 12 => ("IceMannersModel", "at", "I", false)
  | 13 => ("IceMannersModel", "span", "I", false)
  | 14 => ("IceMannersModel", "number", "I", false)
  | 15 => ("IceMannersModel", "fault", "I", false)
  | 16 => ("IceMannersModel", "faultAt", "I", false)
  | 17 => ("IceMannersModel", "word", "J", false)
  | 18 => ("IceMannersModel", "got", "I", false)
  | 19 => ("IceMannersModel", "lines", "I", false)
  | 20 => ("IceMannersModel", "onces", "I", false)
  | 21 => ("IceMannersModel", "iced", "J", false)
  | 22 => ("IceMannersModel", "sworn", "I", false)
  | 23 => ("IceMannersModel", "undone", "[I", true)
  | 24 => ("IceMannersModel", "before", "[I", true)
  | 25 => ("IceMannersModel", "undoMany", "I", false)
  | 26 => ("IceMannersModel", "steps", "[I", true)
  | 27 => ("IceMannersModel", "wanted", "[I", true)
  | 28 => ("IceMannersModel", "firmest", "[I", true)
  | 29 => ("IceMannersModel", "wayRow", "[I", true)
  | 30 => ("IceMannersModel", "wayMany", "I", false)
  | 31 => ("IceMannersModel", "askCell", "I", false)
  | 32 => ("IceMannersModel", "hasSwore", "Z", false)
  | 33 => ("IceMannersModel", "text", "[B", true)
  | 34 => ("IceMannersModel", "textMany", "I", false)
  | 35 => ("IceMannersModel", "seed", "I", false)
  | 36 => ("IceMannersModel", "toldMany", "I", false)
  | 37 => ("IceMannersModel", "toldAt", "[I", true)
  | 38 => ("IceMannersModel", "hasTold", "Z", false)
  | 39 => ("IceMannersModel", "stack", "[I", true)
  | 40 => ("IceMannersModel", "codes", "I", false)
  | 41 => ("IceMannersModel", "ones", "I", false)
  | 42 => ("IceMannersModel", "top", "I", false)
  | 43 => ("IceMannersModel", "deep", "I", false)
  | 44 => ("IceMannersModel", "isWhole", "Z", false)
  | 45 => ("IceMannersModel", "truths", "[Z", true)
  | 46 => ("IceMannersModel", "imaged", "[I", true)
  | 47 => ("IceMannersModel", "namesKept", "[J", true)
  | _ => ("IceMannersModel", "areKept", "[Z", true)
def cY10 : Nat → FieldType := fun k => match k with
  | 0 => .int
  | 1 => .array .byte
  | 2 => .int
  | 3 => .int
  | 4 => .int
  | 5 => .int
  | 6 => .array .int
  | 7 => .array .int
  | 8 => .array .int
  | 9 => .array .long
  | 10 => .array .long
  | 11 => .int
  | 12 => .int
  | 13 => .int
  | 14 => .int
  | 15 => .int
  | 16 => .int
  | 17 => .long
  | 18 => .int
  | 19 => .int
  | 20 => .int
  | 21 => .long
  | 22 => .int
  | 23 => .array .int
  | 24 => .array .int
  | 25 => .int
  | 26 => .array .int
  | 27 => .array .int
  | 28 => .array .int
  | 29 => .array .int
  | 30 => .int
  | 31 => .int
  | 32 => .boolean
  | 33 => .array .byte
  | 34 => .int
  | 35 => .int
  | 36 => .int
  | 37 => .array .int
  | 38 => .boolean
  | 39 => .array .int
  | 40 => .int
  | 41 => .int
  | 42 => .int
  | 43 => .int
  | 44 => .boolean
  | 45 => .array .boolean
  | 46 => .array .int
  | 47 => .array .long
  | _ => .array .boolean
theorem cn10 : ∀ a, a < 49 → ∀ b, b < 49 → a ≠ b → (cT10 a).2.1 ≠ (cT10 b).2.1 := by decide +kernel
theorem cy10_ok : ∀ k, k < 49 → parseFieldDescriptor (cT10 k).2.2.1 = some (cY10 k) := by decide +kernel
def cls : List vw_C := [(cR0, cT0, 5), (cR1, cT1, 3), (cR2, cT2, 10), (cR3, cT3, 13), (cR4, cT4, 5), (cR5, cT5, 13), (cR6, cT6, 9), (cR7, cT7, 4), (cR8, cT8, 3), (cR9, cT9, 17), (cR10, cT10, 49)]
