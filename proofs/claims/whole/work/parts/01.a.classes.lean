theorem goodIn_r {big : List Cond} (ws : List Cond) (ps : List Nat) (hp : ws = ps.filterMap (fun i => big[i]?)) (h : ws.all goodWord = true) : GoodIn big ws := by
  intro w hw
  have h1 := List.all_eq_true.mp h w hw
  rw [hp] at hw
  obtain ⟨i, -, hi⟩ := List.mem_filterMap.mp hw
  have hm : w ∈ big := by first | exact List.mem_of_getElem? hi | exact List.getElem?_mem hi
  exact ⟨hm, good_of_word h1⟩
theorem goodIn_app {big a b : List Cond} (ha : GoodIn big a) (hb : GoodIn big b) : GoodIn big (a ++ b) := fun w h => (List.mem_append.mp h).elim (ha w) (hb w)
theorem goodIn_ca {big a b : List Cond} {c : Cond} (ha : GoodIn big (c :: a)) (hb : GoodIn big b) : GoodIn big (c :: (a ++ b)) := fun w h => (List.mem_cons.mp h).elim (fun e => ha w (List.mem_cons.mpr (Or.inl e))) (fun h => (List.mem_append.mp h).elim (fun h => ha w (List.mem_cons.mpr (Or.inr h))) (hb w))
theorem goodIn_sub {big ws : List Cond} (hm : ∀ w ∈ ws, w ∈ big) (h : ws.all goodWord = true) : GoodIn big ws := fun w hw => ⟨hm w hw, good_of_word (List.all_eq_true.mp h w hw)⟩
def RX0 : String := "PlateRings$Bench"
def TX0 : u_T := fun k => match k with
  | 0 => ("PlateRings$Bench", "plates", "[LPlateRings$Plate;", true)
  | 1 => ("PlateRings$Bench", "losses", "[LPlateRings$Loss;", true)
  | 2 => ("PlateRings$Bench", "hard", "[I", true)
  | 3 => ("PlateRings$Bench", "tilt", "[I", true)
  | 4 => ("PlateRings$Bench", "legFloors", "[I", true)
  | 5 => ("PlateRings$Bench", "legTicks", "[I", true)
  | 6 => ("PlateRings$Bench", "spun", "LPlateRings$Spun;", true)
  | 7 => ("PlateRings$Bench", "row", "LPlateRings$Row;", true)
  | 8 => ("PlateRings$Bench", "plateCount", "I", false)
  | 9 => ("PlateRings$Bench", "lossCount", "I", false)
  | 10 => ("PlateRings$Bench", "legCount", "I", false)
  | _ => ("PlateRings$Bench", "air", "Z", false)
def tyX0 : Nat → FieldType := fun k => match k with
  | 0 => .array (.object "PlateRings$Plate")
  | 1 => .array (.object "PlateRings$Loss")
  | 2 => .array .int
  | 3 => .array .int
  | 4 => .array .int
  | 5 => .array .int
  | 6 => .object "PlateRings$Spun"
  | 7 => .object "PlateRings$Row"
  | 8 => .int
  | 9 => .int
  | 10 => .int
  | _ => .boolean
abbrev wsX00 : List Cond := u_ws RX0 TX0 12
theorem nmX0 : ∀ a, a < 12 → ∀ b, b < 12 → a ≠ b → (TX0 a).2.1 ≠ (TX0 b).2.1 := by decide +kernel
theorem tyX0_ok : ∀ k, k < 12 → parseFieldDescriptor (TX0 k).2.2.1 = some (tyX0 k) := by decide +kernel
def RX1 : String := "PlateRings$Loss"
def TX1 : u_T := fun k => match k with
  | 0 => ("PlateRings$Loss", "kind", "I", true)
  | 1 => ("PlateRings$Loss", "from", "I", true)
  | 2 => ("PlateRings$Loss", "to", "I", true)
  | 3 => ("PlateRings$Loss", "law", "[I", true)
  | _ => ("PlateRings$Loss", "stack", "[I", true)
def tyX1 : Nat → FieldType := fun k => match k with
  | 0 => .int
  | 1 => .int
  | 2 => .int
  | 3 => .array .int
  | _ => .array .int
abbrev wsX10 : List Cond := u_ws RX1 TX1 5
theorem nmX1 : ∀ a, a < 5 → ∀ b, b < 5 → a ≠ b → (TX1 a).2.1 ≠ (TX1 b).2.1 := by decide +kernel
theorem tyX1_ok : ∀ k, k < 5 → parseFieldDescriptor (TX1 k).2.2.1 = some (tyX1 k) := by decide +kernel
def RX2 : String := "PlateRings$Mind"
def TX2 : u_T := fun k => match k with
  | 0 => ("PlateRings$Mind", "bench", "LPlateRings$Bench;", true)
  | 1 => ("PlateRings$Mind", "fields", "[I", true)
  | 2 => ("PlateRings$Mind", "taken", "[I", true)
  | 3 => ("PlateRings$Mind", "lean", "I", false)
  | 4 => ("PlateRings$Mind", "tone", "I", false)
  | 5 => ("PlateRings$Mind", "tick", "I", false)
  | 6 => ("PlateRings$Mind", "end", "I", false)
  | 7 => ("PlateRings$Mind", "set", "I", false)
  | 8 => ("PlateRings$Mind", "step", "I", false)
  | 9 => ("PlateRings$Mind", "air", "Z", false)
  | 10 => ("PlateRings$Mind", "isRing", "Z", false)
  | 11 => ("PlateRings$Mind", "more", "LPlateRings$Loss;", false)
  | _ => ("PlateRings$Mind", "moreFrom", "I", false)
def tyX2 : Nat → FieldType := fun k => match k with
  | 0 => .object "PlateRings$Bench"
  | 1 => .array .int
  | 2 => .array .int
  | 3 => .int
  | 4 => .int
  | 5 => .int
  | 6 => .int
  | 7 => .int
  | 8 => .int
  | 9 => .boolean
  | 10 => .boolean
  | 11 => .object "PlateRings$Loss"
  | _ => .int
abbrev wsX20 : List Cond := u_ws RX2 TX2 13
theorem nmX2 : ∀ a, a < 13 → ∀ b, b < 13 → a ≠ b → (TX2 a).2.1 ≠ (TX2 b).2.1 := by decide +kernel
theorem tyX2_ok : ∀ k, k < 13 → parseFieldDescriptor (TX2 k).2.2.1 = some (tyX2 k) := by decide +kernel
def RX3 : String := "PlateRings$Plate"
def TX3 : u_T := fun k => match k with
  | 0 => ("PlateRings$Plate", "weight", "I", true)
  | 1 => ("PlateRings$Plate", "width", "I", true)
  | 2 => ("PlateRings$Plate", "edge", "I", true)
  | 3 => ("PlateRings$Plate", "hole", "I", true)
  | _ => ("PlateRings$Plate", "dish", "I", true)
def tyX3 : Nat → FieldType := fun k => match k with
  | 0 => .int
  | 1 => .int
  | 2 => .int
  | 3 => .int
  | _ => .int
abbrev wsX30 : List Cond := u_ws RX3 TX3 5
theorem nmX3 : ∀ a, a < 5 → ∀ b, b < 5 → a ≠ b → (TX3 a).2.1 ≠ (TX3 b).2.1 := by decide +kernel
theorem tyX3_ok : ∀ k, k < 5 → parseFieldDescriptor (TX3 k).2.2.1 = some (tyX3 k) := by decide +kernel
def RX4 : String := "PlateRings$Row"
def TX4 : u_T := fun k => match k with
  | 0 => ("PlateRings$Row", "tones", "[I", true)
  | 1 => ("PlateRings$Row", "length", "I", false)
  | _ => ("PlateRings$Row", "mayBeOff", "I", false)
def tyX4 : Nat → FieldType := fun k => match k with
  | 0 => .array .int
  | 1 => .int
  | _ => .int
abbrev wsX40 : List Cond := u_ws RX4 TX4 3
theorem nmX4 : ∀ a, a < 3 → ∀ b, b < 3 → a ≠ b → (TX4 a).2.1 ≠ (TX4 b).2.1 := by decide +kernel
theorem tyX4_ok : ∀ k, k < 3 → parseFieldDescriptor (TX4 k).2.2.1 = some (tyX4 k) := by decide +kernel
def RX5 : String := "PlateRings$Spun"
def TX5 : u_T := fun k => match k with
  | 0 => ("PlateRings$Spun", "spins", "Z", false)
  | 1 => ("PlateRings$Spun", "number", "I", false)
  | 2 => ("PlateRings$Spun", "firstLean", "I", false)
  | 3 => ("PlateRings$Spun", "floor", "I", false)
  | 4 => ("PlateRings$Spun", "lean", "I", false)
  | 5 => ("PlateRings$Spun", "tone", "I", false)
  | 6 => ("PlateRings$Spun", "tick", "I", false)
  | 7 => ("PlateRings$Spun", "end", "I", false)
  | 8 => ("PlateRings$Spun", "rolledSoFar", "J", false)
  | 9 => ("PlateRings$Spun", "tenthCount", "I", false)
  | 10 => ("PlateRings$Spun", "took", "[I", true)
  | 11 => ("PlateRings$Spun", "tenthLeans", "[I", true)
  | _ => ("PlateRings$Spun", "tenthTones", "[I", true)
def tyX5 : Nat → FieldType := fun k => match k with
  | 0 => .boolean
  | 1 => .int
  | 2 => .int
  | 3 => .int
  | 4 => .int
  | 5 => .int
  | 6 => .int
  | 7 => .int
  | 8 => .long
  | 9 => .int
  | 10 => .array .int
  | 11 => .array .int
  | _ => .array .int
abbrev wsX50 : List Cond := u_ws RX5 TX5 13
theorem nmX5 : ∀ a, a < 13 → ∀ b, b < 13 → a ≠ b → (TX5 a).2.1 ≠ (TX5 b).2.1 := by decide +kernel
theorem tyX5_ok : ∀ k, k < 13 → parseFieldDescriptor (TX5 k).2.2.1 = some (tyX5 k) := by decide +kernel
def RX6 : String := "PlateRings$Text"
def TX6 : u_T := fun k => match k with
  | 0 => ("PlateRings$Text", "bytes", "[I", true)
  | 1 => ("PlateRings$Text", "codes", "[I", true)
  | 2 => ("PlateRings$Text", "length", "I", false)
  | 3 => ("PlateRings$Text", "fault", "I", false)
  | 4 => ("PlateRings$Text", "place", "I", false)
  | _ => ("PlateRings$Text", "codeCount", "I", false)
def tyX6 : Nat → FieldType := fun k => match k with
  | 0 => .array .int
  | 1 => .array .int
  | 2 => .int
  | 3 => .int
  | 4 => .int
  | _ => .int
abbrev wsX60 : List Cond := u_ws RX6 TX6 6
theorem nmX6 : ∀ a, a < 6 → ∀ b, b < 6 → a ≠ b → (TX6 a).2.1 ≠ (TX6 b).2.1 := by decide +kernel
theorem tyX6_ok : ∀ k, k < 6 → parseFieldDescriptor (TX6 k).2.2.1 = some (tyX6 k) := by decide +kernel
def RX7 : String := "PlateRings"
def TX7 : u_T := fun k => match k with
  | 0 => ("PlateRings", "text", "LPlateRings$Text;", true)
  | 1 => ("PlateRings", "refusals", "[I", true)
  | 2 => ("PlateRings", "bench", "LPlateRings$Bench;", true)
  | 3 => ("PlateRings", "kept", "LPlateRings$Bench;", true)
  | 4 => ("PlateRings", "mind", "LPlateRings$Mind;", true)
  | _ => ("PlateRings", "imageTaken", "Z", false)
def tyX7 : Nat → FieldType := fun k => match k with
  | 0 => .object "PlateRings$Text"
  | 1 => .array .int
  | 2 => .object "PlateRings$Bench"
  | 3 => .object "PlateRings$Bench"
  | 4 => .object "PlateRings$Mind"
  | _ => .boolean
abbrev wsX70 : List Cond := u_ws RX7 TX7 6
theorem nmX7 : ∀ a, a < 6 → ∀ b, b < 6 → a ≠ b → (TX7 a).2.1 ≠ (TX7 b).2.1 := by decide +kernel
theorem tyX7_ok : ∀ k, k < 6 → parseFieldDescriptor (TX7 k).2.2.1 = some (tyX7 k) := by decide +kernel
def RX8 : String := "PlateRingsModel"
def TX8 : u_T := fun k => match k with
  | 0 => ("PlateRingsModel", "refused", "[I", true)
  | 1 => ("PlateRingsModel", "tape", "[I", true)
  | 2 => ("PlateRingsModel", "weight", "[I", true)
  | 3 => ("PlateRingsModel", "width", "[I", true)
  | 4 => ("PlateRingsModel", "edge", "[I", true)
  | 5 => ("PlateRingsModel", "hole", "[I", true)
  | 6 => ("PlateRingsModel", "dish", "[I", true)
  | 7 => ("PlateRingsModel", "hard", "[I", true)
  | 8 => ("PlateRingsModel", "tilt", "[I", true)
  | 9 => ("PlateRingsModel", "taped", "I", false)
  | 10 => ("PlateRingsModel", "at", "I", false)
  | 11 => ("PlateRingsModel", "plates", "I", false)
  | 12 => ("PlateRingsModel", "isAir", "I", false)
  | 13 => ("PlateRingsModel", "kind", "[I", true)
  | 14 => ("PlateRingsModel", "from", "[I", true)
  | 15 => ("PlateRingsModel", "to", "[I", true)
  | 16 => ("PlateRingsModel", "took", "[I", true)
  | 17 => ("PlateRingsModel", "token", "[I", true)
  | 18 => ("PlateRingsModel", "lawFrom", "[I", true)
  | 19 => ("PlateRingsModel", "pending", "[I", true)
  | 20 => ("PlateRingsModel", "stack", "[I", true)
  | 21 => ("PlateRingsModel", "losses", "I", false)
  | 22 => ("PlateRingsModel", "tokens", "I", false)
  | 23 => ("PlateRingsModel", "pendings", "I", false)
  | 24 => ("PlateRingsModel", "deep", "I", false)
  | 25 => ("PlateRingsModel", "inPlate", "I", false)
  | 26 => ("PlateRingsModel", "inLean", "I", false)
  | 27 => ("PlateRingsModel", "inFloor", "I", false)
  | 28 => ("PlateRingsModel", "inSet", "I", false)
  | 29 => ("PlateRingsModel", "inTick", "I", false)
  | 30 => ("PlateRingsModel", "inAir", "I", false)
  | 31 => ("PlateRingsModel", "moreLaw", "I", false)
  | 32 => ("PlateRingsModel", "moreFrom", "I", false)
  | 33 => ("PlateRingsModel", "parts", "[I", true)
  | 34 => ("PlateRingsModel", "hasLeapt", "Z", false)
  | 35 => ("PlateRingsModel", "how", "I", false)
  | 36 => ("PlateRingsModel", "tenthLean", "[I", true)
  | 37 => ("PlateRingsModel", "tenthTone", "[I", true)
  | 38 => ("PlateRingsModel", "isSpinning", "I", false)
  | 39 => ("PlateRingsModel", "plate", "I", false)
  | 40 => ("PlateRingsModel", "lean", "I", false)
  | 41 => ("PlateRingsModel", "floor", "I", false)
  | 42 => ("PlateRingsModel", "tick", "I", false)
  | 43 => ("PlateRingsModel", "ended", "I", false)
  | 44 => ("PlateRingsModel", "first", "I", false)
  | 45 => ("PlateRingsModel", "tenths", "I", false)
  | 46 => ("PlateRingsModel", "rolled", "J", false)
  | 47 => ("PlateRingsModel", "tone", "[I", true)
  | 48 => ("PlateRingsModel", "tones", "I", false)
  | 49 => ("PlateRingsModel", "slip", "I", false)
  | 50 => ("PlateRingsModel", "legFloor", "[I", true)
  | 51 => ("PlateRingsModel", "legTicks", "[I", true)
  | 52 => ("PlateRingsModel", "legMany", "I", false)
  | 53 => ("PlateRingsModel", "kept", "[I", true)
  | 54 => ("PlateRingsModel", "hasImage", "Z", false)
  | 55 => ("PlateRingsModel", "isKeeping", "Z", false)
  | 56 => ("PlateRingsModel", "cursor", "I", false)
  | _ => ("PlateRingsModel", "keptRolled", "J", false)
def tyX8 : Nat → FieldType := fun k => match k with
  | 0 => .array .int
  | 1 => .array .int
  | 2 => .array .int
  | 3 => .array .int
  | 4 => .array .int
  | 5 => .array .int
  | 6 => .array .int
  | 7 => .array .int
  | 8 => .array .int
  | 9 => .int
  | 10 => .int
  | 11 => .int
  | 12 => .int
  | 13 => .array .int
  | 14 => .array .int
  | 15 => .array .int
  | 16 => .array .int
  | 17 => .array .int
  | 18 => .array .int
  | 19 => .array .int
  | 20 => .array .int
  | 21 => .int
  | 22 => .int
  | 23 => .int
  | 24 => .int
  | 25 => .int
  | 26 => .int
  | 27 => .int
  | 28 => .int
  | 29 => .int
  | 30 => .int
  | 31 => .int
  | 32 => .int
  | 33 => .array .int
  | 34 => .boolean
  | 35 => .int
  | 36 => .array .int
  | 37 => .array .int
  | 38 => .int
  | 39 => .int
  | 40 => .int
  | 41 => .int
  | 42 => .int
  | 43 => .int
  | 44 => .int
  | 45 => .int
  | 46 => .long
  | 47 => .array .int
  | 48 => .int
  | 49 => .int
  | 50 => .array .int
  | 51 => .array .int
  | 52 => .int
  | 53 => .array .int
  | 54 => .boolean
  | 55 => .boolean
  | 56 => .int
  | _ => .long
abbrev wsX80 : List Cond := u_ws RX8 TX8 58
theorem nmX8 : ∀ a, a < 58 → ∀ b, b < 58 → a ≠ b → (TX8 a).2.1 ≠ (TX8 b).2.1 := by decide +kernel
theorem tyX8_ok : ∀ k, k < 58 → parseFieldDescriptor (TX8 k).2.2.1 = some (tyX8 k) := by decide +kernel
abbrev vwCl : List vw_C := [(RX0, TX0, 12), (RX1, TX1, 5), (RX2, TX2, 13), (RX3, TX3, 5), (RX4, TX4, 3), (RX5, TX5, 13), (RX6, TX6, 6), (RX7, TX7, 6), (RX8, TX8, 58)]
