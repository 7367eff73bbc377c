def RX0 : String := "BangSquare$Crowd"
def TX0 : u_T := fun k => match k with
  | 0 => ("BangSquare$Crowd", "heard", "LBangSquare$Heard;", true)
  | 1 => ("BangSquare$Crowd", "laws", "[LBangSquare$Script;", true)
  | 2 => ("BangSquare$Crowd", "cells", "[I", true)
  | 3 => ("BangSquare$Crowd", "turned", "[I", true)
  | 4 => ("BangSquare$Crowd", "count", "I", false)
  | 5 => ("BangSquare$Crowd", "values", "[I", true)
  | 6 => ("BangSquare$Crowd", "sectors", "[I", true)
  | 7 => ("BangSquare$Crowd", "bangSector", "I", false)
  | 8 => ("BangSquare$Crowd", "crackSector", "I", false)
  | _ => ("BangSquare$Crowd", "wallSector", "I", false)
def tyX0 : Nat → FieldType := fun k => match k with
  | 0 => .object "BangSquare$Heard"
  | 1 => .array (.object "BangSquare$Script")
  | 2 => .array .int
  | 3 => .array .int
  | 4 => .int
  | 5 => .array .int
  | 6 => .array .int
  | 7 => .int
  | 8 => .int
  | _ => .int
theorem nmX0 : ∀ a, a < 10 → ∀ b, b < 10 → a ≠ b → (TX0 a).2.1 ≠ (TX0 b).2.1 := by decide +kernel
theorem tyX0_ok : ∀ k, k < 10 → parseFieldDescriptor (TX0 k).2.2.1 = some (tyX0 k) := by decide +kernel
theorem inX0 : ∀ w ∈ u_ws RX0 TX0 10, w ∈ lw_tbl := by decide +kernel
def RX1 : String := "BangSquare$Heard"
def TX1 : u_T := fun k => match k with
  | 0 => ("BangSquare$Heard", "square", "LBangSquare$Square;", true)
  | 1 => ("BangSquare$Heard", "near", "I", false)
  | 2 => ("BangSquare$Heard", "bangTime", "I", false)
  | 3 => ("BangSquare$Heard", "crackTime", "I", false)
  | 4 => ("BangSquare$Heard", "crackCell", "I", false)
  | 5 => ("BangSquare$Heard", "crackLoud", "I", false)
  | 6 => ("BangSquare$Heard", "backCount", "I", false)
  | 7 => ("BangSquare$Heard", "loudestWall", "I", false)
  | 8 => ("BangSquare$Heard", "backTimes", "[I", true)
  | 9 => ("BangSquare$Heard", "backLouds", "[I", true)
  | _ => ("BangSquare$Heard", "backCells", "[I", true)
def tyX1 : Nat → FieldType := fun k => match k with
  | 0 => .object "BangSquare$Square"
  | 1 => .int
  | 2 => .int
  | 3 => .int
  | 4 => .int
  | 5 => .int
  | 6 => .int
  | 7 => .int
  | 8 => .array .int
  | 9 => .array .int
  | _ => .array .int
theorem nmX1 : ∀ a, a < 11 → ∀ b, b < 11 → a ≠ b → (TX1 a).2.1 ≠ (TX1 b).2.1 := by decide +kernel
theorem tyX1_ok : ∀ k, k < 11 → parseFieldDescriptor (TX1 k).2.2.1 = some (tyX1 k) := by decide +kernel
theorem inX1 : ∀ w ∈ u_ws RX1 TX1 11, w ∈ lw_tbl := by decide +kernel
def RX2 : String := "BangSquare$Noises"
def TX2 : u_T := fun k => match k with
  | 0 => ("BangSquare$Noises", "rules", "LBangSquare$Script;", true)
  | 1 => ("BangSquare$Noises", "louds", "[I", true)
  | 2 => ("BangSquare$Noises", "lengths", "[I", true)
  | 3 => ("BangSquare$Noises", "times", "[I", true)
  | 4 => ("BangSquare$Noises", "trulies", "[I", true)
  | 5 => ("BangSquare$Noises", "count", "I", false)
  | _ => ("BangSquare$Noises", "values", "[I", true)
def tyX2 : Nat → FieldType := fun k => match k with
  | 0 => .object "BangSquare$Script"
  | 1 => .array .int
  | 2 => .array .int
  | 3 => .array .int
  | 4 => .array .int
  | 5 => .int
  | _ => .array .int
theorem nmX2 : ∀ a, a < 7 → ∀ b, b < 7 → a ≠ b → (TX2 a).2.1 ≠ (TX2 b).2.1 := by decide +kernel
theorem tyX2_ok : ∀ k, k < 7 → parseFieldDescriptor (TX2 k).2.2.1 = some (tyX2 k) := by decide +kernel
theorem inX2 : ∀ w ∈ u_ws RX2 TX2 7, w ∈ lw_tbl := by decide +kernel
def RX3 : String := "BangSquare$Reader"
def TX3 : u_T := fun k => match k with
  | 0 => ("BangSquare$Reader", "bytes", "[B", true)
  | 1 => ("BangSquare$Reader", "length", "I", false)
  | 2 => ("BangSquare$Reader", "fault", "I", false)
  | 3 => ("BangSquare$Reader", "faultPlace", "I", false)
  | 4 => ("BangSquare$Reader", "isLaw", "Z", false)
  | 5 => ("BangSquare$Reader", "at", "I", false)
  | 6 => ("BangSquare$Reader", "token", "I", false)
  | 7 => ("BangSquare$Reader", "number", "I", false)
  | 8 => ("BangSquare$Reader", "place", "I", false)
  | 9 => ("BangSquare$Reader", "state", "I", false)
  | 10 => ("BangSquare$Reader", "compared", "Z", false)
  | 11 => ("BangSquare$Reader", "lines", "I", false)
  | 12 => ("BangSquare$Reader", "outcome", "I", false)
  | 13 => ("BangSquare$Reader", "open", "I", false)
  | 14 => ("BangSquare$Reader", "brackets", "I", false)
  | 15 => ("BangSquare$Reader", "waiting", "[I", true)
  | 16 => ("BangSquare$Reader", "waitingCount", "I", false)
  | 17 => ("BangSquare$Reader", "code", "[I", true)
  | _ => ("BangSquare$Reader", "codeCount", "I", false)
def tyX3 : Nat → FieldType := fun k => match k with
  | 0 => .array .byte
  | 1 => .int
  | 2 => .int
  | 3 => .int
  | 4 => .boolean
  | 5 => .int
  | 6 => .int
  | 7 => .int
  | 8 => .int
  | 9 => .int
  | 10 => .boolean
  | 11 => .int
  | 12 => .int
  | 13 => .int
  | 14 => .int
  | 15 => .array .int
  | 16 => .int
  | 17 => .array .int
  | _ => .int
theorem nmX3 : ∀ a, a < 19 → ∀ b, b < 19 → a ≠ b → (TX3 a).2.1 ≠ (TX3 b).2.1 := by decide +kernel
theorem tyX3_ok : ∀ k, k < 19 → parseFieldDescriptor (TX3 k).2.2.1 = some (tyX3 k) := by decide +kernel
theorem inX3 : ∀ w ∈ u_ws RX3 TX3 19, w ∈ lw_tbl := by decide +kernel
def RX4 : String := "BangSquare$Roofs"
def TX4 : u_T := fun k => match k with
  | 0 => ("BangSquare$Roofs", "square", "LBangSquare$Square;", true)
  | 1 => ("BangSquare$Roofs", "spots", "[I", true)
  | 2 => ("BangSquare$Roofs", "times", "[I", true)
  | _ => ("BangSquare$Roofs", "toldApart", "[J", true)
def tyX4 : Nat → FieldType := fun k => match k with
  | 0 => .object "BangSquare$Square"
  | 1 => .array .int
  | 2 => .array .int
  | _ => .array .long
theorem nmX4 : ∀ a, a < 4 → ∀ b, b < 4 → a ≠ b → (TX4 a).2.1 ≠ (TX4 b).2.1 := by decide +kernel
theorem tyX4_ok : ∀ k, k < 4 → parseFieldDescriptor (TX4 k).2.2.1 = some (tyX4 k) := by decide +kernel
theorem inX4 : ∀ w ∈ u_ws RX4 TX4 4, w ∈ lw_tbl := by decide +kernel
def RX5 : String := "BangSquare$Script"
def TX5 : u_T := fun k => match k with
  | 0 => ("BangSquare$Script", "code", "[I", false)
  | 1 => ("BangSquare$Script", "held", "[I", true)
  | _ => ("BangSquare$Script", "heldCount", "I", false)
def tyX5 : Nat → FieldType := fun k => match k with
  | 0 => .array .int
  | 1 => .array .int
  | _ => .int
theorem nmX5 : ∀ a, a < 3 → ∀ b, b < 3 → a ≠ b → (TX5 a).2.1 ≠ (TX5 b).2.1 := by decide +kernel
theorem tyX5_ok : ∀ k, k < 3 → parseFieldDescriptor (TX5 k).2.2.1 = some (tyX5 k) := by decide +kernel
theorem inX5 : ∀ w ∈ u_ws RX5 TX5 3, w ∈ lw_tbl := by decide +kernel
def RX6 : String := "BangSquare$Shot"
def TX6 : u_T := fun k => match k with
  | 0 => ("BangSquare$Shot", "cell", "I", false)
  | 1 => ("BangSquare$Shot", "time", "I", false)
  | 2 => ("BangSquare$Shot", "aim", "I", false)
  | _ => ("BangSquare$Shot", "quick", "I", false)
def tyX6 : Nat → FieldType := fun k => match k with
  | 0 => .int
  | 1 => .int
  | 2 => .int
  | _ => .int
theorem nmX6 : ∀ a, a < 4 → ∀ b, b < 4 → a ≠ b → (TX6 a).2.1 ≠ (TX6 b).2.1 := by decide +kernel
theorem tyX6_ok : ∀ k, k < 4 → parseFieldDescriptor (TX6 k).2.2.1 = some (tyX6 k) := by decide +kernel
theorem inX6 : ∀ w ∈ u_ws RX6 TX6 4, w ∈ lw_tbl := by decide +kernel
def RX7 : String := "BangSquare$Spans"
def TX7 : u_T := fun k => match k with
  | 0 => ("BangSquare$Spans", "place", "[I", true)
  | 1 => ("BangSquare$Spans", "from", "[I", true)
  | 2 => ("BangSquare$Spans", "to", "[I", true)
  | _ => ("BangSquare$Spans", "count", "I", false)
def tyX7 : Nat → FieldType := fun k => match k with
  | 0 => .array .int
  | 1 => .array .int
  | 2 => .array .int
  | _ => .int
theorem nmX7 : ∀ a, a < 4 → ∀ b, b < 4 → a ≠ b → (TX7 a).2.1 ≠ (TX7 b).2.1 := by decide +kernel
theorem tyX7_ok : ∀ k, k < 4 → parseFieldDescriptor (TX7 k).2.2.1 = some (tyX7 k) := by decide +kernel
theorem inX7 : ∀ w ∈ u_ws RX7 TX7 4, w ∈ lw_tbl := by decide +kernel
def RX8 : String := "BangSquare$Square"
def TX8 : u_T := fun k => match k with
  | 0 => ("BangSquare$Square", "slow", "I", false)
  | 1 => ("BangSquare$Square", "windX", "I", false)
  | 2 => ("BangSquare$Square", "windY", "I", false)
  | 3 => ("BangSquare$Square", "walls", "[LBangSquare$Wall;", true)
  | _ => ("BangSquare$Square", "wallCount", "I", false)
def tyX8 : Nat → FieldType := fun k => match k with
  | 0 => .int
  | 1 => .int
  | 2 => .int
  | 3 => .array (.object "BangSquare$Wall")
  | _ => .int
theorem nmX8 : ∀ a, a < 5 → ∀ b, b < 5 → a ≠ b → (TX8 a).2.1 ≠ (TX8 b).2.1 := by decide +kernel
theorem tyX8_ok : ∀ k, k < 5 → parseFieldDescriptor (TX8 k).2.2.1 = some (tyX8 k) := by decide +kernel
theorem inX8 : ∀ w ∈ u_ws RX8 TX8 5, w ∈ lw_tbl := by decide +kernel
def RX9 : String := "BangSquare$Tape"
def TX9 : u_T := fun k => match k with
  | 0 => ("BangSquare$Tape", "heard", "LBangSquare$Heard;", true)
  | 1 => ("BangSquare$Tape", "spots", "[I", true)
  | 2 => ("BangSquare$Tape", "clicks", "[I", true)
  | 3 => ("BangSquare$Tape", "clickCount", "I", false)
  | 4 => ("BangSquare$Tape", "voices", "LBangSquare$Spans;", true)
  | 5 => ("BangSquare$Tape", "bang", "LBangSquare$Shot;", true)
  | 6 => ("BangSquare$Tape", "wallClicks", "[I", true)
  | 7 => ("BangSquare$Tape", "matched", "I", false)
  | 8 => ("BangSquare$Tape", "sounds", "I", false)
  | 9 => ("BangSquare$Tape", "bestCouple", "I", false)
  | 10 => ("BangSquare$Tape", "bestMatched", "I", false)
  | _ => ("BangSquare$Tape", "asWell", "I", false)
def tyX9 : Nat → FieldType := fun k => match k with
  | 0 => .object "BangSquare$Heard"
  | 1 => .array .int
  | 2 => .array .int
  | 3 => .int
  | 4 => .object "BangSquare$Spans"
  | 5 => .object "BangSquare$Shot"
  | 6 => .array .int
  | 7 => .int
  | 8 => .int
  | 9 => .int
  | 10 => .int
  | _ => .int
theorem nmX9 : ∀ a, a < 12 → ∀ b, b < 12 → a ≠ b → (TX9 a).2.1 ≠ (TX9 b).2.1 := by decide +kernel
theorem tyX9_ok : ∀ k, k < 12 → parseFieldDescriptor (TX9 k).2.2.1 = some (tyX9 k) := by decide +kernel
theorem inX9 : ∀ w ∈ u_ws RX9 TX9 12, w ∈ lw_tbl := by decide +kernel
def RX10 : String := "BangSquare$Wall"
def TX10 : u_T := fun k => match k with
  | 0 => ("BangSquare$Wall", "upright", "Z", false)
  | 1 => ("BangSquare$Wall", "at", "I", false)
  | 2 => ("BangSquare$Wall", "low", "I", false)
  | 3 => ("BangSquare$Wall", "high", "I", false)
  | _ => ("BangSquare$Wall", "dull", "I", false)
def tyX10 : Nat → FieldType := fun k => match k with
  | 0 => .boolean
  | 1 => .int
  | 2 => .int
  | 3 => .int
  | _ => .int
theorem nmX10 : ∀ a, a < 5 → ∀ b, b < 5 → a ≠ b → (TX10 a).2.1 ≠ (TX10 b).2.1 := by decide +kernel
theorem tyX10_ok : ∀ k, k < 5 → parseFieldDescriptor (TX10 k).2.2.1 = some (tyX10 k) := by decide +kernel
theorem inX10 : ∀ w ∈ u_ws RX10 TX10 5, w ∈ lw_tbl := by decide +kernel
def RX11 : String := "BangSquare"
def TX11 : u_T := fun k => match k with
  | 0 => ("BangSquare", "square", "LBangSquare$Square;", true)
  | 1 => ("BangSquare", "heard", "LBangSquare$Heard;", true)
  | 2 => ("BangSquare", "spots", "[I", true)
  | 3 => ("BangSquare", "shots", "[LBangSquare$Shot;", true)
  | 4 => ("BangSquare", "shotCount", "I", false)
  | 5 => ("BangSquare", "reader", "LBangSquare$Reader;", true)
  | 6 => ("BangSquare", "crowd", "LBangSquare$Crowd;", true)
  | 7 => ("BangSquare", "storySets", "[I", true)
  | 8 => ("BangSquare", "earCells", "[I", true)
  | 9 => ("BangSquare", "earSpans", "LBangSquare$Spans;", true)
  | 10 => ("BangSquare", "tapes", "[LBangSquare$Tape;", true)
  | 11 => ("BangSquare", "margin", "I", false)
  | 12 => ("BangSquare", "noiseRow", "LBangSquare$Noises;", true)
  | 13 => ("BangSquare", "trial", "LBangSquare$Shot;", true)
  | 14 => ("BangSquare", "trialAim", "I", false)
  | 15 => ("BangSquare", "trialQuick", "I", false)
  | 16 => ("BangSquare", "trialParts", "[I", true)
  | _ => ("BangSquare", "roofTable", "LBangSquare$Roofs;", true)
def tyX11 : Nat → FieldType := fun k => match k with
  | 0 => .object "BangSquare$Square"
  | 1 => .object "BangSquare$Heard"
  | 2 => .array .int
  | 3 => .array (.object "BangSquare$Shot")
  | 4 => .int
  | 5 => .object "BangSquare$Reader"
  | 6 => .object "BangSquare$Crowd"
  | 7 => .array .int
  | 8 => .array .int
  | 9 => .object "BangSquare$Spans"
  | 10 => .array (.object "BangSquare$Tape")
  | 11 => .int
  | 12 => .object "BangSquare$Noises"
  | 13 => .object "BangSquare$Shot"
  | 14 => .int
  | 15 => .int
  | 16 => .array .int
  | _ => .object "BangSquare$Roofs"
theorem nmX11 : ∀ a, a < 18 → ∀ b, b < 18 → a ≠ b → (TX11 a).2.1 ≠ (TX11 b).2.1 := by decide +kernel
theorem tyX11_ok : ∀ k, k < 18 → parseFieldDescriptor (TX11 k).2.2.1 = some (tyX11 k) := by decide +kernel
theorem inX11 : ∀ w ∈ u_ws RX11 TX11 18, w ∈ lw_tbl := by decide +kernel
def RX12 : String := "BangSquareModel"
def TX12 : u_T := fun k => match k with
  | 0 => ("BangSquareModel", "told", "I", false)
  | 1 => ("BangSquareModel", "slow", "I", false)
  | 2 => ("BangSquareModel", "windX", "I", false)
  | 3 => ("BangSquareModel", "windY", "I", false)
  | 4 => ("BangSquareModel", "margin", "I", false)
  | 5 => ("BangSquareModel", "walls", "I", false)
  | 6 => ("BangSquareModel", "isUpright", "[Z", true)
  | 7 => ("BangSquareModel", "wallAt", "[I", true)
  | 8 => ("BangSquareModel", "wallFrom", "[I", true)
  | 9 => ("BangSquareModel", "wallTo", "[I", true)
  | 10 => ("BangSquareModel", "dullOf", "[I", true)
  | 11 => ("BangSquareModel", "spotAt", "[I", true)
  | 12 => ("BangSquareModel", "shots", "I", false)
  | 13 => ("BangSquareModel", "shotAt", "[I", true)
  | 14 => ("BangSquareModel", "shotTime", "[I", true)
  | 15 => ("BangSquareModel", "shotAim", "[I", true)
  | 16 => ("BangSquareModel", "shotQuick", "[I", true)
  | 17 => ("BangSquareModel", "bang", "I", false)
  | 18 => ("BangSquareModel", "bangLoud", "I", false)
  | 19 => ("BangSquareModel", "crack", "I", false)
  | 20 => ("BangSquareModel", "crackAt", "I", false)
  | 21 => ("BangSquareModel", "crackLoud", "I", false)
  | 22 => ("BangSquareModel", "backs", "I", false)
  | 23 => ("BangSquareModel", "backTime", "[I", true)
  | 24 => ("BangSquareModel", "backLoud", "[I", true)
  | 25 => ("BangSquareModel", "backAt", "[I", true)
  | 26 => ("BangSquareModel", "tape", "[I", true)
  | 27 => ("BangSquareModel", "taped", "I", false)
  | 28 => ("BangSquareModel", "spotNow", "I", false)
  | 29 => ("BangSquareModel", "from", "I", false)
  | 30 => ("BangSquareModel", "token", "I", false)
  | 31 => ("BangSquareModel", "value", "I", false)
  | 32 => ("BangSquareModel", "words", "[I", true)
  | 33 => ("BangSquareModel", "lineMany", "[I", true)
  | 34 => ("BangSquareModel", "lineSort", "[I", true)
  | 35 => ("BangSquareModel", "lineFrom", "[I", true)
  | 36 => ("BangSquareModel", "lineTo", "[I", true)
  | 37 => ("BangSquareModel", "op", "[I", true)
  | 38 => ("BangSquareModel", "arg", "[I", true)
  | 39 => ("BangSquareModel", "isRules", "Z", false)
  | 40 => ("BangSquareModel", "many", "I", false)
  | 41 => ("BangSquareModel", "open", "I", false)
  | 42 => ("BangSquareModel", "pending", "[I", true)
  | 43 => ("BangSquareModel", "pendings", "I", false)
  | 44 => ("BangSquareModel", "readFault", "I", false)
  | 45 => ("BangSquareModel", "readPlace", "I", false)
  | 46 => ("BangSquareModel", "faultKind", "I", false)
  | 47 => ("BangSquareModel", "faultPlace", "I", false)
  | 48 => ("BangSquareModel", "asked", "[I", true)
  | 49 => ("BangSquareModel", "stack", "[I", true)
  | 50 => ("BangSquareModel", "hearers", "I", false)
  | 51 => ("BangSquareModel", "hearerAt", "[I", true)
  | 52 => ("BangSquareModel", "turnedTo", "[I", true)
  | 53 => ("BangSquareModel", "storyOf", "[I", true)
  | 54 => ("BangSquareModel", "ears", "I", false)
  | 55 => ("BangSquareModel", "earAt", "[I", true)
  | 56 => ("BangSquareModel", "gotFrom", "[I", true)
  | 57 => ("BangSquareModel", "gotTo", "[I", true)
  | 58 => ("BangSquareModel", "clickMany", "[I", true)
  | 59 => ("BangSquareModel", "clicks", "[I", true)
  | 60 => ("BangSquareModel", "having", "I", false)
  | 61 => ("BangSquareModel", "getting", "I", false)
  | 62 => ("BangSquareModel", "voiceMany", "[I", true)
  | 63 => ("BangSquareModel", "voiceLow", "[I", true)
  | 64 => ("BangSquareModel", "voiceHigh", "[I", true)
  | 65 => ("BangSquareModel", "noiseMany", "I", false)
  | 66 => ("BangSquareModel", "noiseLoud", "[I", true)
  | 67 => ("BangSquareModel", "noiseLong", "[I", true)
  | 68 => ("BangSquareModel", "noiseTime", "[I", true)
  | 69 => ("BangSquareModel", "noiseIs", "[I", true)
  | 70 => ("BangSquareModel", "ballAim", "I", false)
  | 71 => ("BangSquareModel", "ballQuick", "I", false)
  | 72 => ("BangSquareModel", "partedBy", "[I", true)
  | _ => ("BangSquareModel", "table", "[I", true)
def tyX12 : Nat → FieldType := fun k => match k with
  | 0 => .int
  | 1 => .int
  | 2 => .int
  | 3 => .int
  | 4 => .int
  | 5 => .int
  | 6 => .array .boolean
  | 7 => .array .int
  | 8 => .array .int
  | 9 => .array .int
  | 10 => .array .int
  | 11 => .array .int
  | 12 => .int
  | 13 => .array .int
  | 14 => .array .int
  | 15 => .array .int
  | 16 => .array .int
  | 17 => .int
  | 18 => .int
  | 19 => .int
  | 20 => .int
  | 21 => .int
  | 22 => .int
  | 23 => .array .int
  | 24 => .array .int
  | 25 => .array .int
  | 26 => .array .int
  | 27 => .int
  | 28 => .int
  | 29 => .int
  | 30 => .int
  | 31 => .int
  | 32 => .array .int
  | 33 => .array .int
  | 34 => .array .int
  | 35 => .array .int
  | 36 => .array .int
  | 37 => .array .int
  | 38 => .array .int
  | 39 => .boolean
  | 40 => .int
  | 41 => .int
  | 42 => .array .int
  | 43 => .int
  | 44 => .int
  | 45 => .int
  | 46 => .int
  | 47 => .int
  | 48 => .array .int
  | 49 => .array .int
  | 50 => .int
  | 51 => .array .int
  | 52 => .array .int
  | 53 => .array .int
  | 54 => .int
  | 55 => .array .int
  | 56 => .array .int
  | 57 => .array .int
  | 58 => .array .int
  | 59 => .array .int
  | 60 => .int
  | 61 => .int
  | 62 => .array .int
  | 63 => .array .int
  | 64 => .array .int
  | 65 => .int
  | 66 => .array .int
  | 67 => .array .int
  | 68 => .array .int
  | 69 => .array .int
  | 70 => .int
  | 71 => .int
  | 72 => .array .int
  | _ => .array .int
theorem nmX12 : ∀ a, a < 74 → ∀ b, b < 74 → a ≠ b → (TX12 a).2.1 ≠ (TX12 b).2.1 := by decide +kernel
theorem tyX12_ok : ∀ k, k < 74 → parseFieldDescriptor (TX12 k).2.2.1 = some (tyX12 k) := by decide +kernel
theorem inX12 : ∀ w ∈ u_ws RX12 TX12 74, w ∈ lw_tbl := by decide +kernel
abbrev classes : List vw_C := [(RX0, TX0, 10), (RX1, TX1, 11), (RX2, TX2, 7), (RX3, TX3, 19), (RX4, TX4, 4), (RX5, TX5, 3), (RX6, TX6, 4), (RX7, TX7, 4), (RX8, TX8, 5), (RX9, TX9, 12), (RX10, TX10, 5), (RX11, TX11, 18), (RX12, TX12, 74)]
theorem in_t1 {w : Cond} (h : w ∈ tables_1_1) : w ∈ lw_tbl := List.mem_append_right _ (show w ∈ tables_1 from List.mem_append_left _ (h))
theorem in_t2 {w : Cond} (h : w ∈ tables_1_2) : w ∈ lw_tbl := List.mem_append_right _ (show w ∈ tables_1 from List.mem_append_right _ (List.mem_append_left _ (h)))
theorem in_t3 {w : Cond} (h : w ∈ tables_1_3) : w ∈ lw_tbl := List.mem_append_right _ (show w ∈ tables_1 from List.mem_append_right _ (List.mem_append_right _ (List.mem_append_left _ (h))))
theorem in_t4 {w : Cond} (h : w ∈ tables_1_4) : w ∈ lw_tbl := List.mem_append_right _ (show w ∈ tables_1 from List.mem_append_right _ (List.mem_append_right _ (List.mem_append_right _ (List.mem_append_left _ (h)))))
theorem in_t5 {w : Cond} (h : w ∈ tables_1_5) : w ∈ lw_tbl := List.mem_append_right _ (show w ∈ tables_1 from List.mem_append_right _ (List.mem_append_right _ (List.mem_append_right _ (List.mem_append_right _ (List.mem_append_left _ (h))))))
theorem in_t6 {w : Cond} (h : w ∈ tables_1_6) : w ∈ lw_tbl := List.mem_append_right _ (show w ∈ tables_1 from List.mem_append_right _ (List.mem_append_right _ (List.mem_append_right _ (List.mem_append_right _ (List.mem_append_right _ (List.mem_append_left _ (h)))))))
theorem in_t7 {w : Cond} (h : w ∈ tables_1_7) : w ∈ lw_tbl := List.mem_append_right _ (show w ∈ tables_1 from List.mem_append_right _ (List.mem_append_right _ (List.mem_append_right _ (List.mem_append_right _ (List.mem_append_right _ (List.mem_append_right _ (List.mem_append_left _ (h))))))))
theorem in_t8 {w : Cond} (h : w ∈ tables_1_8) : w ∈ lw_tbl := List.mem_append_right _ (show w ∈ tables_1 from List.mem_append_right _ (List.mem_append_right _ (List.mem_append_right _ (List.mem_append_right _ (List.mem_append_right _ (List.mem_append_right _ (List.mem_append_right _ (h))))))))
def gd_tbl : List Cond := lw_tbl.filter goodWord
theorem gd_in {w : Cond} (h : w ∈ lw_tbl) (hg : goodWord w = true) : w ∈ gd_tbl := List.mem_filter.mpr ⟨h, hg⟩
theorem gd_of {w : Cond} (h : w ∈ gd_tbl) : w ∈ lw_tbl := (List.mem_filter.mp h).1
theorem gd_good : GoodIn gd_tbl gd_tbl := fun w h => ⟨h, good_of_word (List.mem_filter.mp h).2⟩
theorem igX0 : ∀ w ∈ u_ws RX0 TX0 10, w ∈ gd_tbl := fun w h => gd_in (inX0 w h) (List.all_eq_true.mp (show (u_ws RX0 TX0 10).all goodWord = true by decide +kernel) w h)
theorem igX1 : ∀ w ∈ u_ws RX1 TX1 11, w ∈ gd_tbl := fun w h => gd_in (inX1 w h) (List.all_eq_true.mp (show (u_ws RX1 TX1 11).all goodWord = true by decide +kernel) w h)
theorem igX2 : ∀ w ∈ u_ws RX2 TX2 7, w ∈ gd_tbl := fun w h => gd_in (inX2 w h) (List.all_eq_true.mp (show (u_ws RX2 TX2 7).all goodWord = true by decide +kernel) w h)
theorem igX3 : ∀ w ∈ u_ws RX3 TX3 19, w ∈ gd_tbl := fun w h => gd_in (inX3 w h) (List.all_eq_true.mp (show (u_ws RX3 TX3 19).all goodWord = true by decide +kernel) w h)
theorem igX4 : ∀ w ∈ u_ws RX4 TX4 4, w ∈ gd_tbl := fun w h => gd_in (inX4 w h) (List.all_eq_true.mp (show (u_ws RX4 TX4 4).all goodWord = true by decide +kernel) w h)
theorem igX5 : ∀ w ∈ u_ws RX5 TX5 3, w ∈ gd_tbl := fun w h => gd_in (inX5 w h) (List.all_eq_true.mp (show (u_ws RX5 TX5 3).all goodWord = true by decide +kernel) w h)
theorem igX6 : ∀ w ∈ u_ws RX6 TX6 4, w ∈ gd_tbl := fun w h => gd_in (inX6 w h) (List.all_eq_true.mp (show (u_ws RX6 TX6 4).all goodWord = true by decide +kernel) w h)
theorem igX7 : ∀ w ∈ u_ws RX7 TX7 4, w ∈ gd_tbl := fun w h => gd_in (inX7 w h) (List.all_eq_true.mp (show (u_ws RX7 TX7 4).all goodWord = true by decide +kernel) w h)
theorem igX8 : ∀ w ∈ u_ws RX8 TX8 5, w ∈ gd_tbl := fun w h => gd_in (inX8 w h) (List.all_eq_true.mp (show (u_ws RX8 TX8 5).all goodWord = true by decide +kernel) w h)
theorem igX9 : ∀ w ∈ u_ws RX9 TX9 12, w ∈ gd_tbl := fun w h => gd_in (inX9 w h) (List.all_eq_true.mp (show (u_ws RX9 TX9 12).all goodWord = true by decide +kernel) w h)
theorem igX10 : ∀ w ∈ u_ws RX10 TX10 5, w ∈ gd_tbl := fun w h => gd_in (inX10 w h) (List.all_eq_true.mp (show (u_ws RX10 TX10 5).all goodWord = true by decide +kernel) w h)
theorem igX11 : ∀ w ∈ u_ws RX11 TX11 18, w ∈ gd_tbl := fun w h => gd_in (inX11 w h) (List.all_eq_true.mp (show (u_ws RX11 TX11 18).all goodWord = true by decide +kernel) w h)
theorem igX12 : ∀ w ∈ u_ws RX12 TX12 74, w ∈ gd_tbl := fun w h => gd_in (inX12 w h) (List.all_eq_true.mp (show (u_ws RX12 TX12 74).all goodWord = true by decide +kernel) w h)
def nst : List (String × Nat × MethodName × String) := [("BangSquare", 41, ⟨"BangSquare$Shot", "<init>", "()V"⟩, "BangSquare"), ("BangSquare", 44, ⟨"BangSquare$Reader", "<init>", "()V"⟩, "BangSquare"), ("BangSquare$Crowd", 51, ⟨"BangSquare", "loudness", "(I)I"⟩, "BangSquare"), ("BangSquare$Crowd", 72, ⟨"BangSquare", "sectorOf", "(II)I"⟩, "BangSquare"), ("BangSquare$Heard", 31, ⟨"BangSquare", "between", "(II)I"⟩, "BangSquare"), ("BangSquare$Heard", 68, ⟨"BangSquare", "column", "(I)I"⟩, "BangSquare"), ("BangSquare$Heard", 72, ⟨"BangSquare", "row", "(I)I"⟩, "BangSquare"), ("BangSquare$Heard", 89, ⟨"BangSquare", "loudness", "(I)I"⟩, "BangSquare"), ("BangSquare$Reader", 124, ⟨"BangSquare", "within", "(III)Z"⟩, "BangSquare"), ("BangSquare$Square", 21, ⟨"BangSquare$Wall", "<init>", "()V"⟩, "BangSquare"), ("BangSquare$Square", 22, ⟨"BangSquare", "column", "(I)I"⟩, "BangSquare"), ("BangSquare$Square", 26, ⟨"BangSquare", "row", "(I)I"⟩, "BangSquare"), ("BangSquare$Square", 41, ⟨"BangSquare", "distance", "(II)I"⟩, "BangSquare"), ("BangSquare$Tape", 33, ⟨"BangSquare$Shot", "<init>", "()V"⟩, "BangSquare"), ("BangSquare$Tape", 99, ⟨"BangSquare", "unionOf", "([II)I"⟩, "BangSquare"), ("BangSquare$Tape", 103, ⟨"BangSquare", "isFewer", "(II)Z"⟩, "BangSquare"), ("BangSquare$Wall", 28, ⟨"BangSquare", "column", "(I)I"⟩, "BangSquare"), ("BangSquare$Wall", 32, ⟨"BangSquare", "row", "(I)I"⟩, "BangSquare"), ("BangSquare$Wall", 46, ⟨"BangSquare", "distance", "(II)I"⟩, "BangSquare")]
def arw : List String := ["BangSquare$Wall", "BangSquare$Shot", "BangSquare$Script", "BangSquare$Tape"]
