def RX0 : String := "CrowRota$Hours"
def TX0 : u_T := fun k => match k with
  | 0 => ("CrowRota$Hours", "plan", "LCrowRota$Plan;", false)
  | 1 => ("CrowRota$Hours", "twist", "LCrowRota$Twist;", true)
  | 2 => ("CrowRota$Hours", "names", "[J", true)
  | 3 => ("CrowRota$Hours", "stack", "[J", true)
  | 4 => ("CrowRota$Hours", "memo", "[I", true)
  | 5 => ("CrowRota$Hours", "remembering", "Z", false)
  | _ => ("CrowRota$Hours", "memoRow", "I", false)
def tyX0 : Nat → FieldType := fun k => match k with
  | 0 => .object "CrowRota$Plan"
  | 1 => .object "CrowRota$Twist"
  | 2 => .array .long
  | 3 => .array .long
  | 4 => .array .int
  | 5 => .boolean
  | _ => .int
abbrev wsX00 : List Cond := u_ws RX0 TX0 7
theorem nmX0 : ∀ a, a < 7 → ∀ b, b < 7 → a ≠ b → (TX0 a).2.1 ≠ (TX0 b).2.1 := by decide +kernel
theorem tyX0_ok : ∀ k, k < 7 → parseFieldDescriptor (TX0 k).2.2.1 = some (tyX0 k) := by decide +kernel

def RX1 : String := "CrowRota$Law"
def TX1 : u_T := fun k => match k with
  | 0 => ("CrowRota$Law", "size", "I", false)
  | 1 => ("CrowRota$Law", "kind", "[I", true)
  | _ => ("CrowRota$Law", "value", "[I", true)
def tyX1 : Nat → FieldType := fun k => match k with
  | 0 => .int
  | 1 => .array .int
  | _ => .array .int
abbrev wsX10 : List Cond := u_ws RX1 TX1 3
theorem nmX1 : ∀ a, a < 3 → ∀ b, b < 3 → a ≠ b → (TX1 a).2.1 ≠ (TX1 b).2.1 := by decide +kernel
theorem tyX1_ok : ∀ k, k < 3 → parseFieldDescriptor (TX1 k).2.2.1 = some (tyX1 k) := by decide +kernel

def RX2 : String := "CrowRota$Lot"
def TX2 : u_T := fun k => match k with
  | 0 => ("CrowRota$Lot", "eaten", "[I", true)
  | 1 => ("CrowRota$Lot", "odds", "I", false)
  | 2 => ("CrowRota$Lot", "oddsOf", "I", false)
  | 3 => ("CrowRota$Lot", "mean", "I", false)
  | _ => ("CrowRota$Lot", "meanOf", "I", false)
def tyX2 : Nat → FieldType := fun k => match k with
  | 0 => .array .int
  | 1 => .int
  | 2 => .int
  | 3 => .int
  | _ => .int
abbrev wsX20 : List Cond := u_ws RX2 TX2 5
theorem nmX2 : ∀ a, a < 5 → ∀ b, b < 5 → a ≠ b → (TX2 a).2.1 ≠ (TX2 b).2.1 := by decide +kernel
theorem tyX2_ok : ∀ k, k < 5 → parseFieldDescriptor (TX2 k).2.2.1 = some (tyX2 k) := by decide +kernel

def RX3 : String := "CrowRota$Notes"
def TX3 : u_T := fun k => match k with
  | 0 => ("CrowRota$Notes", "size", "I", false)
  | 1 => ("CrowRota$Notes", "knownBy", "I", false)
  | 2 => ("CrowRota$Notes", "kind", "[I", true)
  | 3 => ("CrowRota$Notes", "hours", "[I", true)
  | 4 => ("CrowRota$Notes", "about", "[I", true)
  | _ => ("CrowRota$Notes", "crop", "[I", true)
def tyX3 : Nat → FieldType := fun k => match k with
  | 0 => .int
  | 1 => .int
  | 2 => .array .int
  | 3 => .array .int
  | 4 => .array .int
  | _ => .array .int
abbrev wsX30 : List Cond := u_ws RX3 TX3 6
theorem nmX3 : ∀ a, a < 6 → ∀ b, b < 6 → a ≠ b → (TX3 a).2.1 ≠ (TX3 b).2.1 := by decide +kernel
theorem tyX3_ok : ∀ k, k < 6 → parseFieldDescriptor (TX3 k).2.2.1 = some (tyX3 k) := by decide +kernel

def RX4 : String := "CrowRota$Plan"
def TX4 : u_T := fun k => match k with
  | 0 => ("CrowRota$Plan", "lines", "I", false)
  | 1 => ("CrowRota$Plan", "wide", "I", false)
  | 2 => ("CrowRota$Plan", "high", "I", false)
  | 3 => ("CrowRota$Plan", "crop", "[I", true)
  | 4 => ("CrowRota$Plan", "scares", "I", false)
  | 5 => ("CrowRota$Plan", "name", "[I", true)
  | 6 => ("CrowRota$Plan", "at", "[I", true)
  | 7 => ("CrowRota$Plan", "sight", "[I", true)
  | 8 => ("CrowRota$Plan", "pay", "[I", true)
  | 9 => ("CrowRota$Plan", "grade", "[I", true)
  | 10 => ("CrowRota$Plan", "rota", "[I", true)
  | 11 => ("CrowRota$Plan", "flaps", "I", false)
  | 12 => ("CrowRota$Plan", "winds", "I", false)
  | 13 => ("CrowRota$Plan", "wind", "[I", true)
  | 14 => ("CrowRota$Plan", "most", "I", false)
  | 15 => ("CrowRota$Plan", "crows", "I", false)
  | 16 => ("CrowRota$Plan", "gust", "I", false)
  | 17 => ("CrowRota$Plan", "knots", "I", false)
  | _ => ("CrowRota$Plan", "laws", "[LCrowRota$Law;", true)
def tyX4 : Nat → FieldType := fun k => match k with
  | 0 => .int
  | 1 => .int
  | 2 => .int
  | 3 => .array .int
  | 4 => .int
  | 5 => .array .int
  | 6 => .array .int
  | 7 => .array .int
  | 8 => .array .int
  | 9 => .array .int
  | 10 => .array .int
  | 11 => .int
  | 12 => .int
  | 13 => .array .int
  | 14 => .int
  | 15 => .int
  | 16 => .int
  | 17 => .int
  | _ => .array (.object "CrowRota$Law")
abbrev wsX40 : List Cond := u_ws RX4 TX4 19
theorem nmX4 : ∀ a, a < 19 → ∀ b, b < 19 → a ≠ b → (TX4 a).2.1 ≠ (TX4 b).2.1 := by decide +kernel
theorem tyX4_ok : ∀ k, k < 19 → parseFieldDescriptor (TX4 k).2.2.1 = some (tyX4 k) := by decide +kernel

def RX5 : String := "CrowRota$Reader"
def TX5 : u_T := fun k => match k with
  | 0 => ("CrowRota$Reader", "tokens", "LCrowRota$Tokens;", true)
  | 1 => ("CrowRota$Reader", "plan", "LCrowRota$Plan;", false)
  | 2 => ("CrowRota$Reader", "toldWords", "I", false)
  | 3 => ("CrowRota$Reader", "toldCells", "I", false)
  | 4 => ("CrowRota$Reader", "cropLines", "I", false)
  | 5 => ("CrowRota$Reader", "cells", "Z", false)
  | 6 => ("CrowRota$Reader", "rule", "I", false)
  | 7 => ("CrowRota$Reader", "fault", "I", false)
  | _ => ("CrowRota$Reader", "faultPlace", "I", false)
def tyX5 : Nat → FieldType := fun k => match k with
  | 0 => .object "CrowRota$Tokens"
  | 1 => .object "CrowRota$Plan"
  | 2 => .int
  | 3 => .int
  | 4 => .int
  | 5 => .boolean
  | 6 => .int
  | 7 => .int
  | _ => .int
abbrev wsX50 : List Cond := u_ws RX5 TX5 9
theorem nmX5 : ∀ a, a < 9 → ∀ b, b < 9 → a ≠ b → (TX5 a).2.1 ≠ (TX5 b).2.1 := by decide +kernel
theorem tyX5_ok : ∀ k, k < 9 → parseFieldDescriptor (TX5 k).2.2.1 = some (tyX5 k) := by decide +kernel

def RX6 : String := "CrowRota$State"
def TX6 : u_T := fun k => match k with
  | 0 => ("CrowRota$State", "day", "I", false)
  | 1 => ("CrowRota$State", "hour", "I", false)
  | 2 => ("CrowRota$State", "crop", "[I", true)
  | 3 => ("CrowRota$State", "seen", "[I", true)
  | 4 => ("CrowRota$State", "rota", "[I", true)
  | 5 => ("CrowRota$State", "grade", "[I", true)
  | 6 => ("CrowRota$State", "flapped", "[I", true)
  | 7 => ("CrowRota$State", "strikes", "I", false)
  | 8 => ("CrowRota$State", "eaten", "I", false)
  | 9 => ("CrowRota$State", "spent", "I", false)
  | _ => ("CrowRota$State", "scared", "I", false)
def tyX6 : Nat → FieldType := fun k => match k with
  | 0 => .int
  | 1 => .int
  | 2 => .array .int
  | 3 => .array .int
  | 4 => .array .int
  | 5 => .array .int
  | 6 => .array .int
  | 7 => .int
  | 8 => .int
  | 9 => .int
  | _ => .int
abbrev wsX60 : List Cond := u_ws RX6 TX6 11
theorem nmX6 : ∀ a, a < 11 → ∀ b, b < 11 → a ≠ b → (TX6 a).2.1 ≠ (TX6 b).2.1 := by decide +kernel
theorem tyX6_ok : ∀ k, k < 11 → parseFieldDescriptor (TX6 k).2.2.1 = some (tyX6 k) := by decide +kernel

def RX7 : String := "CrowRota$Steps"
def TX7 : u_T := fun k => match k with
  | 0 => ("CrowRota$Steps", "size", "I", false)
  | 1 => ("CrowRota$Steps", "kind", "[I", true)
  | 2 => ("CrowRota$Steps", "scare", "[I", true)
  | _ => ("CrowRota$Steps", "old", "[I", true)
def tyX7 : Nat → FieldType := fun k => match k with
  | 0 => .int
  | 1 => .array .int
  | 2 => .array .int
  | _ => .array .int
abbrev wsX70 : List Cond := u_ws RX7 TX7 4
theorem nmX7 : ∀ a, a < 4 → ∀ b, b < 4 → a ≠ b → (TX7 a).2.1 ≠ (TX7 b).2.1 := by decide +kernel
theorem tyX7_ok : ∀ k, k < 4 → parseFieldDescriptor (TX7 k).2.2.1 = some (tyX7 k) := by decide +kernel

def RX8 : String := "CrowRota$Tokens"
def TX8 : u_T := fun k => match k with
  | 0 => ("CrowRota$Tokens", "tape", "[I", true)
  | 1 => ("CrowRota$Tokens", "words", "[I", true)
  | 2 => ("CrowRota$Tokens", "length", "I", false)
  | 3 => ("CrowRota$Tokens", "next", "I", false)
  | 4 => ("CrowRota$Tokens", "kind", "I", false)
  | 5 => ("CrowRota$Tokens", "value", "I", false)
  | _ => ("CrowRota$Tokens", "place", "I", false)
def tyX8 : Nat → FieldType := fun k => match k with
  | 0 => .array .int
  | 1 => .array .int
  | 2 => .int
  | 3 => .int
  | 4 => .int
  | 5 => .int
  | _ => .int
abbrev wsX80 : List Cond := u_ws RX8 TX8 7
theorem nmX8 : ∀ a, a < 7 → ∀ b, b < 7 → a ≠ b → (TX8 a).2.1 ≠ (TX8 b).2.1 := by decide +kernel
theorem tyX8_ok : ∀ k, k < 7 → parseFieldDescriptor (TX8 k).2.2.1 = some (tyX8 k) := by decide +kernel

def RX9 : String := "CrowRota$Twist"
def TX9 : u_T := fun k => match k with
  | 0 => ("CrowRota$Twist", "bold", "Z", false)
  | 1 => ("CrowRota$Twist", "gone", "I", false)
  | 2 => ("CrowRota$Twist", "sightMore", "I", false)
  | 3 => ("CrowRota$Twist", "allFlap", "Z", false)
  | 4 => ("CrowRota$Twist", "allHours", "Z", false)
  | 5 => ("CrowRota$Twist", "drawn", "Z", false)
  | 6 => ("CrowRota$Twist", "today", "I", false)
  | _ => ("CrowRota$Twist", "winds", "[I", true)
def tyX9 : Nat → FieldType := fun k => match k with
  | 0 => .boolean
  | 1 => .int
  | 2 => .int
  | 3 => .boolean
  | 4 => .boolean
  | 5 => .boolean
  | 6 => .int
  | _ => .array .int
abbrev wsX90 : List Cond := u_ws RX9 TX9 8
theorem nmX9 : ∀ a, a < 8 → ∀ b, b < 8 → a ≠ b → (TX9 a).2.1 ≠ (TX9 b).2.1 := by decide +kernel
theorem tyX9_ok : ∀ k, k < 8 → parseFieldDescriptor (TX9 k).2.2.1 = some (tyX9 k) := by decide +kernel

def RX10 : String := "CrowRota"
def TX10 : u_T := fun k => match k with
  | 0 => ("CrowRota", "reader", "LCrowRota$Reader;", true)
  | 1 => ("CrowRota", "tapeLength", "I", false)
  | 2 => ("CrowRota", "plan", "LCrowRota$Plan;", false)
  | 3 => ("CrowRota", "sparePlan", "LCrowRota$Plan;", false)
  | 4 => ("CrowRota", "hours", "LCrowRota$Hours;", true)
  | 5 => ("CrowRota", "now", "LCrowRota$State;", true)
  | 6 => ("CrowRota", "image", "LCrowRota$State;", true)
  | 7 => ("CrowRota", "trial", "LCrowRota$State;", true)
  | 8 => ("CrowRota", "hasImage", "Z", false)
  | 9 => ("CrowRota", "steps", "LCrowRota$Steps;", true)
  | 10 => ("CrowRota", "notes", "LCrowRota$Notes;", true)
  | 11 => ("CrowRota", "lots", "LCrowRota$Lot;", true)
  | _ => ("CrowRota", "views", "[I", true)
def tyX10 : Nat → FieldType := fun k => match k with
  | 0 => .object "CrowRota$Reader"
  | 1 => .int
  | 2 => .object "CrowRota$Plan"
  | 3 => .object "CrowRota$Plan"
  | 4 => .object "CrowRota$Hours"
  | 5 => .object "CrowRota$State"
  | 6 => .object "CrowRota$State"
  | 7 => .object "CrowRota$State"
  | 8 => .boolean
  | 9 => .object "CrowRota$Steps"
  | 10 => .object "CrowRota$Notes"
  | 11 => .object "CrowRota$Lot"
  | _ => .array .int
abbrev wsX100 : List Cond := u_ws RX10 TX10 13
theorem nmX10 : ∀ a, a < 13 → ∀ b, b < 13 → a ≠ b → (TX10 a).2.1 ≠ (TX10 b).2.1 := by decide +kernel
theorem tyX10_ok : ∀ k, k < 13 → parseFieldDescriptor (TX10 k).2.2.1 = some (tyX10 k) := by decide +kernel

def RX11 : String := "CrowRotaModel"
def TX11 : u_T := fun k => match k with
  | 0 => ("CrowRotaModel", "thrown", "I", false)
  | 1 => ("CrowRotaModel", "tape", "[I", true)
  | 2 => ("CrowRotaModel", "taped", "I", false)
  | 3 => ("CrowRotaModel", "number", "[I", true)
  | 4 => ("CrowRotaModel", "cropAs", "[I", true)
  | 5 => ("CrowRotaModel", "scareName", "[I", true)
  | 6 => ("CrowRotaModel", "scareAt", "[I", true)
  | 7 => ("CrowRotaModel", "sight", "[I", true)
  | 8 => ("CrowRotaModel", "payAs", "[I", true)
  | 9 => ("CrowRotaModel", "gradeAs", "[I", true)
  | 10 => ("CrowRotaModel", "rotaAs", "[I", true)
  | 11 => ("CrowRotaModel", "windAs", "[I", true)
  | 12 => ("CrowRotaModel", "sumFrom", "[I", true)
  | 13 => ("CrowRotaModel", "sumTo", "[I", true)
  | 14 => ("CrowRotaModel", "knotSort", "[I", true)
  | 15 => ("CrowRotaModel", "knotValue", "[I", true)
  | 16 => ("CrowRotaModel", "told", "I", false)
  | 17 => ("CrowRotaModel", "lines", "I", false)
  | 18 => ("CrowRotaModel", "size", "I", false)
  | 19 => ("CrowRotaModel", "at", "I", false)
  | 20 => ("CrowRotaModel", "place", "I", false)
  | 21 => ("CrowRotaModel", "sort", "I", false)
  | 22 => ("CrowRotaModel", "value", "I", false)
  | 23 => ("CrowRotaModel", "fault", "I", false)
  | 24 => ("CrowRotaModel", "faultPlace", "I", false)
  | 25 => ("CrowRotaModel", "lastFault", "I", false)
  | 26 => ("CrowRotaModel", "lastPlace", "I", false)
  | 27 => ("CrowRotaModel", "open", "I", false)
  | 28 => ("CrowRotaModel", "counted", "I", false)
  | 29 => ("CrowRotaModel", "names", "[J", true)
  | 30 => ("CrowRotaModel", "worked", "[J", true)
  | 31 => ("CrowRotaModel", "workedMany", "I", false)
  | 32 => ("CrowRotaModel", "day", "[I", true)
  | 33 => ("CrowRotaModel", "hour", "[I", true)
  | 34 => ("CrowRotaModel", "eaten", "[I", true)
  | 35 => ("CrowRotaModel", "spent", "[I", true)
  | 36 => ("CrowRotaModel", "scared", "[I", true)
  | 37 => ("CrowRotaModel", "strikes", "[I", true)
  | 38 => ("CrowRotaModel", "crop", "[I", true)
  | 39 => ("CrowRotaModel", "seen", "[I", true)
  | 40 => ("CrowRotaModel", "flapped", "[I", true)
  | 41 => ("CrowRotaModel", "rota", "[I", true)
  | 42 => ("CrowRotaModel", "grade", "[I", true)
  | 43 => ("CrowRotaModel", "drawnWind", "[I", true)
  | 44 => ("CrowRotaModel", "drawnFrom", "I", false)
  | 45 => ("CrowRotaModel", "hasImage", "Z", false)
  | 46 => ("CrowRotaModel", "undoMany", "I", false)
  | 47 => ("CrowRotaModel", "tryWhat", "I", false)
  | 48 => ("CrowRotaModel", "tryScare", "I", false)
  | 49 => ("CrowRotaModel", "bestBits", "I", false)
  | 50 => ("CrowRotaModel", "bestEaten", "I", false)
  | 51 => ("CrowRotaModel", "seesOf", "[I", true)
  | 52 => ("CrowRotaModel", "lots", "[I", true)
  | 53 => ("CrowRotaModel", "oddsAbove", "J", false)
  | 54 => ("CrowRotaModel", "oddsBelow", "J", false)
  | 55 => ("CrowRotaModel", "meanAbove", "J", false)
  | 56 => ("CrowRotaModel", "meanBelow", "J", false)
  | 57 => ("CrowRotaModel", "part", "[I", true)
  | 58 => ("CrowRotaModel", "cutOff", "[I", true)
  | 59 => ("CrowRotaModel", "notes", "I", false)
  | 60 => ("CrowRotaModel", "knownBy", "I", false)
  | 61 => ("CrowRotaModel", "noteHours", "[I", true)
  | 62 => ("CrowRotaModel", "noteCell", "[I", true)
  | 63 => ("CrowRotaModel", "noteCrop", "[I", true)
  | 64 => ("CrowRotaModel", "noteAtLeast", "[Z", true)
  | 65 => ("CrowRotaModel", "outs", "[I", true)
  | _ => ("CrowRotaModel", "isOut", "[Z", true)
def tyX11 : Nat → FieldType := fun k => match k with
  | 0 => .int
  | 1 => .array .int
  | 2 => .int
  | 3 => .array .int
  | 4 => .array .int
  | 5 => .array .int
  | 6 => .array .int
  | 7 => .array .int
  | 8 => .array .int
  | 9 => .array .int
  | 10 => .array .int
  | 11 => .array .int
  | 12 => .array .int
  | 13 => .array .int
  | 14 => .array .int
  | 15 => .array .int
  | 16 => .int
  | 17 => .int
  | 18 => .int
  | 19 => .int
  | 20 => .int
  | 21 => .int
  | 22 => .int
  | 23 => .int
  | 24 => .int
  | 25 => .int
  | 26 => .int
  | 27 => .int
  | 28 => .int
  | 29 => .array .long
  | 30 => .array .long
  | 31 => .int
  | 32 => .array .int
  | 33 => .array .int
  | 34 => .array .int
  | 35 => .array .int
  | 36 => .array .int
  | 37 => .array .int
  | 38 => .array .int
  | 39 => .array .int
  | 40 => .array .int
  | 41 => .array .int
  | 42 => .array .int
  | 43 => .array .int
  | 44 => .int
  | 45 => .boolean
  | 46 => .int
  | 47 => .int
  | 48 => .int
  | 49 => .int
  | 50 => .int
  | 51 => .array .int
  | 52 => .array .int
  | 53 => .long
  | 54 => .long
  | 55 => .long
  | 56 => .long
  | 57 => .array .int
  | 58 => .array .int
  | 59 => .int
  | 60 => .int
  | 61 => .array .int
  | 62 => .array .int
  | 63 => .array .int
  | 64 => .array .boolean
  | 65 => .array .int
  | _ => .array .boolean
abbrev wsX110 : List Cond := u_ws RX11 TX11 67
theorem nmX11 : ∀ a, a < 67 → ∀ b, b < 67 → a ≠ b → (TX11 a).2.1 ≠ (TX11 b).2.1 := by decide +kernel
theorem tyX11_ok : ∀ k, k < 67 → parseFieldDescriptor (TX11 k).2.2.1 = some (tyX11 k) := by decide +kernel

abbrev jcls : List vw_C := [(RX0, TX0, 7), (RX1, TX1, 3), (RX2, TX2, 5), (RX3, TX3, 6), (RX4, TX4, 19), (RX5, TX5, 9), (RX6, TX6, 11), (RX7, TX7, 4), (RX8, TX8, 7), (RX9, TX9, 8), (RX10, TX10, 13), (RX11, TX11, 67)]
