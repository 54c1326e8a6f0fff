def RX0 : String := "YearFigures$Archive"
def TX0 : u_T := fun k => match k with
  | 0 => ("YearFigures$Archive", "county", "[I", true)
  | 1 => ("YearFigures$Archive", "age", "[I", true)
  | 2 => ("YearFigures$Archive", "hour", "[I", true)
  | 3 => ("YearFigures$Archive", "kind", "[I", true)
  | 4 => ("YearFigures$Archive", "ofAge", "[I", true)
  | 5 => ("YearFigures$Archive", "partner", "[I", true)
  | 6 => ("YearFigures$Archive", "told", "I", false)
  | 7 => ("YearFigures$Archive", "ofKind", "I", false)
  | 8 => ("YearFigures$Archive", "windowFrom", "I", false)
  | 9 => ("YearFigures$Archive", "windowTo", "I", false)
  | _ => ("YearFigures$Archive", "seen", "I", false)
def tyX0 : Nat → FieldType := fun k => match k with
  | 0 => .array .int
  | 1 => .array .int
  | 2 => .array .int
  | 3 => .array .int
  | 4 => .array .int
  | 5 => .array .int
  | 6 => .int
  | 7 => .int
  | 8 => .int
  | 9 => .int
  | _ => .int
theorem nmX0 : ∀ a, a < 11 → ∀ b, b < 11 → a ≠ b → (TX0 a).2.1 ≠ (TX0 b).2.1 := by decide +kernel
theorem tyX0_ok : ∀ k, k < 11 → parseFieldDescriptor (TX0 k).2.2.1 = some (tyX0 k) := by decide +kernel
def RX1 : String := "YearFigures$Books"
def TX1 : u_T := fun k => match k with
  | 0 => ("YearFigures$Books", "counts", "[I", true)
  | 1 => ("YearFigures$Books", "sums", "[I", true)
  | 2 => ("YearFigures$Books", "history", "[I", true)
  | 3 => ("YearFigures$Books", "published", "[I", true)
  | 4 => ("YearFigures$Books", "month", "I", false)
  | 5 => ("YearFigures$Books", "year", "I", false)
  | 6 => ("YearFigures$Books", "daysLeft", "I", false)
  | 7 => ("YearFigures$Books", "cameOut", "I", false)
  | _ => ("YearFigures$Books", "drawn", "I", false)
def tyX1 : Nat → FieldType := fun k => match k with
  | 0 => .array .int
  | 1 => .array .int
  | 2 => .array .int
  | 3 => .array .int
  | 4 => .int
  | 5 => .int
  | 6 => .int
  | 7 => .int
  | _ => .int
theorem nmX1 : ∀ a, a < 9 → ∀ b, b < 9 → a ≠ b → (TX1 a).2.1 ≠ (TX1 b).2.1 := by decide +kernel
theorem tyX1_ok : ∀ k, k < 9 → parseFieldDescriptor (TX1 k).2.2.1 = some (tyX1 k) := by decide +kernel
def RX2 : String := "YearFigures$Calendar"
def TX2 : u_T := fun k => match k with
  | 0 => ("YearFigures$Calendar", "office", "LYearFigures$Office;", true)
  | 1 => ("YearFigures$Calendar", "rules", "LYearFigures$Program;", true)
  | 2 => ("YearFigures$Calendar", "machine", "LYearFigures$Machine;", true)
  | 3 => ("YearFigures$Calendar", "needs", "[I", true)
  | 4 => ("YearFigures$Calendar", "happened", "I", false)
  | 5 => ("YearFigures$Calendar", "daysUsed", "I", false)
  | 6 => ("YearFigures$Calendar", "made", "I", false)
  | 7 => ("YearFigures$Calendar", "plan", "I", false)
  | 8 => ("YearFigures$Calendar", "planDays", "I", false)
  | _ => ("YearFigures$Calendar", "leastDays", "I", false)
def tyX2 : Nat → FieldType := fun k => match k with
  | 0 => .object "YearFigures$Office"
  | 1 => .object "YearFigures$Program"
  | 2 => .object "YearFigures$Machine"
  | 3 => .array .int
  | 4 => .int
  | 5 => .int
  | 6 => .int
  | 7 => .int
  | 8 => .int
  | _ => .int
theorem nmX2 : ∀ a, a < 10 → ∀ b, b < 10 → a ≠ b → (TX2 a).2.1 ≠ (TX2 b).2.1 := by decide +kernel
theorem tyX2_ok : ∀ k, k < 10 → parseFieldDescriptor (TX2 k).2.2.1 = some (tyX2 k) := by decide +kernel
def RX3 : String := "YearFigures$Corrections"
def TX3 : u_T := fun k => match k with
  | 0 => ("YearFigures$Corrections", "rest", "[I", true)
  | 1 => ("YearFigures$Corrections", "columnOff", "[I", true)
  | 2 => ("YearFigures$Corrections", "row", "[I", true)
  | 3 => ("YearFigures$Corrections", "levels", "[I", true)
  | 4 => ("YearFigures$Corrections", "tail", "[I", true)
  | 5 => ("YearFigures$Corrections", "risen", "[I", true)
  | 6 => ("YearFigures$Corrections", "cells", "I", false)
  | 7 => ("YearFigures$Corrections", "columns", "I", false)
  | 8 => ("YearFigures$Corrections", "tableOff", "I", false)
  | 9 => ("YearFigures$Corrections", "tableUp", "I", false)
  | _ => ("YearFigures$Corrections", "riseCost", "I", false)
def tyX3 : Nat → FieldType := fun k => match k with
  | 0 => .array .int
  | 1 => .array .int
  | 2 => .array .int
  | 3 => .array .int
  | 4 => .array .int
  | 5 => .array .int
  | 6 => .int
  | 7 => .int
  | 8 => .int
  | 9 => .int
  | _ => .int
theorem nmX3 : ∀ a, a < 11 → ∀ b, b < 11 → a ≠ b → (TX3 a).2.1 ≠ (TX3 b).2.1 := by decide +kernel
theorem tyX3_ok : ∀ k, k < 11 → parseFieldDescriptor (TX3 k).2.2.1 = some (tyX3 k) := by decide +kernel
def RX4 : String := "YearFigures$Machine"
def TX4 : u_T := fun k => match k with
  | 0 => ("YearFigures$Machine", "values", "[I", true)
  | _ => ("YearFigures$Machine", "stack", "[I", true)
def tyX4 : Nat → FieldType := fun k => match k with
  | 0 => .array .int
  | _ => .array .int
theorem nmX4 : ∀ a, a < 2 → ∀ b, b < 2 → a ≠ b → (TX4 a).2.1 ≠ (TX4 b).2.1 := by decide +kernel
theorem tyX4_ok : ∀ k, k < 2 → parseFieldDescriptor (TX4 k).2.2.1 = some (tyX4 k) := by decide +kernel
def RX5 : String := "YearFigures$Office"
def TX5 : u_T := fun k => match k with
  | 0 => ("YearFigures$Office", "people", "[I", true)
  | 1 => ("YearFigures$Office", "target", "[I", true)
  | 2 => ("YearFigures$Office", "neighbours", "[I", true)
  | 3 => ("YearFigures$Office", "toldCounties", "I", false)
  | 4 => ("YearFigures$Office", "toldFigures", "I", false)
  | _ => ("YearFigures$Office", "staffDays", "I", false)
def tyX5 : Nat → FieldType := fun k => match k with
  | 0 => .array .int
  | 1 => .array .int
  | 2 => .array .int
  | 3 => .int
  | 4 => .int
  | _ => .int
theorem nmX5 : ∀ a, a < 6 → ∀ b, b < 6 → a ≠ b → (TX5 a).2.1 ≠ (TX5 b).2.1 := by decide +kernel
theorem tyX5_ok : ∀ k, k < 6 → parseFieldDescriptor (TX5 k).2.2.1 = some (tyX5 k) := by decide +kernel
def RX6 : String := "YearFigures$Parser"
def TX6 : u_T := fun k => match k with
  | 0 => ("YearFigures$Parser", "text", "LYearFigures$Tape;", true)
  | _ => ("YearFigures$Parser", "into", "LYearFigures$Program;", true)
def tyX6 : Nat → FieldType := fun k => match k with
  | 0 => .object "YearFigures$Tape"
  | _ => .object "YearFigures$Program"
theorem nmX6 : ∀ a, a < 2 → ∀ b, b < 2 → a ≠ b → (TX6 a).2.1 ≠ (TX6 b).2.1 := by decide +kernel
theorem tyX6_ok : ∀ k, k < 2 → parseFieldDescriptor (TX6 k).2.2.1 = some (tyX6 k) := by decide +kernel
def RX7 : String := "YearFigures$Program"
def TX7 : u_T := fun k => match k with
  | 0 => ("YearFigures$Program", "steps", "[I", true)
  | 1 => ("YearFigures$Program", "arguments", "[I", true)
  | 2 => ("YearFigures$Program", "letter", "[I", true)
  | 3 => ("YearFigures$Program", "startOfE", "[I", true)
  | 4 => ("YearFigures$Program", "startOfC", "[I", true)
  | 5 => ("YearFigures$Program", "endOfC", "[I", true)
  | 6 => ("YearFigures$Program", "length", "I", false)
  | _ => ("YearFigures$Program", "ruleCount", "I", false)
def tyX7 : Nat → FieldType := fun k => match k with
  | 0 => .array .int
  | 1 => .array .int
  | 2 => .array .int
  | 3 => .array .int
  | 4 => .array .int
  | 5 => .array .int
  | 6 => .int
  | _ => .int
theorem nmX7 : ∀ a, a < 8 → ∀ b, b < 8 → a ≠ b → (TX7 a).2.1 ≠ (TX7 b).2.1 := by decide +kernel
theorem tyX7_ok : ∀ k, k < 8 → parseFieldDescriptor (TX7 k).2.2.1 = some (tyX7 k) := by decide +kernel
def RX8 : String := "YearFigures$ReportReader"
def TX8 : u_T := fun k => match k with
  | 0 => ("YearFigures$ReportReader", "text", "LYearFigures$Tape;", true)
  | 1 => ("YearFigures$ReportReader", "office", "LYearFigures$Office;", true)
  | 2 => ("YearFigures$ReportReader", "county", "[I", true)
  | 3 => ("YearFigures$ReportReader", "figure", "[I", true)
  | 4 => ("YearFigures$ReportReader", "change", "[I", true)
  | _ => ("YearFigures$ReportReader", "lines", "I", false)
def tyX8 : Nat → FieldType := fun k => match k with
  | 0 => .object "YearFigures$Tape"
  | 1 => .object "YearFigures$Office"
  | 2 => .array .int
  | 3 => .array .int
  | 4 => .array .int
  | _ => .int
theorem nmX8 : ∀ a, a < 6 → ∀ b, b < 6 → a ≠ b → (TX8 a).2.1 ≠ (TX8 b).2.1 := by decide +kernel
theorem tyX8_ok : ∀ k, k < 6 → parseFieldDescriptor (TX8 k).2.2.1 = some (tyX8 k) := by decide +kernel
def RX9 : String := "YearFigures$Sharing"
def TX9 : u_T := fun k => match k with
  | 0 => ("YearFigures$Sharing", "office", "LYearFigures$Office;", true)
  | 1 => ("YearFigures$Sharing", "shares", "[I", true)
  | 2 => ("YearFigures$Sharing", "before", "[I", true)
  | 3 => ("YearFigures$Sharing", "rest", "[I", true)
  | 4 => ("YearFigures$Sharing", "over", "[I", true)
  | 5 => ("YearFigures$Sharing", "below", "[I", true)
  | 6 => ("YearFigures$Sharing", "lossNumber", "I", false)
  | _ => ("YearFigures$Sharing", "lossCounty", "I", false)
def tyX9 : Nat → FieldType := fun k => match k with
  | 0 => .object "YearFigures$Office"
  | 1 => .array .int
  | 2 => .array .int
  | 3 => .array .int
  | 4 => .array .int
  | 5 => .array .int
  | 6 => .int
  | _ => .int
theorem nmX9 : ∀ a, a < 8 → ∀ b, b < 8 → a ≠ b → (TX9 a).2.1 ≠ (TX9 b).2.1 := by decide +kernel
theorem tyX9_ok : ∀ k, k < 8 → parseFieldDescriptor (TX9 k).2.2.1 = some (tyX9 k) := by decide +kernel
def RX10 : String := "YearFigures$Tape"
def TX10 : u_T := fun k => match k with
  | 0 => ("YearFigures$Tape", "bytes", "[I", true)
  | 1 => ("YearFigures$Tape", "size", "I", false)
  | 2 => ("YearFigures$Tape", "end", "I", false)
  | 3 => ("YearFigures$Tape", "place", "I", false)
  | _ => ("YearFigures$Tape", "fault", "I", false)
def tyX10 : Nat → FieldType := fun k => match k with
  | 0 => .array .int
  | 1 => .int
  | 2 => .int
  | 3 => .int
  | _ => .int
theorem nmX10 : ∀ a, a < 5 → ∀ b, b < 5 → a ≠ b → (TX10 a).2.1 ≠ (TX10 b).2.1 := by decide +kernel
theorem tyX10_ok : ∀ k, k < 5 → parseFieldDescriptor (TX10 k).2.2.1 = some (tyX10 k) := by decide +kernel
def RX11 : String := "YearFigures"
def TX11 : u_T := fun k => match k with
  | 0 => ("YearFigures", "tape", "LYearFigures$Tape;", true)
  | 1 => ("YearFigures", "office", "LYearFigures$Office;", true)
  | 2 => ("YearFigures", "books", "LYearFigures$Books;", true)
  | 3 => ("YearFigures", "kept", "LYearFigures$Books;", true)
  | 4 => ("YearFigures", "trial", "LYearFigures$Books;", true)
  | 5 => ("YearFigures", "rules", "LYearFigures$Program;", true)
  | 6 => ("YearFigures", "draft", "LYearFigures$Program;", true)
  | 7 => ("YearFigures", "definitions", "[LYearFigures$Program;", true)
  | 8 => ("YearFigures", "parser", "LYearFigures$Parser;", true)
  | 9 => ("YearFigures", "reports", "LYearFigures$ReportReader;", true)
  | 10 => ("YearFigures", "machine", "LYearFigures$Machine;", true)
  | 11 => ("YearFigures", "calendar", "LYearFigures$Calendar;", true)
  | 12 => ("YearFigures", "sharing", "LYearFigures$Sharing;", true)
  | 13 => ("YearFigures", "corrections", "LYearFigures$Corrections;", true)
  | 14 => ("YearFigures", "archive", "LYearFigures$Archive;", true)
  | 15 => ("YearFigures", "under", "[I", true)
  | 16 => ("YearFigures", "toldDefinitions", "I", false)
  | _ => ("YearFigures", "isKept", "Z", false)
def tyX11 : Nat → FieldType := fun k => match k with
  | 0 => .object "YearFigures$Tape"
  | 1 => .object "YearFigures$Office"
  | 2 => .object "YearFigures$Books"
  | 3 => .object "YearFigures$Books"
  | 4 => .object "YearFigures$Books"
  | 5 => .object "YearFigures$Program"
  | 6 => .object "YearFigures$Program"
  | 7 => .array (.object "YearFigures$Program")
  | 8 => .object "YearFigures$Parser"
  | 9 => .object "YearFigures$ReportReader"
  | 10 => .object "YearFigures$Machine"
  | 11 => .object "YearFigures$Calendar"
  | 12 => .object "YearFigures$Sharing"
  | 13 => .object "YearFigures$Corrections"
  | 14 => .object "YearFigures$Archive"
  | 15 => .array .int
  | 16 => .int
  | _ => .boolean
theorem nmX11 : ∀ a, a < 18 → ∀ b, b < 18 → a ≠ b → (TX11 a).2.1 ≠ (TX11 b).2.1 := by decide +kernel
theorem tyX11_ok : ∀ k, k < 18 → parseFieldDescriptor (TX11 k).2.2.1 = some (tyX11 k) := by decide +kernel
def RX12 : String := "YearFiguresModel"
def TX12 : u_T := fun k => match k with
  | 0 => ("YearFiguresModel", "now", "[I", true)
  | 1 => ("YearFiguresModel", "aside", "[I", true)
  | 2 => ("YearFiguresModel", "kept", "[I", true)
  | 3 => ("YearFiguresModel", "people", "[I", true)
  | 4 => ("YearFiguresModel", "nextTo", "[I", true)
  | 5 => ("YearFiguresModel", "target", "[I", true)
  | 6 => ("YearFiguresModel", "countySet", "I", false)
  | 7 => ("YearFiguresModel", "figureSet", "I", false)
  | 8 => ("YearFiguresModel", "staffDays", "I", false)
  | 9 => ("YearFiguresModel", "tape", "[B", true)
  | 10 => ("YearFiguresModel", "taped", "I", false)
  | 11 => ("YearFiguresModel", "place0", "I", false)
  | 12 => ("YearFiguresModel", "length0", "I", false)
  | 13 => ("YearFiguresModel", "fault", "I", false)
  | 14 => ("YearFiguresModel", "number0", "I", false)
  | 15 => ("YearFiguresModel", "open", "I", false)
  | 16 => ("YearFiguresModel", "codeMany", "I", false)
  | 17 => ("YearFiguresModel", "waiting", "I", false)
  | 18 => ("YearFiguresModel", "saidMany", "I", false)
  | 19 => ("YearFiguresModel", "clauses", "I", false)
  | 20 => ("YearFiguresModel", "said", "[I", true)
  | 21 => ("YearFiguresModel", "waitsAt", "[I", true)
  | 22 => ("YearFiguresModel", "saidLetter", "[I", true)
  | 23 => ("YearFiguresModel", "saidFrom", "[I", true)
  | 24 => ("YearFiguresModel", "saidHalf", "[I", true)
  | 25 => ("YearFiguresModel", "saidTo", "[I", true)
  | 26 => ("YearFiguresModel", "codes", "[I", true)
  | 27 => ("YearFiguresModel", "clauseOf", "[I", true)
  | 28 => ("YearFiguresModel", "codeFrom", "[I", true)
  | 29 => ("YearFiguresModel", "codeHalf", "[I", true)
  | 30 => ("YearFiguresModel", "codeTo", "[I", true)
  | 31 => ("YearFiguresModel", "stack", "[I", true)
  | 32 => ("YearFiguresModel", "facts", "[I", true)
  | 33 => ("YearFiguresModel", "lineAt", "[I", true)
  | 34 => ("YearFiguresModel", "lineBy", "[I", true)
  | 35 => ("YearFiguresModel", "lines", "I", false)
  | 36 => ("YearFiguresModel", "happened", "I", false)
  | 37 => ("YearFiguresModel", "cameNow", "I", false)
  | 38 => ("YearFiguresModel", "used", "I", false)
  | 39 => ("YearFiguresModel", "made", "I", false)
  | 40 => ("YearFiguresModel", "cheapDays", "I", false)
  | 41 => ("YearFiguresModel", "shareOf", "[I", true)
  | 42 => ("YearFiguresModel", "shareBefore", "[I", true)
  | 43 => ("YearFiguresModel", "cell", "[I", true)
  | 44 => ("YearFiguresModel", "countyRow", "[I", true)
  | 45 => ("YearFiguresModel", "figureRow", "[I", true)
  | 46 => ("YearFiguresModel", "rows", "I", false)
  | 47 => ("YearFiguresModel", "columns", "I", false)
  | 48 => ("YearFiguresModel", "overBy", "[I", true)
  | 49 => ("YearFiguresModel", "needOf", "[I", true)
  | 50 => ("YearFiguresModel", "recordCounty", "[I", true)
  | 51 => ("YearFiguresModel", "recordAge", "[I", true)
  | 52 => ("YearFiguresModel", "recordHour", "[I", true)
  | 53 => ("YearFiguresModel", "recordKind", "[I", true)
  | 54 => ("YearFiguresModel", "meaning", "[I", true)
  | 55 => ("YearFiguresModel", "meaningMany", "[I", true)
  | 56 => ("YearFiguresModel", "recordSet", "I", false)
  | 57 => ("YearFiguresModel", "definitionSet", "I", false)
  | 58 => ("YearFiguresModel", "lawAside", "[I", true)
  | 59 => ("YearFiguresModel", "falls", "[I", true)
  | 60 => ("YearFiguresModel", "twoOf", "[I", true)
  | 61 => ("YearFiguresModel", "cameBy", "[I", true)
  | 62 => ("YearFiguresModel", "valueOf", "[I", true)
  | 63 => ("YearFiguresModel", "costOf", "[I", true)
  | _ => ("YearFiguresModel", "isKept", "Z", false)
def tyX12 : Nat → FieldType := fun k => match k with
  | 0 => .array .int
  | 1 => .array .int
  | 2 => .array .int
  | 3 => .array .int
  | 4 => .array .int
  | 5 => .array .int
  | 6 => .int
  | 7 => .int
  | 8 => .int
  | 9 => .array .byte
  | 10 => .int
  | 11 => .int
  | 12 => .int
  | 13 => .int
  | 14 => .int
  | 15 => .int
  | 16 => .int
  | 17 => .int
  | 18 => .int
  | 19 => .int
  | 20 => .array .int
  | 21 => .array .int
  | 22 => .array .int
  | 23 => .array .int
  | 24 => .array .int
  | 25 => .array .int
  | 26 => .array .int
  | 27 => .array .int
  | 28 => .array .int
  | 29 => .array .int
  | 30 => .array .int
  | 31 => .array .int
  | 32 => .array .int
  | 33 => .array .int
  | 34 => .array .int
  | 35 => .int
  | 36 => .int
  | 37 => .int
  | 38 => .int
  | 39 => .int
  | 40 => .int
  | 41 => .array .int
  | 42 => .array .int
  | 43 => .array .int
  | 44 => .array .int
  | 45 => .array .int
  | 46 => .int
  | 47 => .int
  | 48 => .array .int
  | 49 => .array .int
  | 50 => .array .int
  | 51 => .array .int
  | 52 => .array .int
  | 53 => .array .int
  | 54 => .array .int
  | 55 => .array .int
  | 56 => .int
  | 57 => .int
  | 58 => .array .int
  | 59 => .array .int
  | 60 => .array .int
  | 61 => .array .int
  | 62 => .array .int
  | 63 => .array .int
  | _ => .boolean
theorem nmX12 : ∀ a, a < 65 → ∀ b, b < 65 → a ≠ b → (TX12 a).2.1 ≠ (TX12 b).2.1 := by decide +kernel
theorem tyX12_ok : ∀ k, k < 65 → parseFieldDescriptor (TX12 k).2.2.1 = some (tyX12 k) := by decide +kernel
abbrev CLS : List vw_C := [(RX0, TX0, 11), (RX1, TX1, 9), (RX2, TX2, 10), (RX3, TX3, 11), (RX4, TX4, 2), (RX5, TX5, 6), (RX6, TX6, 2), (RX7, TX7, 8), (RX8, TX8, 6), (RX9, TX9, 8), (RX10, TX10, 5), (RX11, TX11, 18), (RX12, TX12, 65)]
