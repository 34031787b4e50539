/-! numbers of classes, their fields, array types, static fields: by wip/whole/gen_names.py -/
def qa_R : Nat → String := fun k => match k with
  | 0 => "CutleryOrchestraLaw"
  | 1 => "CutleryOrchestra"
  | 2 => "CutleryOrchestra$Score"
  | 3 => "CutleryOrchestra$Part"
  | 4 => "CutleryOrchestra$Cues"
  | 5 => "CutleryOrchestra$Tempos"
  | 6 => "CutleryOrchestra$History"
  | 7 => "CutleryOrchestra$Patterns"
  | 8 => "CutleryOrchestra$CommandReader"
  | 9 => "CutleryOrchestra$Fractions"
  | 10 => "CutleryOrchestraModel"
  | 11 => "java/lang/StringBuilder"
  | 12 => "java/lang/AbstractStringBuilder"
  | 13 => "java/lang/String"
  | 14 => "java/lang/StringLatin1"
  | 15 => "java/lang/StringUTF16"
  | 16 => "java/lang/Integer"
  | 17 => "java/lang/Math"
  | 18 => "java/lang/Float"
  | 19 => "java/util/Arrays"
  | 20 => "jdk/internal/util/ArraysSupport"
  | 21 => "java/lang/Enum"
  | 22 => "CutleryOrchestra$Action"
  | 23 => "java/lang/Object"
  | _ => "jdk/internal/util/Preconditions"
def qa_F0 : u_T := fun k => match k with
  | 0 => ("CutleryOrchestra", "score", "LCutleryOrchestra$Score;", true)
  | 1 => ("CutleryOrchestra", "snapshot", "LCutleryOrchestra$Score;", true)
  | 2 => ("CutleryOrchestra", "history", "LCutleryOrchestra$History;", true)
  | 3 => ("CutleryOrchestra", "patterns", "LCutleryOrchestra$Patterns;", true)
  | 4 => ("CutleryOrchestra", "reader", "LCutleryOrchestra$CommandReader;", true)
  | 5 => ("CutleryOrchestra", "output", "Ljava/lang/StringBuilder;", true)
  | 6 => ("CutleryOrchestra", "hasSnapshot", "Z", false)
  | 7 => ("CutleryOrchestra", "latestReason", "I", false)
  | 8 => ("CutleryOrchestra", "latestDetail", "I", false)
  | 9 => ("CutleryOrchestra", "latestCause", "I", false)
  | _ => ("CutleryOrchestra", "latestErrorOffset", "I", false)
def qa_T0 : Nat → FieldType := fun k => match k with
  | 0 => .object "CutleryOrchestra$Score"
  | 1 => .object "CutleryOrchestra$Score"
  | 2 => .object "CutleryOrchestra$History"
  | 3 => .object "CutleryOrchestra$Patterns"
  | 4 => .object "CutleryOrchestra$CommandReader"
  | 5 => .object "java/lang/StringBuilder"
  | 6 => .boolean
  | 7 => .int
  | 8 => .int
  | 9 => .int
  | _ => .int
theorem qa_T0_ok : ∀ k, k < 11 → parseFieldDescriptor (qa_F0 k).2.2.1 = some (qa_T0 k) := by decide +kernel
theorem qa_N0_ok : ∀ a, a < 11 → ∀ b, b < 11 → a ≠ b → (qa_F0 a).2.1 ≠ (qa_F0 b).2.1 := by decide +kernel
def qa_F1 : u_T := fun k => match k with
  | 0 => ("CutleryOrchestra$Score", "parts", "[LCutleryOrchestra$Part;", true)
  | 1 => ("CutleryOrchestra$Score", "cues", "LCutleryOrchestra$Cues;", true)
  | 2 => ("CutleryOrchestra$Score", "tempos", "LCutleryOrchestra$Tempos;", true)
  | 3 => ("CutleryOrchestra$Score", "partTotal", "I", false)
  | 4 => ("CutleryOrchestra$Score", "barTicks", "I", false)
  | 5 => ("CutleryOrchestra$Score", "played", "I", false)
  | _ => ("CutleryOrchestra$Score", "refusalDetail", "I", false)
def qa_T1 : Nat → FieldType := fun k => match k with
  | 0 => .array (.object "CutleryOrchestra$Part")
  | 1 => .object "CutleryOrchestra$Cues"
  | 2 => .object "CutleryOrchestra$Tempos"
  | 3 => .int
  | 4 => .int
  | 5 => .int
  | _ => .int
theorem qa_T1_ok : ∀ k, k < 7 → parseFieldDescriptor (qa_F1 k).2.2.1 = some (qa_T1 k) := by decide +kernel
theorem qa_N1_ok : ∀ a, a < 7 → ∀ b, b < 7 → a ≠ b → (qa_F1 a).2.1 ≠ (qa_F1 b).2.1 := by decide +kernel
def qa_F2 : u_T := fun k => match k with
  | 0 => ("CutleryOrchestra$Part", "pitches", "[I", true)
  | 1 => ("CutleryOrchestra$Part", "lengths", "[I", true)
  | 2 => ("CutleryOrchestra$Part", "size", "I", false)
  | 3 => ("CutleryOrchestra$Part", "ticks", "I", false)
  | 4 => ("CutleryOrchestra$Part", "numerator", "I", false)
  | 5 => ("CutleryOrchestra$Part", "denominator", "I", false)
  | 6 => ("CutleryOrchestra$Part", "sounded", "I", false)
  | _ => ("CutleryOrchestra$Part", "solos", "I", false)
def qa_T2 : Nat → FieldType := fun k => match k with
  | 0 => .array (.int)
  | 1 => .array (.int)
  | 2 => .int
  | 3 => .int
  | 4 => .int
  | 5 => .int
  | 6 => .int
  | _ => .int
theorem qa_T2_ok : ∀ k, k < 8 → parseFieldDescriptor (qa_F2 k).2.2.1 = some (qa_T2 k) := by decide +kernel
theorem qa_N2_ok : ∀ a, a < 8 → ∀ b, b < 8 → a ≠ b → (qa_F2 a).2.1 ≠ (qa_F2 b).2.1 := by decide +kernel
def qa_F3 : u_T := fun k => match k with
  | 0 => ("CutleryOrchestra$Cues", "sources", "[I", true)
  | 1 => ("CutleryOrchestra$Cues", "marks", "[I", true)
  | _ => ("CutleryOrchestra$Cues", "total", "I", false)
def qa_T3 : Nat → FieldType := fun k => match k with
  | 0 => .array (.int)
  | 1 => .array (.int)
  | _ => .int
theorem qa_T3_ok : ∀ k, k < 3 → parseFieldDescriptor (qa_F3 k).2.2.1 = some (qa_T3 k) := by decide +kernel
theorem qa_N3_ok : ∀ a, a < 3 → ∀ b, b < 3 → a ≠ b → (qa_F3 a).2.1 ≠ (qa_F3 b).2.1 := by decide +kernel
def qa_F4 : u_T := fun k => match k with
  | 0 => ("CutleryOrchestra$Tempos", "bars", "[I", true)
  | 1 => ("CutleryOrchestra$Tempos", "values", "[I", true)
  | _ => ("CutleryOrchestra$Tempos", "size", "I", false)
def qa_T4 : Nat → FieldType := fun k => match k with
  | 0 => .array (.int)
  | 1 => .array (.int)
  | _ => .int
theorem qa_T4_ok : ∀ k, k < 3 → parseFieldDescriptor (qa_F4 k).2.2.1 = some (qa_T4 k) := by decide +kernel
theorem qa_N4_ok : ∀ a, a < 3 → ∀ b, b < 3 → a ≠ b → (qa_F4 a).2.1 ≠ (qa_F4 b).2.1 := by decide +kernel
def qa_F5 : u_T := fun k => match k with
  | 0 => ("CutleryOrchestra$History", "slots", "[LCutleryOrchestra$Score;", true)
  | 1 => ("CutleryOrchestra$History", "spare", "I", false)
  | _ => ("CutleryOrchestra$History", "count", "I", false)
def qa_T5 : Nat → FieldType := fun k => match k with
  | 0 => .array (.object "CutleryOrchestra$Score")
  | 1 => .int
  | _ => .int
theorem qa_T5_ok : ∀ k, k < 3 → parseFieldDescriptor (qa_F5 k).2.2.1 = some (qa_T5 k) := by decide +kernel
theorem qa_N5_ok : ∀ a, a < 3 → ∀ b, b < 3 → a ≠ b → (qa_F5 a).2.1 ≠ (qa_F5 b).2.1 := by decide +kernel
def qa_F6 : u_T := fun k => match k with
  | 0 => ("CutleryOrchestra$Patterns", "borders", "[I", true)
  | _ => ("CutleryOrchestra$Patterns", "themes", "[[I", true)
def qa_T6 : Nat → FieldType := fun k => match k with
  | 0 => .array (.int)
  | _ => .array (.array (.int))
theorem qa_T6_ok : ∀ k, k < 2 → parseFieldDescriptor (qa_F6 k).2.2.1 = some (qa_T6 k) := by decide +kernel
theorem qa_N6_ok : ∀ a, a < 2 → ∀ b, b < 2 → a ≠ b → (qa_F6 a).2.1 ≠ (qa_F6 b).2.1 := by decide +kernel
def qa_F7 : u_T := fun k => match k with
  | 0 => ("CutleryOrchestra$CommandReader", "input", "Ljava/lang/StringBuilder;", true)
  | 1 => ("CutleryOrchestra$CommandReader", "actions", "[LCutleryOrchestra$Action;", true)
  | 2 => ("CutleryOrchestra$CommandReader", "arguments", "[I", true)
  | 3 => ("CutleryOrchestra$CommandReader", "total", "I", false)
  | 4 => ("CutleryOrchestra$CommandReader", "offset", "I", false)
  | _ => ("CutleryOrchestra$CommandReader", "argumentTotal", "I", false)
def qa_T7 : Nat → FieldType := fun k => match k with
  | 0 => .object "java/lang/StringBuilder"
  | 1 => .array (.object "CutleryOrchestra$Action")
  | 2 => .array (.int)
  | 3 => .int
  | 4 => .int
  | _ => .int
theorem qa_T7_ok : ∀ k, k < 6 → parseFieldDescriptor (qa_F7 k).2.2.1 = some (qa_T7 k) := by decide +kernel
theorem qa_N7_ok : ∀ a, a < 6 → ∀ b, b < 6 → a ≠ b → (qa_F7 a).2.1 ≠ (qa_F7 b).2.1 := by decide +kernel
def qa_F8 : u_T := fun k => match k with
  | 0 => ("java/lang/AbstractStringBuilder", "value", "[B", false)
  | 1 => ("java/lang/AbstractStringBuilder", "coder", "B", false)
  | 2 => ("java/lang/AbstractStringBuilder", "maybeLatin1", "Z", false)
  | _ => ("java/lang/AbstractStringBuilder", "count", "I", false)
def qa_T8 : Nat → FieldType := fun k => match k with
  | 0 => .array (.byte)
  | 1 => .byte
  | 2 => .boolean
  | _ => .int
theorem qa_T8_ok : ∀ k, k < 4 → parseFieldDescriptor (qa_F8 k).2.2.1 = some (qa_T8 k) := by decide +kernel
theorem qa_N8_ok : ∀ a, a < 4 → ∀ b, b < 4 → a ≠ b → (qa_F8 a).2.1 ≠ (qa_F8 b).2.1 := by decide +kernel
def qa_F9 : u_T := fun k => match k with
  | 0 => ("CutleryOrchestraModel", "m", "[I", true)
  | 1 => ("CutleryOrchestraModel", "aside", "[I", true)
  | 2 => ("CutleryOrchestraModel", "saved", "[I", true)
  | 3 => ("CutleryOrchestraModel", "isSaved", "Z", false)
  | 4 => ("CutleryOrchestraModel", "past", "[I", true)
  | 5 => ("CutleryOrchestraModel", "changes", "I", false)
  | 6 => ("CutleryOrchestraModel", "errorAt", "I", false)
  | 7 => ("CutleryOrchestraModel", "reason", "I", false)
  | 8 => ("CutleryOrchestraModel", "detail", "I", false)
  | 9 => ("CutleryOrchestraModel", "cause", "I", false)
  | 10 => ("CutleryOrchestraModel", "reasonNow", "I", false)
  | 11 => ("CutleryOrchestraModel", "detailNow", "I", false)
  | 12 => ("CutleryOrchestraModel", "thrown", "I", false)
  | 13 => ("CutleryOrchestraModel", "input", "[I", true)
  | 14 => ("CutleryOrchestraModel", "inputMany", "I", false)
  | 15 => ("CutleryOrchestraModel", "table", "[I", true)
  | 16 => ("CutleryOrchestraModel", "nearTop", "I", false)
  | 17 => ("CutleryOrchestraModel", "nearBottom", "I", false)
  | 18 => ("CutleryOrchestraModel", "line", "[I", true)
  | 19 => ("CutleryOrchestraModel", "lineMany", "I", false)
  | 20 => ("CutleryOrchestraModel", "letters", "[C", true)
  | 21 => ("CutleryOrchestraModel", "begins0", "[I", true)
  | 22 => ("CutleryOrchestraModel", "commands", "[I", true)
  | 23 => ("CutleryOrchestraModel", "commandMany", "I", false)
  | 24 => ("CutleryOrchestraModel", "place0", "I", false)
  | 25 => ("CutleryOrchestraModel", "size0", "I", false)
  | _ => ("CutleryOrchestraModel", "isWrong", "Z", false)
def qa_T9 : Nat → FieldType := fun k => match k with
  | 0 => .array (.int)
  | 1 => .array (.int)
  | 2 => .array (.int)
  | 3 => .boolean
  | 4 => .array (.int)
  | 5 => .int
  | 6 => .int
  | 7 => .int
  | 8 => .int
  | 9 => .int
  | 10 => .int
  | 11 => .int
  | 12 => .int
  | 13 => .array (.int)
  | 14 => .int
  | 15 => .array (.int)
  | 16 => .int
  | 17 => .int
  | 18 => .array (.int)
  | 19 => .int
  | 20 => .array (.char)
  | 21 => .array (.int)
  | 22 => .array (.int)
  | 23 => .int
  | 24 => .int
  | 25 => .int
  | _ => .boolean
theorem qa_T9_ok : ∀ k, k < 27 → parseFieldDescriptor (qa_F9 k).2.2.1 = some (qa_T9 k) := by decide +kernel
theorem qa_N9_ok : ∀ a, a < 27 → ∀ b, b < 27 → a ≠ b → (qa_F9 a).2.1 ≠ (qa_F9 b).2.1 := by decide +kernel
def qa_F10 : u_T := fun k => match k with
  | 0 => ("java/lang/String", "value", "[B", true)
  | _ => ("java/lang/String", "coder", "B", true)
def qa_T10 : Nat → FieldType := fun k => match k with
  | 0 => .array (.byte)
  | _ => .byte
theorem qa_T10_ok : ∀ k, k < 2 → parseFieldDescriptor (qa_F10 k).2.2.1 = some (qa_T10 k) := by decide +kernel
theorem qa_N10_ok : ∀ a, a < 2 → ∀ b, b < 2 → a ≠ b → (qa_F10 a).2.1 ≠ (qa_F10 b).2.1 := by decide +kernel
def qa_F11 : u_T := fun k => match k with
  | 0 => ("java/lang/Enum", "ordinal", "I", true)
  | _ => ("CutleryOrchestra$Action", "form", "Ljava/lang/String;", true)
def qa_T11 : Nat → FieldType := fun k => match k with
  | 0 => .int
  | _ => .object "java/lang/String"
theorem qa_T11_ok : ∀ k, k < 2 → parseFieldDescriptor (qa_F11 k).2.2.1 = some (qa_T11 k) := by decide +kernel
theorem qa_N11_ok : ∀ a, a < 2 → ∀ b, b < 2 → a ≠ b → (qa_F11 a).2.1 ≠ (qa_F11 b).2.1 := by decide +kernel
def qa_cl : List vw_C := [("CutleryOrchestra", qa_F0, 11), ("CutleryOrchestra$Score", qa_F1, 7), ("CutleryOrchestra$Part", qa_F2, 8), ("CutleryOrchestra$Cues", qa_F3, 3), ("CutleryOrchestra$Tempos", qa_F4, 3), ("CutleryOrchestra$History", qa_F5, 3), ("CutleryOrchestra$Patterns", qa_F6, 2), ("CutleryOrchestra$CommandReader", qa_F7, 6), ("java/lang/StringBuilder", qa_F8, 4), ("CutleryOrchestraModel", qa_F9, 27), ("java/lang/String", qa_F10, 2), ("CutleryOrchestra$Action", qa_F11, 2)]
def qa_ty : List FieldType := [.int, .long, .byte, .char, .double, .object "CutleryOrchestra$Part", .object "CutleryOrchestra$Score", .object "CutleryOrchestra$Action", .array .int]
def qa_st : List (String × String × String) := [("java/lang/String", "COMPACT_STRINGS", "Z"), ("CutleryOrchestra$Action", "PART", "LCutleryOrchestra$Action;"), ("CutleryOrchestra$1", "$SwitchMap$CutleryOrchestra$Action", "[I"), ("CutleryOrchestra$Action", "NOTE", "LCutleryOrchestra$Action;"), ("CutleryOrchestra$Action", "REST", "LCutleryOrchestra$Action;"), ("CutleryOrchestra$Action", "LAST", "LCutleryOrchestra$Action;"), ("CutleryOrchestra$Action", "MOVE", "LCutleryOrchestra$Action;"), ("CutleryOrchestra$Action", "TUNE", "LCutleryOrchestra$Action;"), ("CutleryOrchestra$Action", "CUE", "LCutleryOrchestra$Action;"), ("CutleryOrchestra$Action", "ALONE", "LCutleryOrchestra$Action;"), ("CutleryOrchestra$Action", "BAR", "LCutleryOrchestra$Action;"), ("CutleryOrchestra$Action", "TEMPO", "LCutleryOrchestra$Action;"), ("CutleryOrchestra$Action", "PLAY", "LCutleryOrchestra$Action;"), ("java/lang/Integer", "DigitOnes", "[B"), ("java/lang/Integer", "DigitTens", "[B"), ("CutleryOrchestra$Action", "ALL", "[LCutleryOrchestra$Action;"), ("jdk/internal/util/Preconditions", "SIOOBE_FORMATTER", "Ljava/util/function/BiFunction;")]
