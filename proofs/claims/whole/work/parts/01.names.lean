/-! the classes whose objects the world holds: names, fields in the order of their slots, types -/
def qn_R0 : String := "SistersBoard$Book"
def qn_T0 : u_T := fun k => match k with
  | 0 => ("SistersBoard$Book", "verbs", "[I", true)
  | 1 => ("SistersBoard$Book", "first", "[I", true)
  | 2 => ("SistersBoard$Book", "second", "[I", true)
  | 3 => ("SistersBoard$Book", "hoursTold", "[I", true)
  | 4 => ("SistersBoard$Book", "how", "[I", true)
  | 5 => ("SistersBoard$Book", "lines", "I", false)
  | _ => ("SistersBoard$Book", "lived", "I", false)
def qn_t0 : Nat → FieldType := fun k => match k with
  | 0 => .array .int
  | 1 => .array .int
  | 2 => .array .int
  | 3 => .array .int
  | 4 => .array .int
  | 5 => .int
  | _ => .int
theorem qn_nm0 : ∀ a, a < 7 → ∀ b, b < 7 → a ≠ b → (qn_T0 a).2.1 ≠ (qn_T0 b).2.1 := by decide +kernel
theorem qn_ok0 : ∀ k, k < 7 → parseFieldDescriptor (qn_T0 k).2.2.1 = some (qn_t0 k) := by decide +kernel
def qn_R1 : String := "SistersBoard$Desk"
def qn_T1 : u_T := fun k => match k with
  | 0 => ("SistersBoard$Desk", "plan", "LSistersBoard$Plan;", true)
  | 1 => ("SistersBoard$Desk", "sweep", "LSistersBoard$Sweep;", true)
  | 2 => ("SistersBoard$Desk", "passed", "[I", true)
  | 3 => ("SistersBoard$Desk", "seed", "I", false)
  | 4 => ("SistersBoard$Desk", "found", "I", false)
  | _ => ("SistersBoard$Desk", "moved", "I", false)
def qn_t1 : Nat → FieldType := fun k => match k with
  | 0 => .object "SistersBoard$Plan"
  | 1 => .object "SistersBoard$Sweep"
  | 2 => .array .int
  | 3 => .int
  | 4 => .int
  | _ => .int
theorem qn_nm1 : ∀ a, a < 6 → ∀ b, b < 6 → a ≠ b → (qn_T1 a).2.1 ≠ (qn_T1 b).2.1 := by decide +kernel
theorem qn_ok1 : ∀ k, k < 6 → parseFieldDescriptor (qn_T1 k).2.2.1 = some (qn_t1 k) := by decide +kernel
def qn_R2 : String := "SistersBoard$Image"
def qn_T2 : u_T := fun k => match k with
  | 0 => ("SistersBoard$Image", "plan", "LSistersBoard$Plan;", true)
  | 1 => ("SistersBoard$Image", "state", "LSistersBoard$State;", true)
  | 2 => ("SistersBoard$Image", "sentence", "LSistersBoard$Sentence;", true)
  | _ => ("SistersBoard$Image", "kept", "Z", false)
def qn_t2 : Nat → FieldType := fun k => match k with
  | 0 => .object "SistersBoard$Plan"
  | 1 => .object "SistersBoard$State"
  | 2 => .object "SistersBoard$Sentence"
  | _ => .boolean
theorem qn_nm2 : ∀ a, a < 4 → ∀ b, b < 4 → a ≠ b → (qn_T2 a).2.1 ≠ (qn_T2 b).2.1 := by decide +kernel
theorem qn_ok2 : ∀ k, k < 4 → parseFieldDescriptor (qn_T2 k).2.2.1 = some (qn_t2 k) := by decide +kernel
def qn_R3 : String := "SistersBoard$Past"
def qn_T3 : u_T := fun k => match k with
  | 0 => ("SistersBoard$Past", "kept", "[LSistersBoard$State;", true)
  | 1 => ("SistersBoard$Past", "next", "I", false)
  | _ => ("SistersBoard$Past", "size", "I", false)
def qn_t3 : Nat → FieldType := fun k => match k with
  | 0 => .array (.object "SistersBoard$State")
  | 1 => .int
  | _ => .int
theorem qn_nm3 : ∀ a, a < 3 → ∀ b, b < 3 → a ≠ b → (qn_T3 a).2.1 ≠ (qn_T3 b).2.1 := by decide +kernel
theorem qn_ok3 : ∀ k, k < 3 → parseFieldDescriptor (qn_T3 k).2.2.1 = some (qn_t3 k) := by decide +kernel
def qn_R4 : String := "SistersBoard$Plan"
def qn_T4 : u_T := fun k => match k with
  | 0 => ("SistersBoard$Plan", "low", "[I", true)
  | 1 => ("SistersBoard$Plan", "high", "[I", true)
  | 2 => ("SistersBoard$Plan", "switchNames", "[J", true)
  | 3 => ("SistersBoard$Plan", "sisterNames", "[J", true)
  | 4 => ("SistersBoard$Plan", "seats", "[I", true)
  | 5 => ("SistersBoard$Plan", "wires", "I", false)
  | 6 => ("SistersBoard$Plan", "switches", "I", false)
  | 7 => ("SistersBoard$Plan", "sisters", "I", false)
  | 8 => ("SistersBoard$Plan", "vow", "I", false)
  | 9 => ("SistersBoard$Plan", "firstSetting", "I", false)
  | 10 => ("SistersBoard$Plan", "lines", "I", false)
  | 11 => ("SistersBoard$Plan", "wiresTold", "Z", false)
  | _ => ("SistersBoard$Plan", "vowTold", "Z", false)
def qn_t4 : Nat → FieldType := fun k => match k with
  | 0 => .array .int
  | 1 => .array .int
  | 2 => .array .long
  | 3 => .array .long
  | 4 => .array .int
  | 5 => .int
  | 6 => .int
  | 7 => .int
  | 8 => .int
  | 9 => .int
  | 10 => .int
  | 11 => .boolean
  | _ => .boolean
theorem qn_nm4 : ∀ a, a < 13 → ∀ b, b < 13 → a ≠ b → (qn_T4 a).2.1 ≠ (qn_T4 b).2.1 := by decide +kernel
theorem qn_ok4 : ∀ k, k < 13 → parseFieldDescriptor (qn_T4 k).2.2.1 = some (qn_t4 k) := by decide +kernel
def qn_R5 : String := "SistersBoard$Sentence"
def qn_T5 : u_T := fun k => match k with
  | 0 => ("SistersBoard$Sentence", "steps", "[LSistersBoard$Word;", true)
  | 1 => ("SistersBoard$Sentence", "signs", "[I", true)
  | 2 => ("SistersBoard$Sentence", "values", "[I", true)
  | 3 => ("SistersBoard$Sentence", "pile", "[I", true)
  | 4 => ("SistersBoard$Sentence", "length", "I", false)
  | _ => ("SistersBoard$Sentence", "ones", "I", false)
def qn_t5 : Nat → FieldType := fun k => match k with
  | 0 => .array (.object "SistersBoard$Word")
  | 1 => .array .int
  | 2 => .array .int
  | 3 => .array .int
  | 4 => .int
  | _ => .int
theorem qn_nm5 : ∀ a, a < 6 → ∀ b, b < 6 → a ≠ b → (qn_T5 a).2.1 ≠ (qn_T5 b).2.1 := by decide +kernel
theorem qn_ok5 : ∀ k, k < 6 → parseFieldDescriptor (qn_T5 k).2.2.1 = some (qn_t5 k) := by decide +kernel
def qn_R6 : String := "SistersBoard$State"
def qn_T6 : u_T := fun k => match k with
  | 0 => ("SistersBoard$State", "outs", "[I", true)
  | 1 => ("SistersBoard$State", "left", "[I", true)
  | 2 => ("SistersBoard$State", "shifted", "[I", true)
  | 3 => ("SistersBoard$State", "turned", "[I", true)
  | 4 => ("SistersBoard$State", "hour", "I", false)
  | 5 => ("SistersBoard$State", "setting", "I", false)
  | 6 => ("SistersBoard$State", "jammed", "I", false)
  | 7 => ("SistersBoard$State", "callsSoFar", "I", false)
  | 8 => ("SistersBoard$State", "shiftsSoFar", "I", false)
  | _ => ("SistersBoard$State", "turnsSoFar", "I", false)
def qn_t6 : Nat → FieldType := fun k => match k with
  | 0 => .array .int
  | 1 => .array .int
  | 2 => .array .int
  | 3 => .array .int
  | 4 => .int
  | 5 => .int
  | 6 => .int
  | 7 => .int
  | 8 => .int
  | _ => .int
theorem qn_nm6 : ∀ a, a < 10 → ∀ b, b < 10 → a ≠ b → (qn_T6 a).2.1 ≠ (qn_T6 b).2.1 := by decide +kernel
theorem qn_ok6 : ∀ k, k < 10 → parseFieldDescriptor (qn_T6 k).2.2.1 = some (qn_t6 k) := by decide +kernel
def qn_R7 : String := "SistersBoard$Survey"
def qn_T7 : u_T := fun k => match k with
  | 0 => ("SistersBoard$Survey", "plan", "LSistersBoard$Plan;", true)
  | 1 => ("SistersBoard$Survey", "desk", "LSistersBoard$Desk;", true)
  | 2 => ("SistersBoard$Survey", "sweep", "LSistersBoard$Sweep;", true)
  | 3 => ("SistersBoard$Survey", "rooms", "[I", true)
  | 4 => ("SistersBoard$Survey", "reachIfFixed", "[J", true)
  | 5 => ("SistersBoard$Survey", "leftOver", "[I", true)
  | _ => ("SistersBoard$Survey", "first", "I", false)
def qn_t7 : Nat → FieldType := fun k => match k with
  | 0 => .object "SistersBoard$Plan"
  | 1 => .object "SistersBoard$Desk"
  | 2 => .object "SistersBoard$Sweep"
  | 3 => .array .int
  | 4 => .array .long
  | 5 => .array .int
  | _ => .int
theorem qn_nm7 : ∀ a, a < 7 → ∀ b, b < 7 → a ≠ b → (qn_T7 a).2.1 ≠ (qn_T7 b).2.1 := by decide +kernel
theorem qn_ok7 : ∀ k, k < 7 → parseFieldDescriptor (qn_T7 k).2.2.1 = some (qn_t7 k) := by decide +kernel
def qn_R8 : String := "SistersBoard$Sweep"
def qn_T8 : u_T := fun k => match k with
  | 0 => ("SistersBoard$Sweep", "plan", "LSistersBoard$Plan;", true)
  | 1 => ("SistersBoard$Sweep", "tails", "[I", true)
  | 2 => ("SistersBoard$Sweep", "fixed", "I", false)
  | 3 => ("SistersBoard$Sweep", "loose", "I", false)
  | _ => ("SistersBoard$Sweep", "setting", "I", false)
def qn_t8 : Nat → FieldType := fun k => match k with
  | 0 => .object "SistersBoard$Plan"
  | 1 => .array .int
  | 2 => .int
  | 3 => .int
  | _ => .int
theorem qn_nm8 : ∀ a, a < 5 → ∀ b, b < 5 → a ≠ b → (qn_T8 a).2.1 ≠ (qn_T8 b).2.1 := by decide +kernel
theorem qn_ok8 : ∀ k, k < 5 → parseFieldDescriptor (qn_T8 k).2.2.1 = some (qn_t8 k) := by decide +kernel
def qn_R9 : String := "SistersBoard$Tape"
def qn_T9 : u_T := fun k => match k with
  | 0 => ("SistersBoard$Tape", "bytes", "[I", true)
  | 1 => ("SistersBoard$Tape", "length", "I", false)
  | 2 => ("SistersBoard$Tape", "faultKind", "I", false)
  | 3 => ("SistersBoard$Tape", "faultPlace", "I", false)
  | 4 => ("SistersBoard$Tape", "limit", "I", false)
  | 5 => ("SistersBoard$Tape", "at", "I", false)
  | 6 => ("SistersBoard$Tape", "place", "I", false)
  | 7 => ("SistersBoard$Tape", "kind", "I", false)
  | 8 => ("SistersBoard$Tape", "number", "I", false)
  | 9 => ("SistersBoard$Tape", "letters", "J", false)
  | _ => ("SistersBoard$Tape", "word", "LSistersBoard$Word;", false)
def qn_t9 : Nat → FieldType := fun k => match k with
  | 0 => .array .int
  | 1 => .int
  | 2 => .int
  | 3 => .int
  | 4 => .int
  | 5 => .int
  | 6 => .int
  | 7 => .int
  | 8 => .int
  | 9 => .long
  | _ => .object "SistersBoard$Word"
theorem qn_nm9 : ∀ a, a < 11 → ∀ b, b < 11 → a ≠ b → (qn_T9 a).2.1 ≠ (qn_T9 b).2.1 := by decide +kernel
theorem qn_ok9 : ∀ k, k < 11 → parseFieldDescriptor (qn_T9 k).2.2.1 = some (qn_t9 k) := by decide +kernel
def qn_R10 : String := "SistersBoard"
def qn_T10 : u_T := fun k => match k with
  | 0 => ("SistersBoard", "tape", "LSistersBoard$Tape;", true)
  | 1 => ("SistersBoard", "plan", "LSistersBoard$Plan;", true)
  | 2 => ("SistersBoard", "state", "LSistersBoard$State;", true)
  | 3 => ("SistersBoard", "sentence", "LSistersBoard$Sentence;", true)
  | 4 => ("SistersBoard", "past", "LSistersBoard$Past;", true)
  | 5 => ("SistersBoard", "desk", "LSistersBoard$Desk;", true)
  | 6 => ("SistersBoard", "survey", "LSistersBoard$Survey;", true)
  | 7 => ("SistersBoard", "book", "LSistersBoard$Book;", true)
  | 8 => ("SistersBoard", "planDraft", "LSistersBoard$Plan;", true)
  | 9 => ("SistersBoard", "stateDraft", "LSistersBoard$State;", true)
  | 10 => ("SistersBoard", "sentenceDraft", "LSistersBoard$Sentence;", true)
  | 11 => ("SistersBoard", "images", "[LSistersBoard$Image;", true)
  | 12 => ("SistersBoard", "slip", "[I", true)
  | 13 => ("SistersBoard", "toldOfBook", "[I", true)
  | 14 => ("SistersBoard", "slipLength", "I", false)
  | 15 => ("SistersBoard", "leastSetting", "I", false)
  | 16 => ("SistersBoard", "firstDeaf", "I", false)
  | _ => ("SistersBoard", "wireToTry", "I", false)
def qn_t10 : Nat → FieldType := fun k => match k with
  | 0 => .object "SistersBoard$Tape"
  | 1 => .object "SistersBoard$Plan"
  | 2 => .object "SistersBoard$State"
  | 3 => .object "SistersBoard$Sentence"
  | 4 => .object "SistersBoard$Past"
  | 5 => .object "SistersBoard$Desk"
  | 6 => .object "SistersBoard$Survey"
  | 7 => .object "SistersBoard$Book"
  | 8 => .object "SistersBoard$Plan"
  | 9 => .object "SistersBoard$State"
  | 10 => .object "SistersBoard$Sentence"
  | 11 => .array (.object "SistersBoard$Image")
  | 12 => .array .int
  | 13 => .array .int
  | 14 => .int
  | 15 => .int
  | 16 => .int
  | _ => .int
theorem qn_nm10 : ∀ a, a < 18 → ∀ b, b < 18 → a ≠ b → (qn_T10 a).2.1 ≠ (qn_T10 b).2.1 := by decide +kernel
theorem qn_ok10 : ∀ k, k < 18 → parseFieldDescriptor (qn_T10 k).2.2.1 = some (qn_t10 k) := by decide +kernel
def qn_R11 : String := "SistersBoardModel"
def qn_T11 : u_T := fun k => match k with
  | 0 => ("SistersBoardModel", "thrown", "I", false)
  | 1 => ("SistersBoardModel", "tape", "[I", true)
  | 2 => ("SistersBoardModel", "taped", "I", false)
  | 3 => ("SistersBoardModel", "size", "I", false)
  | 4 => ("SistersBoardModel", "limit", "I", false)
  | 5 => ("SistersBoardModel", "to", "I", false)
  | 6 => ("SistersBoardModel", "from", "I", false)
  | 7 => ("SistersBoardModel", "kind", "I", false)
  | 8 => ("SistersBoardModel", "number", "I", false)
  | 9 => ("SistersBoardModel", "sign", "I", false)
  | 10 => ("SistersBoardModel", "fault", "I", false)
  | 11 => ("SistersBoardModel", "place", "I", false)
  | 12 => ("SistersBoardModel", "word", "J", false)
  | 13 => ("SistersBoardModel", "told", "I", false)
  | 14 => ("SistersBoardModel", "now", "[I", true)
  | 15 => ("SistersBoardModel", "read", "[I", true)
  | 16 => ("SistersBoardModel", "kept", "[I", true)
  | 17 => ("SistersBoardModel", "snaps", "[I", true)
  | 18 => ("SistersBoardModel", "aside", "[I", true)
  | 19 => ("SistersBoardModel", "name", "[J", true)
  | 20 => ("SistersBoardModel", "readName", "[J", true)
  | 21 => ("SistersBoardModel", "keptName", "[J", true)
  | 22 => ("SistersBoardModel", "isKept", "[Z", true)
  | 23 => ("SistersBoardModel", "onces", "[Z", true)
  | 24 => ("SistersBoardModel", "snapMany", "I", false)
  | 25 => ("SistersBoardModel", "ways", "[J", true)
  | 26 => ("SistersBoardModel", "fewest", "I", false)
  | 27 => ("SistersBoardModel", "leastSetting", "I", false)
  | 28 => ("SistersBoardModel", "orders", "[I", true)
  | 29 => ("SistersBoardModel", "comes", "[I", true)
  | 30 => ("SistersBoardModel", "deafAt", "I", false)
  | 31 => ("SistersBoardModel", "trying", "I", false)
  | 32 => ("SistersBoardModel", "comings", "[I", true)
  | 33 => ("SistersBoardModel", "text", "[I", true)
  | 34 => ("SistersBoardModel", "texts", "I", false)
  | 35 => ("SistersBoardModel", "seed", "I", false)
  | 36 => ("SistersBoardModel", "line", "[I", true)
  | 37 => ("SistersBoardModel", "written", "[I", true)
  | 38 => ("SistersBoardModel", "lineMany", "I", false)
  | 39 => ("SistersBoardModel", "hasWritten", "Z", false)
  | 40 => ("SistersBoardModel", "node", "[I", true)
  | 41 => ("SistersBoardModel", "nodes", "I", false)
  | 42 => ("SistersBoardModel", "onesMany", "I", false)
  | 43 => ("SistersBoardModel", "within", "I", false)
  | _ => ("SistersBoardModel", "top", "I", false)
def qn_t11 : Nat → FieldType := fun k => match k with
  | 0 => .int
  | 1 => .array .int
  | 2 => .int
  | 3 => .int
  | 4 => .int
  | 5 => .int
  | 6 => .int
  | 7 => .int
  | 8 => .int
  | 9 => .int
  | 10 => .int
  | 11 => .int
  | 12 => .long
  | 13 => .int
  | 14 => .array .int
  | 15 => .array .int
  | 16 => .array .int
  | 17 => .array .int
  | 18 => .array .int
  | 19 => .array .long
  | 20 => .array .long
  | 21 => .array .long
  | 22 => .array .boolean
  | 23 => .array .boolean
  | 24 => .int
  | 25 => .array .long
  | 26 => .int
  | 27 => .int
  | 28 => .array .int
  | 29 => .array .int
  | 30 => .int
  | 31 => .int
  | 32 => .array .int
  | 33 => .array .int
  | 34 => .int
  | 35 => .int
  | 36 => .array .int
  | 37 => .array .int
  | 38 => .int
  | 39 => .boolean
  | 40 => .array .int
  | 41 => .int
  | 42 => .int
  | 43 => .int
  | _ => .int
theorem qn_nm11 : ∀ a, a < 45 → ∀ b, b < 45 → a ≠ b → (qn_T11 a).2.1 ≠ (qn_T11 b).2.1 := by decide +kernel
theorem qn_ok11 : ∀ k, k < 45 → parseFieldDescriptor (qn_T11 k).2.2.1 = some (qn_t11 k) := by decide +kernel
def qa_GW : List Cond := lw_tbl.filter goodWord
abbrev qa_cl : List vw_C := [(qn_R0, qn_T0, 7), (qn_R1, qn_T1, 6), (qn_R2, qn_T2, 4), (qn_R3, qn_T3, 3), (qn_R4, qn_T4, 13), (qn_R5, qn_T5, 6), (qn_R6, qn_T6, 10), (qn_R7, qn_T7, 7), (qn_R8, qn_T8, 5), (qn_R9, qn_T9, 11), (qn_R10, qn_T10, 18), (qn_R11, qn_T11, 45)]
theorem qn_in0 : ∀ w ∈ u_ws qn_R0 qn_T0 7, w ∈ qa_GW := by decide +kernel
theorem qn_in1 : ∀ w ∈ u_ws qn_R1 qn_T1 6, w ∈ qa_GW := by decide +kernel
theorem qn_in2 : ∀ w ∈ u_ws qn_R2 qn_T2 4, w ∈ qa_GW := by decide +kernel
theorem qn_in3 : ∀ w ∈ u_ws qn_R3 qn_T3 3, w ∈ qa_GW := by decide +kernel
theorem qn_in4 : ∀ w ∈ u_ws qn_R4 qn_T4 13, w ∈ qa_GW := by decide +kernel
theorem qn_in5 : ∀ w ∈ u_ws qn_R5 qn_T5 6, w ∈ qa_GW := by decide +kernel
theorem qn_in6 : ∀ w ∈ u_ws qn_R6 qn_T6 10, w ∈ qa_GW := by decide +kernel
theorem qn_in7 : ∀ w ∈ u_ws qn_R7 qn_T7 7, w ∈ qa_GW := by decide +kernel
theorem qn_in8 : ∀ w ∈ u_ws qn_R8 qn_T8 5, w ∈ qa_GW := by decide +kernel
theorem qn_in9 : ∀ w ∈ u_ws qn_R9 qn_T9 11, w ∈ qa_GW := by decide +kernel
theorem qn_in10 : ∀ w ∈ u_ws qn_R10 qn_T10 18, w ∈ qa_GW := by decide +kernel
theorem qn_in11 : ∀ w ∈ u_ws qn_R11 qn_T11 45, w ∈ qa_GW := by decide +kernel
