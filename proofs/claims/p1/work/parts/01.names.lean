theorem goodIn_r {big : List Cond} (ws : List Cond) (ps : List Nat) (hp : ws = ps.filterMap (fun i => big[i]?)) (h : ws.all goodWord = true) : GoodIn big ws := by
  intro w hw
  have h1 := List.all_eq_true.mp h w hw
  rw [hp] at hw
  obtain ⟨i, -, hi⟩ := List.mem_filterMap.mp hw
  have hm : w ∈ big := by first | exact List.mem_of_getElem? hi | exact List.getElem?_mem hi
  exact ⟨hm, good_of_word h1⟩
theorem goodIn_app {big a b : List Cond} (ha : GoodIn big a) (hb : GoodIn big b) : GoodIn big (a ++ b) := fun w h => (List.mem_append.mp h).elim (ha w) (hb w)
theorem goodIn_ca {big a b : List Cond} {c : Cond} (ha : GoodIn big (c :: a)) (hb : GoodIn big b) : GoodIn big (c :: (a ++ b)) := fun w h => (List.mem_cons.mp h).elim (fun e => ha w (List.mem_cons.mpr (Or.inl e))) (fun h => (List.mem_append.mp h).elim (fun h => ha w (List.mem_cons.mpr (Or.inr h))) (hb w))
theorem goodIn_sub {big ws : List Cond} (hm : ∀ w ∈ ws, w ∈ big) (h : ws.all goodWord = true) : GoodIn big ws := fun w hw => ⟨hm w hw, good_of_word (List.all_eq_true.mp h w hw)⟩
def RX0 : String := "CycleStudio$Definition"
def TX0 : u_T := fun k => match k with
  | 0 => ("CycleStudio$Definition", "name", "J", true)
  | 1 => ("CycleStudio$Definition", "parameters", "[J", true)
  | 2 => ("CycleStudio$Definition", "parameterCount", "I", false)
  | 3 => ("CycleStudio$Definition", "steps", "Ljava/util/ArrayList;", true)
  | 4 => ("CycleStudio$Definition", "known", "Ljava/util/ArrayList;", true)
  | 5 => ("CycleStudio$Definition", "result", "I", false)
  | _ => ("CycleStudio$Definition", "made", "LCycleStudio$Pattern;", false)
def tyX0 : Nat → FieldType := fun k => match k with
  | 0 => .long
  | 1 => .array .long
  | 2 => .int
  | 3 => .object "java/util/ArrayList"
  | 4 => .object "java/util/ArrayList"
  | 5 => .int
  | _ => .object "CycleStudio$Pattern"
abbrev wsX00 : List Cond := u_ws RX0 TX0 7
theorem nmX0 : ∀ a, a < 7 → ∀ b, b < 7 → a ≠ b → (TX0 a).2.1 ≠ (TX0 b).2.1 := by decide +kernel
theorem tyX0_ok : ∀ k, k < 7 → parseFieldDescriptor (TX0 k).2.2.1 = some (tyX0 k) := by decide +kernel
abbrev cX0_init : ByteArray := prog_2_method_1_code
def yX0_init : MethodName := ⟨RX0, "<init>", "(J)V"⟩
def RX1 : String := "CycleStudio$Events"
def TX1 : u_T := fun k => match k with
  | 0 => ("CycleStudio$Events", "begin", "[J", true)
  | 1 => ("CycleStudio$Events", "length", "[J", true)
  | 2 => ("CycleStudio$Events", "word", "[J", true)
  | 3 => ("CycleStudio$Events", "number", "[I", true)
  | 4 => ("CycleStudio$Events", "numbered", "[Z", true)
  | 5 => ("CycleStudio$Events", "mark", "[I", true)
  | 6 => ("CycleStudio$Events", "top", "I", false)
  | 7 => ("CycleStudio$Events", "spareNumber", "[I", true)
  | 8 => ("CycleStudio$Events", "spareNumbered", "[Z", true)
  | 9 => ("CycleStudio$Events", "spareWord", "[J", true)
  | 10 => ("CycleStudio$Events", "spareBegin", "[J", true)
  | 11 => ("CycleStudio$Events", "spareLength", "[J", true)
  | 12 => ("CycleStudio$Events", "keys", "[J", false)
  | _ => ("CycleStudio$Events", "spareKeys", "[J", false)
def tyX1 : Nat → FieldType := fun k => match k with
  | 0 => .array .long
  | 1 => .array .long
  | 2 => .array .long
  | 3 => .array .int
  | 4 => .array .boolean
  | 5 => .array .int
  | 6 => .int
  | 7 => .array .int
  | 8 => .array .boolean
  | 9 => .array .long
  | 10 => .array .long
  | 11 => .array .long
  | 12 => .array .long
  | _ => .array .long
abbrev wsX10 : List Cond := u_ws RX1 TX1 14
theorem nmX1 : ∀ a, a < 14 → ∀ b, b < 14 → a ≠ b → (TX1 a).2.1 ≠ (TX1 b).2.1 := by decide +kernel
theorem tyX1_ok : ∀ k, k < 14 → parseFieldDescriptor (TX1 k).2.2.1 = some (tyX1 k) := by decide +kernel
abbrev cX1_init : ByteArray := prog_3_method_1_code
def yX1_init : MethodName := ⟨RX1, "<init>", "()V"⟩
def RX2 : String := "CycleStudio$Kept"
def TX2 : u_T := fun k => match k with
  | 0 => ("CycleStudio$Kept", "track", "[I", true)
  | 1 => ("CycleStudio$Kept", "cycle", "[I", true)
  | 2 => ("CycleStudio$Kept", "begin", "[J", true)
  | 3 => ("CycleStudio$Kept", "length", "[J", true)
  | 4 => ("CycleStudio$Kept", "grain", "[J", true)
  | 5 => ("CycleStudio$Kept", "word", "[J", true)
  | 6 => ("CycleStudio$Kept", "number", "[I", true)
  | 7 => ("CycleStudio$Kept", "numbered", "[Z", true)
  | _ => ("CycleStudio$Kept", "count", "I", false)
def tyX2 : Nat → FieldType := fun k => match k with
  | 0 => .array .int
  | 1 => .array .int
  | 2 => .array .long
  | 3 => .array .long
  | 4 => .array .long
  | 5 => .array .long
  | 6 => .array .int
  | 7 => .array .boolean
  | _ => .int
abbrev wsX20 : List Cond := u_ws RX2 TX2 9
theorem nmX2 : ∀ a, a < 9 → ∀ b, b < 9 → a ≠ b → (TX2 a).2.1 ≠ (TX2 b).2.1 := by decide +kernel
theorem tyX2_ok : ∀ k, k < 9 → parseFieldDescriptor (TX2 k).2.2.1 = some (tyX2 k) := by decide +kernel
abbrev cX2_init : ByteArray := prog_4_method_1_code
def yX2_init : MethodName := ⟨RX2, "<init>", "()V"⟩
def RX3 : String := "CycleStudio$Maker"
def TX3 : u_T := fun k => match k with
  | 0 => ("CycleStudio$Maker", "nothing", "[LCycleStudio$Pattern;", true)
  | 1 => ("CycleStudio$Maker", "registers", "[LCycleStudio$Pattern;", true)
  | 2 => ("CycleStudio$Maker", "bodies", "[LCycleStudio$Definition;", true)
  | 3 => ("CycleStudio$Maker", "bases", "[I", true)
  | 4 => ("CycleStudio$Maker", "nexts", "[I", true)
  | 5 => ("CycleStudio$Maker", "level", "I", false)
  | 6 => ("CycleStudio$Maker", "usedAt", "I", false)
  | 7 => ("CycleStudio$Maker", "counted", "I", false)
  | 8 => ("CycleStudio$Maker", "fault", "I", false)
  | _ => ("CycleStudio$Maker", "place", "I", false)
def tyX3 : Nat → FieldType := fun k => match k with
  | 0 => .array (.object "CycleStudio$Pattern")
  | 1 => .array (.object "CycleStudio$Pattern")
  | 2 => .array (.object "CycleStudio$Definition")
  | 3 => .array .int
  | 4 => .array .int
  | 5 => .int
  | 6 => .int
  | 7 => .int
  | 8 => .int
  | _ => .int
abbrev wsX30 : List Cond := u_ws RX3 TX3 10
theorem nmX3 : ∀ a, a < 10 → ∀ b, b < 10 → a ≠ b → (TX3 a).2.1 ≠ (TX3 b).2.1 := by decide +kernel
theorem tyX3_ok : ∀ k, k < 10 → parseFieldDescriptor (TX3 k).2.2.1 = some (tyX3 k) := by decide +kernel
abbrev cX3_init : ByteArray := prog_5_method_1_code
def yX3_init : MethodName := ⟨RX3, "<init>", "()V"⟩
def RX4 : String := "CycleStudio$Pattern"
def TX4 : u_T := fun k => match k with
  | 0 => ("CycleStudio$Pattern", "step", "LCycleStudio$Step;", true)
  | 1 => ("CycleStudio$Pattern", "of", "[LCycleStudio$Pattern;", true)
  | 2 => ("CycleStudio$Pattern", "grain", "J", false)
  | 3 => ("CycleStudio$Pattern", "crowd", "J", false)
  | 4 => ("CycleStudio$Pattern", "reach", "J", false)
  | 5 => ("CycleStudio$Pattern", "work", "J", false)
  | _ => ("CycleStudio$Pattern", "depth", "I", false)
def tyX4 : Nat → FieldType := fun k => match k with
  | 0 => .object "CycleStudio$Step"
  | 1 => .array (.object "CycleStudio$Pattern")
  | 2 => .long
  | 3 => .long
  | 4 => .long
  | 5 => .long
  | _ => .int
theorem nmX4 : ∀ a, a < 7 → ∀ b, b < 7 → a ≠ b → (TX4 a).2.1 ≠ (TX4 b).2.1 := by decide +kernel
theorem tyX4_ok : ∀ k, k < 7 → parseFieldDescriptor (TX4 k).2.2.1 = some (tyX4 k) := by decide +kernel
def RX5 : String := "CycleStudio$Piece"
def TX5 : u_T := fun k => match k with
  | 0 => ("CycleStudio$Piece", "kind", "I", true)
  | 1 => ("CycleStudio$Piece", "place", "I", true)
  | 2 => ("CycleStudio$Piece", "a", "I", false)
  | 3 => ("CycleStudio$Piece", "b", "I", false)
  | 4 => ("CycleStudio$Piece", "c", "I", false)
  | 5 => ("CycleStudio$Piece", "d", "I", false)
  | 6 => ("CycleStudio$Piece", "fun", "LCycleStudio$Piece;", false)
  | 7 => ("CycleStudio$Piece", "next", "LCycleStudio$Piece;", false)
  | 8 => ("CycleStudio$Piece", "use", "LCycleStudio$Definition;", false)
  | 9 => ("CycleStudio$Piece", "args", "[I", true)
  | _ => ("CycleStudio$Piece", "argCount", "I", false)
def tyX5 : Nat → FieldType := fun k => match k with
  | 0 => .int
  | 1 => .int
  | 2 => .int
  | 3 => .int
  | 4 => .int
  | 5 => .int
  | 6 => .object "CycleStudio$Piece"
  | 7 => .object "CycleStudio$Piece"
  | 8 => .object "CycleStudio$Definition"
  | 9 => .array .int
  | _ => .int
theorem nmX5 : ∀ a, a < 11 → ∀ b, b < 11 → a ≠ b → (TX5 a).2.1 ≠ (TX5 b).2.1 := by decide +kernel
theorem tyX5_ok : ∀ k, k < 11 → parseFieldDescriptor (TX5 k).2.2.1 = some (tyX5 k) := by decide +kernel
def RX6 : String := "CycleStudio$Reader"
def TX6 : u_T := fun k => match k with
  | 0 => ("CycleStudio$Reader", "scanner", "LCycleStudio$Scanner;", true)
  | 1 => ("CycleStudio$Reader", "texts", "LCycleStudio$TextReader;", true)
  | 2 => ("CycleStudio$Reader", "definitions", "Ljava/util/ArrayList;", true)
  | 3 => ("CycleStudio$Reader", "functionNames", "[J", true)
  | 4 => ("CycleStudio$Reader", "body", "LCycleStudio$Definition;", false)
  | 5 => ("CycleStudio$Reader", "foundIndex", "I", false)
  | _ => ("CycleStudio$Reader", "foundDefinition", "LCycleStudio$Definition;", false)
def tyX6 : Nat → FieldType := fun k => match k with
  | 0 => .object "CycleStudio$Scanner"
  | 1 => .object "CycleStudio$TextReader"
  | 2 => .object "java/util/ArrayList"
  | 3 => .array .long
  | 4 => .object "CycleStudio$Definition"
  | 5 => .int
  | _ => .object "CycleStudio$Definition"
abbrev wsX60 : List Cond := u_ws RX6 TX6 7
theorem nmX6 : ∀ a, a < 7 → ∀ b, b < 7 → a ≠ b → (TX6 a).2.1 ≠ (TX6 b).2.1 := by decide +kernel
theorem tyX6_ok : ∀ k, k < 7 → parseFieldDescriptor (TX6 k).2.2.1 = some (tyX6 k) := by decide +kernel
abbrev cX6_init : ByteArray := prog_8_method_1_code
def yX6_init : MethodName := ⟨RX6, "<init>", "(LCycleStudio$Scanner;Ljava/util/ArrayList;)V"⟩
def RX7 : String := "CycleStudio$Rows"
def TX7 : u_T := fun k => match k with
  | 0 => ("CycleStudio$Rows", "events", "LCycleStudio$Events;", true)
  | _ => ("CycleStudio$Rows", "seed", "I", false)
def tyX7 : Nat → FieldType := fun k => match k with
  | 0 => .object "CycleStudio$Events"
  | _ => .int
abbrev wsX70 : List Cond := u_ws RX7 TX7 2
theorem nmX7 : ∀ a, a < 2 → ∀ b, b < 2 → a ≠ b → (TX7 a).2.1 ≠ (TX7 b).2.1 := by decide +kernel
theorem tyX7_ok : ∀ k, k < 2 → parseFieldDescriptor (TX7 k).2.2.1 = some (tyX7 k) := by decide +kernel
abbrev cX7_init : ByteArray := prog_9_method_1_code
def yX7_init : MethodName := ⟨RX7, "<init>", "()V"⟩
def RX8 : String := "CycleStudio$Scanner"
def TX8 : u_T := fun k => match k with
  | 0 => ("CycleStudio$Scanner", "bytes", "[B", true)
  | 1 => ("CycleStudio$Scanner", "size", "I", false)
  | 2 => ("CycleStudio$Scanner", "fault", "I", false)
  | 3 => ("CycleStudio$Scanner", "place", "I", false)
  | 4 => ("CycleStudio$Scanner", "open", "I", false)
  | 5 => ("CycleStudio$Scanner", "kind", "I", false)
  | 6 => ("CycleStudio$Scanner", "at", "I", false)
  | 7 => ("CycleStudio$Scanner", "behind", "I", false)
  | 8 => ("CycleStudio$Scanner", "name", "J", false)
  | 9 => ("CycleStudio$Scanner", "upper", "I", false)
  | _ => ("CycleStudio$Scanner", "lower", "I", false)
def tyX8 : Nat → FieldType := fun k => match k with
  | 0 => .array .byte
  | 1 => .int
  | 2 => .int
  | 3 => .int
  | 4 => .int
  | 5 => .int
  | 6 => .int
  | 7 => .int
  | 8 => .long
  | 9 => .int
  | _ => .int
abbrev wsX80 : List Cond := u_ws RX8 TX8 11
theorem nmX8 : ∀ a, a < 11 → ∀ b, b < 11 → a ≠ b → (TX8 a).2.1 ≠ (TX8 b).2.1 := by decide +kernel
theorem tyX8_ok : ∀ k, k < 11 → parseFieldDescriptor (TX8 k).2.2.1 = some (tyX8 k) := by decide +kernel
abbrev cX8_init : ByteArray := prog_10_method_1_code
def yX8_init : MethodName := ⟨RX8, "<init>", "()V"⟩
abbrev cX8_isDigit : ByteArray := prog_10_method_9_code
def yX8_isDigit : MethodName := ⟨RX8, "isDigit", "(I)Z"⟩
abbrev cX8_longer : ByteArray := prog_10_method_12_code
def yX8_longer : MethodName := ⟨RX8, "longer", "(JI)J"⟩
def RX9 : String := "CycleStudio$Step"
def TX9 : u_T := fun k => match k with
  | 0 => ("CycleStudio$Step", "kind", "I", true)
  | 1 => ("CycleStudio$Step", "place", "I", true)
  | 2 => ("CycleStudio$Step", "a", "I", false)
  | 3 => ("CycleStudio$Step", "b", "I", false)
  | 4 => ("CycleStudio$Step", "c", "I", false)
  | 5 => ("CycleStudio$Step", "d", "I", false)
  | 6 => ("CycleStudio$Step", "countsParts", "Z", false)
  | 7 => ("CycleStudio$Step", "word", "J", false)
  | 8 => ("CycleStudio$Step", "use", "LCycleStudio$Definition;", false)
  | 9 => ("CycleStudio$Step", "count", "I", false)
  | 10 => ("CycleStudio$Step", "of", "[I", false)
  | 11 => ("CycleStudio$Step", "weights", "[I", false)
  | 12 => ("CycleStudio$Step", "repeats", "[I", false)
  | _ => ("CycleStudio$Step", "ends", "[I", false)
def tyX9 : Nat → FieldType := fun k => match k with
  | 0 => .int
  | 1 => .int
  | 2 => .int
  | 3 => .int
  | 4 => .int
  | 5 => .int
  | 6 => .boolean
  | 7 => .long
  | 8 => .object "CycleStudio$Definition"
  | 9 => .int
  | 10 => .array .int
  | 11 => .array .int
  | 12 => .array .int
  | _ => .array .int
theorem nmX9 : ∀ a, a < 14 → ∀ b, b < 14 → a ≠ b → (TX9 a).2.1 ≠ (TX9 b).2.1 := by decide +kernel
theorem tyX9_ok : ∀ k, k < 14 → parseFieldDescriptor (TX9 k).2.2.1 = some (tyX9 k) := by decide +kernel
def RX10 : String := "CycleStudio$TextReader"
def TX10 : u_T := fun k => match k with
  | 0 => ("CycleStudio$TextReader", "scanner", "LCycleStudio$Scanner;", true)
  | 1 => ("CycleStudio$TextReader", "body", "LCycleStudio$Definition;", false)
  | 2 => ("CycleStudio$TextReader", "at", "I", false)
  | 3 => ("CycleStudio$TextReader", "close", "I", false)
  | 4 => ("CycleStudio$TextReader", "questions", "I", false)
  | _ => ("CycleStudio$TextReader", "digitsAt", "I", false)
def tyX10 : Nat → FieldType := fun k => match k with
  | 0 => .object "CycleStudio$Scanner"
  | 1 => .object "CycleStudio$Definition"
  | 2 => .int
  | 3 => .int
  | 4 => .int
  | _ => .int
abbrev wsX100 : List Cond := u_ws RX10 TX10 6
theorem nmX10 : ∀ a, a < 6 → ∀ b, b < 6 → a ≠ b → (TX10 a).2.1 ≠ (TX10 b).2.1 := by decide +kernel
theorem tyX10_ok : ∀ k, k < 6 → parseFieldDescriptor (TX10 k).2.2.1 = some (tyX10 k) := by decide +kernel
abbrev cX10_init : ByteArray := prog_12_method_1_code
def yX10_init : MethodName := ⟨RX10, "<init>", "(LCycleStudio$Scanner;)V"⟩
def RX11 : String := "CycleStudio"
def TX11 : u_T := fun k => match k with
  | 0 => ("CycleStudio", "scanner", "LCycleStudio$Scanner;", true)
  | 1 => ("CycleStudio", "maker", "LCycleStudio$Maker;", true)
  | 2 => ("CycleStudio", "rows", "LCycleStudio$Rows;", true)
  | 3 => ("CycleStudio", "asked", "LCycleStudio$Kept;", true)
  | 4 => ("CycleStudio", "heardOnes", "LCycleStudio$Kept;", true)
  | 5 => ("CycleStudio", "definitions", "Ljava/util/ArrayList;", true)
  | 6 => ("CycleStudio", "trial", "Ljava/util/ArrayList;", true)
  | 7 => ("CycleStudio", "reader", "LCycleStudio$Reader;", true)
  | 8 => ("CycleStudio", "patterns", "[LCycleStudio$Pattern;", true)
  | 9 => ("CycleStudio", "coming", "[LCycleStudio$Pattern;", true)
  | 10 => ("CycleStudio", "waiting", "[Z", true)
  | 11 => ("CycleStudio", "muted", "[Z", true)
  | 12 => ("CycleStudio", "alone", "[Z", true)
  | 13 => ("CycleStudio", "now", "I", false)
  | 14 => ("CycleStudio", "heardInAll", "I", false)
  | 15 => ("CycleStudio", "hasTold", "Z", false)
  | 16 => ("CycleStudio", "toldFault", "I", false)
  | 17 => ("CycleStudio", "toldPlace", "I", false)
  | _ => ("CycleStudio", "toldCounted", "I", false)
def tyX11 : Nat → FieldType := fun k => match k with
  | 0 => .object "CycleStudio$Scanner"
  | 1 => .object "CycleStudio$Maker"
  | 2 => .object "CycleStudio$Rows"
  | 3 => .object "CycleStudio$Kept"
  | 4 => .object "CycleStudio$Kept"
  | 5 => .object "java/util/ArrayList"
  | 6 => .object "java/util/ArrayList"
  | 7 => .object "CycleStudio$Reader"
  | 8 => .array (.object "CycleStudio$Pattern")
  | 9 => .array (.object "CycleStudio$Pattern")
  | 10 => .array .boolean
  | 11 => .array .boolean
  | 12 => .array .boolean
  | 13 => .int
  | 14 => .int
  | 15 => .boolean
  | 16 => .int
  | 17 => .int
  | _ => .int
abbrev wsX110 : List Cond := u_ws RX11 TX11 19
theorem nmX11 : ∀ a, a < 19 → ∀ b, b < 19 → a ≠ b → (TX11 a).2.1 ≠ (TX11 b).2.1 := by decide +kernel
theorem tyX11_ok : ∀ k, k < 19 → parseFieldDescriptor (TX11 k).2.2.1 = some (tyX11 k) := by decide +kernel
abbrev cX11_init : ByteArray := prog_1_method_1_code
def yX11_init : MethodName := ⟨RX11, "<init>", "()V"⟩
def RX12 : String := "CycleStudioModel"
def TX12 : u_T := fun k => match k with
  | 0 => ("CycleStudioModel", "tape", "[B", true)
  | 1 => ("CycleStudioModel", "size", "I", false)
  | 2 => ("CycleStudioModel", "at", "I", false)
  | 3 => ("CycleStudioModel", "token", "I", false)
  | 4 => ("CycleStudioModel", "tokenAt", "I", false)
  | 5 => ("CycleStudioModel", "tokenEnd", "I", false)
  | 6 => ("CycleStudioModel", "sign", "I", false)
  | 7 => ("CycleStudioModel", "nameA", "J", false)
  | 8 => ("CycleStudioModel", "nameB", "J", false)
  | 9 => ("CycleStudioModel", "above", "I", false)
  | 10 => ("CycleStudioModel", "below", "I", false)
  | 11 => ("CycleStudioModel", "fault", "I", false)
  | 12 => ("CycleStudioModel", "faultAt", "I", false)
  | 13 => ("CycleStudioModel", "opened", "I", false)
  | 14 => ("CycleStudioModel", "functionNames", "[C", true)
  | 15 => ("CycleStudioModel", "wants", "[I", true)
  | 16 => ("CycleStudioModel", "nodes", "I", false)
  | 17 => ("CycleStudioModel", "kindOf", "[I", true)
  | 18 => ("CycleStudioModel", "placeOf", "[I", true)
  | 19 => ("CycleStudioModel", "p0", "[I", true)
  | 20 => ("CycleStudioModel", "p1", "[I", true)
  | 21 => ("CycleStudioModel", "p2", "[I", true)
  | 22 => ("CycleStudioModel", "p3", "[I", true)
  | 23 => ("CycleStudioModel", "p4", "[I", true)
  | 24 => ("CycleStudioModel", "first", "[I", true)
  | 25 => ("CycleStudioModel", "last", "[I", true)
  | 26 => ("CycleStudioModel", "next", "[I", true)
  | 27 => ("CycleStudioModel", "value", "[I", true)
  | 28 => ("CycleStudioModel", "versions", "I", false)
  | 29 => ("CycleStudioModel", "defA", "[J", true)
  | 30 => ("CycleStudioModel", "defB", "[J", true)
  | 31 => ("CycleStudioModel", "defParams", "[I", true)
  | 32 => ("CycleStudioModel", "defBody", "[I", true)
  | 33 => ("CycleStudioModel", "defPattern", "[I", true)
  | 34 => ("CycleStudioModel", "held", "I", false)
  | 35 => ("CycleStudioModel", "holding", "[I", true)
  | 36 => ("CycleStudioModel", "reading", "I", false)
  | 37 => ("CycleStudioModel", "now", "[I", true)
  | 38 => ("CycleStudioModel", "params", "I", false)
  | 39 => ("CycleStudioModel", "paramA", "[J", true)
  | 40 => ("CycleStudioModel", "paramB", "[J", true)
  | 41 => ("CycleStudioModel", "piled", "I", false)
  | 42 => ("CycleStudioModel", "pileKind", "[I", true)
  | 43 => ("CycleStudioModel", "pileNode", "[I", true)
  | 44 => ("CycleStudioModel", "pileState", "[I", true)
  | 45 => ("CycleStudioModel", "pileNumber", "[I", true)
  | 46 => ("CycleStudioModel", "done", "I", false)
  | 47 => ("CycleStudioModel", "maybes", "I", false)
  | 48 => ("CycleStudioModel", "patterns", "I", false)
  | 49 => ("CycleStudioModel", "kind", "[I", true)
  | 50 => ("CycleStudioModel", "qa", "[I", true)
  | 51 => ("CycleStudioModel", "qb", "[I", true)
  | 52 => ("CycleStudioModel", "qc", "[I", true)
  | 53 => ("CycleStudioModel", "qd", "[I", true)
  | 54 => ("CycleStudioModel", "kidFrom", "[I", true)
  | 55 => ("CycleStudioModel", "kidMany", "[I", true)
  | 56 => ("CycleStudioModel", "grain", "[I", true)
  | 57 => ("CycleStudioModel", "crowd", "[I", true)
  | 58 => ("CycleStudioModel", "reach", "[I", true)
  | 59 => ("CycleStudioModel", "work", "[I", true)
  | 60 => ("CycleStudioModel", "deep", "[I", true)
  | 61 => ("CycleStudioModel", "kids", "I", false)
  | 62 => ("CycleStudioModel", "kid", "[I", true)
  | 63 => ("CycleStudioModel", "kidWeight", "[I", true)
  | 64 => ("CycleStudioModel", "counted", "I", false)
  | 65 => ("CycleStudioModel", "tasks", "I", false)
  | 66 => ("CycleStudioModel", "task", "[I", true)
  | 67 => ("CycleStudioModel", "taskOf", "[I", true)
  | 68 => ("CycleStudioModel", "top", "I", false)
  | 69 => ("CycleStudioModel", "pile", "[I", true)
  | 70 => ("CycleStudioModel", "level", "I", false)
  | 71 => ("CycleStudioModel", "levelAt", "I", false)
  | 72 => ("CycleStudioModel", "inUse", "[I", true)
  | 73 => ("CycleStudioModel", "g", "J", false)
  | 74 => ("CycleStudioModel", "cSum", "J", false)
  | 75 => ("CycleStudioModel", "cMost", "J", false)
  | 76 => ("CycleStudioModel", "\x72", "J", false)
  | 77 => ("CycleStudioModel", "wSum", "J", false)
  | 78 => ("CycleStudioModel", "wMost", "J", false)
  | 79 => ("CycleStudioModel", "dMost", "I", false)
  | 80 => ("CycleStudioModel", "b0", "J", false)
  | 81 => ("CycleStudioModel", "b1", "J", false)
  | 82 => ("CycleStudioModel", "b2", "J", false)
  | 83 => ("CycleStudioModel", "b3", "J", false)
  | 84 => ("CycleStudioModel", "events", "I", false)
  | 85 => ("CycleStudioModel", "from", "[J", true)
  | 86 => ("CycleStudioModel", "upTo", "[J", true)
  | 87 => ("CycleStudioModel", "wordA", "[I", true)
  | 88 => ("CycleStudioModel", "wordB", "[I", true)
  | 89 => ("CycleStudioModel", "amount", "[I", true)
  | 90 => ("CycleStudioModel", "has", "[I", true)
  | 91 => ("CycleStudioModel", "soundHas", "[I", true)
  | 92 => ("CycleStudioModel", "soundA", "[I", true)
  | 93 => ("CycleStudioModel", "soundB", "[I", true)
  | 94 => ("CycleStudioModel", "soundN", "[I", true)
  | 95 => ("CycleStudioModel", "seed", "I", false)
  | 96 => ("CycleStudioModel", "frames", "I", false)
  | 97 => ("CycleStudioModel", "fPattern", "[I", true)
  | 98 => ("CycleStudioModel", "fCycle", "[J", true)
  | 99 => ("CycleStudioModel", "fState", "[I", true)
  | 100 => ("CycleStudioModel", "fBase", "[I", true)
  | 101 => ("CycleStudioModel", "fMark", "[I", true)
  | 102 => ("CycleStudioModel", "fKid", "[I", true)
  | 103 => ("CycleStudioModel", "fCount", "[I", true)
  | 104 => ("CycleStudioModel", "fAhead", "[J", true)
  | 105 => ("CycleStudioModel", "fRow", "[J", true)
  | 106 => ("CycleStudioModel", "fEnd", "[J", true)
  | 107 => ("CycleStudioModel", "turnA", "[I", true)
  | 108 => ("CycleStudioModel", "turnB", "[I", true)
  | 109 => ("CycleStudioModel", "turnN", "[I", true)
  | 110 => ("CycleStudioModel", "turnHas", "[I", true)
  | 111 => ("CycleStudioModel", "track", "[I", true)
  | 112 => ("CycleStudioModel", "waiting", "[I", true)
  | 113 => ("CycleStudioModel", "muted", "[Z", true)
  | 114 => ("CycleStudioModel", "alone", "[Z", true)
  | 115 => ("CycleStudioModel", "cycle", "I", false)
  | 116 => ("CycleStudioModel", "part", "I", false)
  | 117 => ("CycleStudioModel", "heardInAll", "I", false)
  | 118 => ("CycleStudioModel", "toldFault", "I", false)
  | 119 => ("CycleStudioModel", "toldAt", "I", false)
  | 120 => ("CycleStudioModel", "toldMany", "I", false)
  | 121 => ("CycleStudioModel", "asked", "I", false)
  | 122 => ("CycleStudioModel", "askedFrom", "[J", true)
  | 123 => ("CycleStudioModel", "askedSize", "[J", true)
  | 124 => ("CycleStudioModel", "askedA", "[I", true)
  | 125 => ("CycleStudioModel", "askedB", "[I", true)
  | 126 => ("CycleStudioModel", "askedN", "[I", true)
  | 127 => ("CycleStudioModel", "askedHas", "[I", true)
  | 128 => ("CycleStudioModel", "askedGrain", "I", false)
  | 129 => ("CycleStudioModel", "heard", "I", false)
  | 130 => ("CycleStudioModel", "heardTrack", "[I", true)
  | 131 => ("CycleStudioModel", "heardCycle", "[I", true)
  | 132 => ("CycleStudioModel", "heardGrain", "[I", true)
  | 133 => ("CycleStudioModel", "heardFrom", "[J", true)
  | 134 => ("CycleStudioModel", "heardSize", "[J", true)
  | 135 => ("CycleStudioModel", "heardA", "[I", true)
  | 136 => ("CycleStudioModel", "heardB", "[I", true)
  | 137 => ("CycleStudioModel", "heardN", "[I", true)
  | 138 => ("CycleStudioModel", "heardHas", "[I", true)
  | 139 => ("CycleStudioModel", "beats", "I", false)
  | 140 => ("CycleStudioModel", "beatTrack", "[I", true)
  | 141 => ("CycleStudioModel", "beatGrain", "[I", true)
  | 142 => ("CycleStudioModel", "beatFrom", "[J", true)
  | 143 => ("CycleStudioModel", "beatSize", "[J", true)
  | 144 => ("CycleStudioModel", "beatA", "[I", true)
  | 145 => ("CycleStudioModel", "beatB", "[I", true)
  | 146 => ("CycleStudioModel", "beatN", "[I", true)
  | 147 => ("CycleStudioModel", "beatHas", "[I", true)
  | 148 => ("CycleStudioModel", "order", "[I", true)
  | 149 => ("CycleStudioModel", "nodesWere", "I", false)
  | 150 => ("CycleStudioModel", "patternsWere", "I", false)
  | 151 => ("CycleStudioModel", "kidsWere", "I", false)
  | _ => ("CycleStudioModel", "versionsWere", "I", false)
def tyX12 : Nat → FieldType := fun k => match k with
  | 0 => .array .byte
  | 1 => .int
  | 2 => .int
  | 3 => .int
  | 4 => .int
  | 5 => .int
  | 6 => .int
  | 7 => .long
  | 8 => .long
  | 9 => .int
  | 10 => .int
  | 11 => .int
  | 12 => .int
  | 13 => .int
  | 14 => .array .char
  | 15 => .array .int
  | 16 => .int
  | 17 => .array .int
  | 18 => .array .int
  | 19 => .array .int
  | 20 => .array .int
  | 21 => .array .int
  | 22 => .array .int
  | 23 => .array .int
  | 24 => .array .int
  | 25 => .array .int
  | 26 => .array .int
  | 27 => .array .int
  | 28 => .int
  | 29 => .array .long
  | 30 => .array .long
  | 31 => .array .int
  | 32 => .array .int
  | 33 => .array .int
  | 34 => .int
  | 35 => .array .int
  | 36 => .int
  | 37 => .array .int
  | 38 => .int
  | 39 => .array .long
  | 40 => .array .long
  | 41 => .int
  | 42 => .array .int
  | 43 => .array .int
  | 44 => .array .int
  | 45 => .array .int
  | 46 => .int
  | 47 => .int
  | 48 => .int
  | 49 => .array .int
  | 50 => .array .int
  | 51 => .array .int
  | 52 => .array .int
  | 53 => .array .int
  | 54 => .array .int
  | 55 => .array .int
  | 56 => .array .int
  | 57 => .array .int
  | 58 => .array .int
  | 59 => .array .int
  | 60 => .array .int
  | 61 => .int
  | 62 => .array .int
  | 63 => .array .int
  | 64 => .int
  | 65 => .int
  | 66 => .array .int
  | 67 => .array .int
  | 68 => .int
  | 69 => .array .int
  | 70 => .int
  | 71 => .int
  | 72 => .array .int
  | 73 => .long
  | 74 => .long
  | 75 => .long
  | 76 => .long
  | 77 => .long
  | 78 => .long
  | 79 => .int
  | 80 => .long
  | 81 => .long
  | 82 => .long
  | 83 => .long
  | 84 => .int
  | 85 => .array .long
  | 86 => .array .long
  | 87 => .array .int
  | 88 => .array .int
  | 89 => .array .int
  | 90 => .array .int
  | 91 => .array .int
  | 92 => .array .int
  | 93 => .array .int
  | 94 => .array .int
  | 95 => .int
  | 96 => .int
  | 97 => .array .int
  | 98 => .array .long
  | 99 => .array .int
  | 100 => .array .int
  | 101 => .array .int
  | 102 => .array .int
  | 103 => .array .int
  | 104 => .array .long
  | 105 => .array .long
  | 106 => .array .long
  | 107 => .array .int
  | 108 => .array .int
  | 109 => .array .int
  | 110 => .array .int
  | 111 => .array .int
  | 112 => .array .int
  | 113 => .array .boolean
  | 114 => .array .boolean
  | 115 => .int
  | 116 => .int
  | 117 => .int
  | 118 => .int
  | 119 => .int
  | 120 => .int
  | 121 => .int
  | 122 => .array .long
  | 123 => .array .long
  | 124 => .array .int
  | 125 => .array .int
  | 126 => .array .int
  | 127 => .array .int
  | 128 => .int
  | 129 => .int
  | 130 => .array .int
  | 131 => .array .int
  | 132 => .array .int
  | 133 => .array .long
  | 134 => .array .long
  | 135 => .array .int
  | 136 => .array .int
  | 137 => .array .int
  | 138 => .array .int
  | 139 => .int
  | 140 => .array .int
  | 141 => .array .int
  | 142 => .array .long
  | 143 => .array .long
  | 144 => .array .int
  | 145 => .array .int
  | 146 => .array .int
  | 147 => .array .int
  | 148 => .array .int
  | 149 => .int
  | 150 => .int
  | 151 => .int
  | _ => .int
theorem nmX12 : ∀ a, a < 153 → ∀ b, b < 153 → a ≠ b → (TX12 a).2.1 ≠ (TX12 b).2.1 := by decide +kernel
theorem tyX12_ok : ∀ k, k < 153 → parseFieldDescriptor (TX12 k).2.2.1 = some (tyX12 k) := by decide +kernel
def RJ0 : String := "java/lang/String"
def TJ0 : u_T := fun k => match k with
  | _ => ("", "", "", false)
def tyJ0 : Nat → FieldType := fun k => match k with
  | _ => .int
theorem nmJ0 : ∀ a, a < 0 → ∀ b, b < 0 → a ≠ b → (TJ0 a).2.1 ≠ (TJ0 b).2.1 := by decide +kernel
theorem tyJ0_ok : ∀ k, k < 0 → parseFieldDescriptor (TJ0 k).2.2.1 = some (tyJ0 k) := by decide +kernel
abbrev cJ0_length_8abf5 : ByteArray := prog_19_method_54_code
def yJ0_length_8abf5 : MethodName := ⟨RJ0, "length", "()I"⟩
abbrev cJ0_charAt_5068e : ByteArray := prog_19_method_56_code
def yJ0_charAt_5068e : MethodName := ⟨RJ0, "charAt", "(I)C"⟩
abbrev cJ0_coder_7d493 : ByteArray := prog_19_method_152_code
def yJ0_coder_7d493 : MethodName := ⟨RJ0, "coder", "()B"⟩
abbrev cJ0_isLatin1_aae02 : ByteArray := prog_19_method_154_code
def yJ0_isLatin1_aae02 : MethodName := ⟨RJ0, "isLatin1", "()Z"⟩
abbrev cJ0_checkIndex_df160 : ByteArray := prog_19_method_155_code
def yJ0_checkIndex_df160 : MethodName := ⟨RJ0, "checkIndex", "(II)V"⟩
def RJ1 : String := "java/lang/StringLatin1"
def TJ1 : u_T := fun k => match k with
  | _ => ("", "", "", false)
def tyJ1 : Nat → FieldType := fun k => match k with
  | _ => .int
theorem nmJ1 : ∀ a, a < 0 → ∀ b, b < 0 → a ≠ b → (TJ1 a).2.1 ≠ (TJ1 b).2.1 := by decide +kernel
theorem tyJ1_ok : ∀ k, k < 0 → parseFieldDescriptor (TJ1 k).2.2.1 = some (tyJ1 k) := by decide +kernel
abbrev cJ1_charAt_3b067 : ByteArray := prog_20_method_2_code
def yJ1_charAt_3b067 : MethodName := ⟨RJ1, "charAt", "([BI)C"⟩
def RJ2 : String := "java/lang/StringUTF16"
def TJ2 : u_T := fun k => match k with
  | _ => ("", "", "", false)
def tyJ2 : Nat → FieldType := fun k => match k with
  | _ => .int
theorem nmJ2 : ∀ a, a < 0 → ∀ b, b < 0 → a ≠ b → (TJ2 a).2.1 ≠ (TJ2 b).2.1 := by decide +kernel
theorem tyJ2_ok : ∀ k, k < 0 → parseFieldDescriptor (TJ2 k).2.2.1 = some (tyJ2 k) := by decide +kernel
abbrev cJ2_getChar_3b067 : ByteArray := prog_21_method_5_code
def yJ2_getChar_3b067 : MethodName := ⟨RJ2, "getChar", "([BI)C"⟩
abbrev cJ2_length_9d52b : ByteArray := prog_21_method_6_code
def yJ2_length_9d52b : MethodName := ⟨RJ2, "length", "([B)I"⟩
abbrev cJ2_charAt_3b067 : ByteArray := prog_21_method_83_code
def yJ2_charAt_3b067 : MethodName := ⟨RJ2, "charAt", "([BI)C"⟩
abbrev cJ2_checkIndex_2214a : ByteArray := prog_21_method_91_code
def yJ2_checkIndex_2214a : MethodName := ⟨RJ2, "checkIndex", "(I[B)V"⟩
def RJxa1e45 : String := "java/util/AbstractCollection"
def TJxa1e45 : u_T := fun k => match k with
  | _ => ("", "", "", false)
def tyJxa1e45 : Nat → FieldType := fun k => match k with
  | _ => .int
theorem nmJxa1e45 : ∀ a, a < 0 → ∀ b, b < 0 → a ≠ b → (TJxa1e45 a).2.1 ≠ (TJxa1e45 b).2.1 := by decide +kernel
theorem tyJxa1e45_ok : ∀ k, k < 0 → parseFieldDescriptor (TJxa1e45 k).2.2.1 = some (tyJxa1e45 k) := by decide +kernel
abbrev cJxa1e45_init_da8c8 : ByteArray := prog_23_method_1_code
def yJxa1e45_init_da8c8 : MethodName := ⟨RJxa1e45, "<init>", "()V"⟩
def RJxc12de : String := "java/util/AbstractList"
def TJxc12de : u_T := fun k => match k with
  | _ => ("", "", "", false)
def tyJxc12de : Nat → FieldType := fun k => match k with
  | _ => .int
theorem nmJxc12de : ∀ a, a < 0 → ∀ b, b < 0 → a ≠ b → (TJxc12de a).2.1 ≠ (TJxc12de b).2.1 := by decide +kernel
theorem tyJxc12de_ok : ∀ k, k < 0 → parseFieldDescriptor (TJxc12de k).2.2.1 = some (tyJxc12de k) := by decide +kernel
abbrev cJxc12de_init_da8c8 : ByteArray := prog_24_method_1_code
def yJxc12de_init_da8c8 : MethodName := ⟨RJxc12de, "<init>", "()V"⟩
def RJx4a65c : String := "java/util/ArrayList"
def TJx4a65c : u_T := fun k => match k with
  | 0 => ("java/util/AbstractList", "modCount", "I", false)
  | 1 => ("java/util/ArrayList", "elementData", "[Ljava/lang/Object;", false)
  | _ => ("java/util/ArrayList", "size", "I", false)
def tyJx4a65c : Nat → FieldType := fun k => match k with
  | 0 => .int
  | 1 => .array (.object "java/lang/Object")
  | _ => .int
abbrev wsJx4a65c0 : List Cond := u_ws RJx4a65c TJx4a65c 3
theorem nmJx4a65c : ∀ a, a < 3 → ∀ b, b < 3 → a ≠ b → (TJx4a65c a).2.1 ≠ (TJx4a65c b).2.1 := by decide +kernel
theorem tyJx4a65c_ok : ∀ k, k < 3 → parseFieldDescriptor (TJx4a65c k).2.2.1 = some (tyJx4a65c k) := by decide +kernel
abbrev cJx4a65c_init_da8c8 : ByteArray := prog_25_method_2_code
def yJx4a65c_init_da8c8 : MethodName := ⟨RJx4a65c, "<init>", "()V"⟩
def RJ3 : String := "jdk/internal/util/Preconditions"
def TJ3 : u_T := fun k => match k with
  | _ => ("", "", "", false)
def tyJ3 : Nat → FieldType := fun k => match k with
  | _ => .int
theorem nmJ3 : ∀ a, a < 0 → ∀ b, b < 0 → a ≠ b → (TJ3 a).2.1 ≠ (TJ3 b).2.1 := by decide +kernel
theorem tyJ3_ok : ∀ k, k < 0 → parseFieldDescriptor (TJ3 k).2.2.1 = some (tyJ3 k) := by decide +kernel
abbrev cJ3_checkIndex_8e157 : ByteArray := prog_33_method_11_code
def yJ3_checkIndex_8e157 : MethodName := ⟨RJ3, "checkIndex", "(IILjava/util/function/BiFunction;)I"⟩
def wsJxa1e45_init_da8c8 : List Cond := .code yJxa1e45_init_da8c8 cJxa1e45_init_da8c8 1 none :: ([.methodLink RJxa1e45 1 objectInit, .instanceMethod objectInit, .code objectInit ⟨#[0xb1]⟩ 1 none])
def wsJxc12de_init_da8c8 : List Cond := .code yJxc12de_init_da8c8 cJxc12de_init_da8c8 1 none :: ([.fieldLink RJxc12de 7 "java/util/AbstractList" "modCount" "I", .methodLink RJxc12de 1 yJxa1e45_init_da8c8, .instanceMethod yJxa1e45_init_da8c8, .initialized RJxa1e45, .code yJxa1e45_init_da8c8 cJxa1e45_init_da8c8 1 none, .methodLink RJxa1e45 1 objectInit, .instanceMethod objectInit, .code objectInit ⟨#[0xb1]⟩ 1 none] ++ wsJx4a65c0)
def wsJx4a65c_init_da8c8 : List Cond := .code yJx4a65c_init_da8c8 cJx4a65c_init_da8c8 1 none :: ([.fieldLink RJx4a65c 39 "java/util/ArrayList" "DEFAULTCAPACITY_EMPTY_ELEMENTDATA" "[Ljava/lang/Object;", .fieldLink RJx4a65c 9 "java/util/ArrayList" "elementData" "[Ljava/lang/Object;", .methodLink RJx4a65c 1 yJxc12de_init_da8c8, .instanceMethod yJxc12de_init_da8c8, .initialized RJxc12de, .code yJxc12de_init_da8c8 cJxc12de_init_da8c8 1 none, .fieldLink RJxc12de 7 "java/util/AbstractList" "modCount" "I", .methodLink RJxc12de 1 yJxa1e45_init_da8c8, .instanceMethod yJxa1e45_init_da8c8, .initialized RJxa1e45, .code yJxa1e45_init_da8c8 cJxa1e45_init_da8c8 1 none, .methodLink RJxa1e45 1 objectInit, .instanceMethod objectInit, .code objectInit ⟨#[0xb1]⟩ 1 none] ++ wsJx4a65c0)
def wsX0_init_r1 : List Cond := [Cond.methodLink RX0 1 objectInit, Cond.instanceMethod objectInit, Cond.code objectInit ⟨#[0xb1]⟩ 1 none, Cond.arrayClass .long, Cond.fieldLink RX0 9 "CycleStudio$Definition" "parameters" "[J", Cond.fieldLink RX0 13 "CycleStudio$Definition" "parameterCount" "I", Cond.classLink RX0 17 RJx4a65c, Cond.instantiable RJx4a65c 3, Cond.initialized RJx4a65c, Cond.fieldLink RX0 20 "CycleStudio$Definition" "steps" "Ljava/util/ArrayList;", Cond.fieldLink RX0 24 "CycleStudio$Definition" "known" "Ljava/util/ArrayList;", Cond.fieldLink RX0 27 "CycleStudio$Definition" "result" "I", Cond.fieldLink RX0 30 "CycleStudio$Definition" "made" "LCycleStudio$Pattern;", Cond.fieldLink RX0 34 "CycleStudio$Definition" "name" "J", Cond.methodLink RX0 19 yJx4a65c_init_da8c8, Cond.instanceMethod yJx4a65c_init_da8c8, Cond.code yJx4a65c_init_da8c8 cJx4a65c_init_da8c8 1 none, Cond.fieldLink RJx4a65c 39 "java/util/ArrayList" "DEFAULTCAPACITY_EMPTY_ELEMENTDATA" "[Ljava/lang/Object;", Cond.fieldLink RJx4a65c 9 "java/util/ArrayList" "elementData" "[Ljava/lang/Object;", Cond.methodLink RJx4a65c 1 yJxc12de_init_da8c8, Cond.instanceMethod yJxc12de_init_da8c8, Cond.initialized RJxc12de, Cond.code yJxc12de_init_da8c8 cJxc12de_init_da8c8 1 none, Cond.fieldLink RJxc12de 7 "java/util/AbstractList" "modCount" "I"]
def wsX0_init_r2 : List Cond := [Cond.methodLink RJxc12de 1 yJxa1e45_init_da8c8, Cond.instanceMethod yJxa1e45_init_da8c8, Cond.initialized RJxa1e45, Cond.code yJxa1e45_init_da8c8 cJxa1e45_init_da8c8 1 none, Cond.methodLink RJxa1e45 1 objectInit]
def wsX0_init : List Cond := .code yX0_init cX0_init 3 none :: ((wsX0_init_r1 ++ wsX0_init_r2) ++ wsX00 ++ wsJx4a65c0)
def wsX1_init : List Cond := .code yX1_init cX1_init 1 none :: ([.methodLink RX1 1 objectInit, .instanceMethod objectInit, .code objectInit ⟨#[0xb1]⟩ 1 none, .arrayClass .long, .fieldLink RX1 9 "CycleStudio$Events" "begin" "[J", .fieldLink RX1 13 "CycleStudio$Events" "length" "[J", .fieldLink RX1 16 "CycleStudio$Events" "word" "[J", .arrayClass .int, .fieldLink RX1 19 "CycleStudio$Events" "number" "[I", .arrayClass .boolean, .fieldLink RX1 23 "CycleStudio$Events" "numbered" "[Z", .fieldLink RX1 27 "CycleStudio$Events" "mark" "[I", .fieldLink RX1 30 "CycleStudio$Events" "top" "I", .fieldLink RX1 34 "CycleStudio$Events" "spareNumber" "[I", .fieldLink RX1 37 "CycleStudio$Events" "spareNumbered" "[Z", .fieldLink RX1 40 "CycleStudio$Events" "spareWord" "[J", .fieldLink RX1 43 "CycleStudio$Events" "spareBegin" "[J", .fieldLink RX1 46 "CycleStudio$Events" "spareLength" "[J", .fieldLink RX1 49 "CycleStudio$Events" "keys" "[J", .fieldLink RX1 52 "CycleStudio$Events" "spareKeys" "[J"] ++ wsX10)
def wsX2_init : List Cond := .code yX2_init cX2_init 1 none :: ([.methodLink RX2 3 objectInit, .instanceMethod objectInit, .code objectInit ⟨#[0xb1]⟩ 1 none, .arrayClass .int, .fieldLink RX2 11 "CycleStudio$Kept" "track" "[I", .fieldLink RX2 15 "CycleStudio$Kept" "cycle" "[I", .arrayClass .long, .fieldLink RX2 18 "CycleStudio$Kept" "begin" "[J", .fieldLink RX2 22 "CycleStudio$Kept" "length" "[J", .fieldLink RX2 25 "CycleStudio$Kept" "grain" "[J", .fieldLink RX2 28 "CycleStudio$Kept" "word" "[J", .fieldLink RX2 31 "CycleStudio$Kept" "number" "[I", .arrayClass .boolean, .fieldLink RX2 34 "CycleStudio$Kept" "numbered" "[Z", .fieldLink RX2 38 "CycleStudio$Kept" "count" "I"] ++ wsX20)
def wsX3_init : List Cond := .code yX3_init cX3_init 1 none :: ([.methodLink RX3 1 objectInit, .instanceMethod objectInit, .code objectInit ⟨#[0xb1]⟩ 1 none, .classLink RX3 7 RX4, .fieldLink RX3 9 "CycleStudio$Maker" "nothing" "[LCycleStudio$Pattern;", .fieldLink RX3 15 "CycleStudio$Maker" "registers" "[LCycleStudio$Pattern;", .classLink RX3 18 RX0, .fieldLink RX3 20 "CycleStudio$Maker" "bodies" "[LCycleStudio$Definition;", .arrayClass .int, .fieldLink RX3 24 "CycleStudio$Maker" "bases" "[I", .fieldLink RX3 28 "CycleStudio$Maker" "nexts" "[I", .fieldLink RX3 31 "CycleStudio$Maker" "level" "I", .fieldLink RX3 35 "CycleStudio$Maker" "usedAt" "I", .fieldLink RX3 38 "CycleStudio$Maker" "counted" "I", .fieldLink RX3 41 "CycleStudio$Maker" "fault" "I", .fieldLink RX3 44 "CycleStudio$Maker" "place" "I"] ++ wsX30)
def wsX10_init : List Cond := .code yX10_init cX10_init 2 none :: ([.methodLink RX10 3 objectInit, .instanceMethod objectInit, .code objectInit ⟨#[0xb1]⟩ 1 none, .fieldLink RX10 9 "CycleStudio$TextReader" "body" "LCycleStudio$Definition;", .fieldLink RX10 15 "CycleStudio$TextReader" "at" "I", .fieldLink RX10 19 "CycleStudio$TextReader" "close" "I", .fieldLink RX10 22 "CycleStudio$TextReader" "questions" "I", .fieldLink RX10 25 "CycleStudio$TextReader" "digitsAt" "I", .fieldLink RX10 28 "CycleStudio$TextReader" "scanner" "LCycleStudio$Scanner;"] ++ wsX100)
def wsJ0_coder_7d493 : List Cond := .code yJ0_coder_7d493 cJ0_coder_7d493 1 (some .byte) :: ([.fieldLink RJ0 38 "java/lang/String" "COMPACT_STRINGS" "Z", .fieldLink RJ0 15 "java/lang/String" "coder" "B"])
def wsJ0_length_8abf5 : List Cond := .code yJ0_length_8abf5 cJ0_length_8abf5 1 (some .int) :: ([.fieldLink RJ0 9 "java/lang/String" "value" "[B", .methodLink RJ0 335 yJ0_coder_7d493, .instanceMethod yJ0_coder_7d493, .selects RJ0 yJ0_coder_7d493 yJ0_coder_7d493, .initialized RJ0, .code yJ0_coder_7d493 cJ0_coder_7d493 1 (some .byte), .fieldLink RJ0 38 "java/lang/String" "COMPACT_STRINGS" "Z", .fieldLink RJ0 15 "java/lang/String" "coder" "B"])
def wsJ0_isLatin1_aae02 : List Cond := .code yJ0_isLatin1_aae02 cJ0_isLatin1_aae02 1 (some .boolean) :: ([.fieldLink RJ0 38 "java/lang/String" "COMPACT_STRINGS" "Z", .fieldLink RJ0 15 "java/lang/String" "coder" "B"])
def wsJ1_charAt_3b067 : List Cond := .code yJ1_charAt_3b067 cJ1_charAt_3b067 2 (some .char) :: ([.methodLink RJ1 9 yJ0_checkIndex_df160, .static yJ0_checkIndex_df160, .initialized RJ0, .code yJ0_checkIndex_df160 cJ0_checkIndex_df160 2 none, .fieldLink RJ0 1053 "jdk/internal/util/Preconditions" "SIOOBE_FORMATTER" "Ljava/util/function/BiFunction;", .methodLink RJ0 1059 yJ3_checkIndex_8e157, .static yJ3_checkIndex_8e157, .initialized RJ3, .code yJ3_checkIndex_8e157 cJ3_checkIndex_8e157 3 (some .int)])
def wsJ2_charAt_3b067 : List Cond := .code yJ2_charAt_3b067 cJ2_charAt_3b067 2 (some .char) :: ([.methodLink RJ2 67 yJ2_checkIndex_2214a, .static yJ2_checkIndex_2214a, .initialized RJ2, .code yJ2_checkIndex_2214a cJ2_checkIndex_2214a 2 none, .methodLink RJ2 48 yJ2_length_9d52b, .static yJ2_length_9d52b, .code yJ2_length_9d52b cJ2_length_9d52b 1 (some .int), .methodLink RJ2 414 yJ0_checkIndex_df160, .static yJ0_checkIndex_df160, .initialized RJ0, .code yJ0_checkIndex_df160 cJ0_checkIndex_df160 2 none, .fieldLink RJ0 1053 "jdk/internal/util/Preconditions" "SIOOBE_FORMATTER" "Ljava/util/function/BiFunction;", .methodLink RJ0 1059 yJ3_checkIndex_8e157, .static yJ3_checkIndex_8e157, .initialized RJ3, .code yJ3_checkIndex_8e157 cJ3_checkIndex_8e157 3 (some .int), .methodLink RJ2 71 yJ2_getChar_3b067, .static yJ2_getChar_3b067, .code yJ2_getChar_3b067 cJ2_getChar_3b067 2 (some .char), .fieldLink RJ2 44 "java/lang/StringUTF16" "$assertionsDisabled" "Z", .fieldLink RJ2 59 "java/lang/StringUTF16" "HI_BYTE_SHIFT" "I", .fieldLink RJ2 63 "java/lang/StringUTF16" "LO_BYTE_SHIFT" "I"])
def wsJ0_charAt_5068e_r1 : List Cond := [Cond.fieldLink RJ0 9 "java/lang/String" "value" "[B", Cond.methodLink RJ0 492 yJ0_isLatin1_aae02, Cond.instanceMethod yJ0_isLatin1_aae02, Cond.selects RJ0 yJ0_isLatin1_aae02 yJ0_isLatin1_aae02, Cond.initialized RJ0, Cond.code yJ0_isLatin1_aae02 cJ0_isLatin1_aae02 1 (some .boolean), Cond.fieldLink RJ0 38 "java/lang/String" "COMPACT_STRINGS" "Z", Cond.fieldLink RJ0 15 "java/lang/String" "coder" "B", Cond.methodLink RJ0 495 yJ1_charAt_3b067, Cond.static yJ1_charAt_3b067, Cond.initialized RJ1, Cond.code yJ1_charAt_3b067 cJ1_charAt_3b067 2 (some .char), Cond.methodLink RJ1 9 yJ0_checkIndex_df160, Cond.static yJ0_checkIndex_df160, Cond.code yJ0_checkIndex_df160 cJ0_checkIndex_df160 2 none, Cond.fieldLink RJ0 1053 "jdk/internal/util/Preconditions" "SIOOBE_FORMATTER" "Ljava/util/function/BiFunction;", Cond.methodLink RJ0 1059 yJ3_checkIndex_8e157, Cond.static yJ3_checkIndex_8e157, Cond.initialized RJ3, Cond.code yJ3_checkIndex_8e157 cJ3_checkIndex_8e157 3 (some .int), Cond.methodLink RJ0 498 yJ2_charAt_3b067, Cond.static yJ2_charAt_3b067, Cond.initialized RJ2, Cond.code yJ2_charAt_3b067 cJ2_charAt_3b067 2 (some .char)]
def wsJ0_charAt_5068e_r2 : List Cond := [Cond.methodLink RJ2 67 yJ2_checkIndex_2214a, Cond.static yJ2_checkIndex_2214a, Cond.code yJ2_checkIndex_2214a cJ2_checkIndex_2214a 2 none, Cond.methodLink RJ2 48 yJ2_length_9d52b, Cond.static yJ2_length_9d52b, Cond.code yJ2_length_9d52b cJ2_length_9d52b 1 (some .int), Cond.methodLink RJ2 414 yJ0_checkIndex_df160, Cond.methodLink RJ2 71 yJ2_getChar_3b067, Cond.static yJ2_getChar_3b067, Cond.code yJ2_getChar_3b067 cJ2_getChar_3b067 2 (some .char), Cond.fieldLink RJ2 44 "java/lang/StringUTF16" "$assertionsDisabled" "Z", Cond.fieldLink RJ2 59 "java/lang/StringUTF16" "HI_BYTE_SHIFT" "I", Cond.fieldLink RJ2 63 "java/lang/StringUTF16" "LO_BYTE_SHIFT" "I"]
def wsJ0_charAt_5068e : List Cond := .code yJ0_charAt_5068e cJ0_charAt_5068e 2 (some .char) :: ((wsJ0_charAt_5068e_r1 ++ wsJ0_charAt_5068e_r2))
def wsX8_isDigit : List Cond := .code yX8_isDigit cX8_isDigit 1 (some .boolean) :: ([])
def wsX8_longer : List Cond := .code yX8_longer cX8_longer 3 (some .long) :: ([.constantLong RX8 80 (37), .methodLink RX8 65 yX8_isDigit, .static yX8_isDigit, .initialized RX8, .code yX8_isDigit cX8_isDigit 1 (some .boolean)])
def wsX6_init_r1 : List Cond := [Cond.methodLink RX6 3 objectInit, Cond.instanceMethod objectInit, Cond.code objectInit ⟨#[0xb1]⟩ 1 none, Cond.arrayClass .long, Cond.fieldLink RX6 11 "CycleStudio$Reader" "functionNames" "[J", Cond.classLink RX6 15 RX0, Cond.instantiable RX0 7, Cond.initialized RX0, Cond.fieldLink RX6 20 "CycleStudio$Reader" "body" "LCycleStudio$Definition;", Cond.fieldLink RX6 24 "CycleStudio$Reader" "foundIndex" "I", Cond.fieldLink RX6 28 "CycleStudio$Reader" "foundDefinition" "LCycleStudio$Definition;", Cond.fieldLink RX6 31 "CycleStudio$Reader" "scanner" "LCycleStudio$Scanner;", Cond.fieldLink RX6 35 "CycleStudio$Reader" "definitions" "Ljava/util/ArrayList;", Cond.classLink RX6 39 RX10, Cond.instantiable RX10 6, Cond.initialized RX10, Cond.fieldLink RX6 44 "CycleStudio$Reader" "texts" "LCycleStudio$TextReader;", Cond.methodLink RX6 17 yX0_init, Cond.instanceMethod yX0_init, Cond.code yX0_init cX0_init 3 none, Cond.methodLink RX0 1 objectInit, Cond.fieldLink RX0 9 "CycleStudio$Definition" "parameters" "[J", Cond.fieldLink RX0 13 "CycleStudio$Definition" "parameterCount" "I", Cond.classLink RX0 17 RJx4a65c]
def wsX6_init_r2 : List Cond := [Cond.instantiable RJx4a65c 3, Cond.initialized RJx4a65c, Cond.fieldLink RX0 20 "CycleStudio$Definition" "steps" "Ljava/util/ArrayList;", Cond.fieldLink RX0 24 "CycleStudio$Definition" "known" "Ljava/util/ArrayList;", Cond.fieldLink RX0 27 "CycleStudio$Definition" "result" "I", Cond.fieldLink RX0 30 "CycleStudio$Definition" "made" "LCycleStudio$Pattern;", Cond.fieldLink RX0 34 "CycleStudio$Definition" "name" "J", Cond.methodLink RX0 19 yJx4a65c_init_da8c8, Cond.instanceMethod yJx4a65c_init_da8c8, Cond.code yJx4a65c_init_da8c8 cJx4a65c_init_da8c8 1 none, Cond.fieldLink RJx4a65c 39 "java/util/ArrayList" "DEFAULTCAPACITY_EMPTY_ELEMENTDATA" "[Ljava/lang/Object;", Cond.fieldLink RJx4a65c 9 "java/util/ArrayList" "elementData" "[Ljava/lang/Object;", Cond.methodLink RJx4a65c 1 yJxc12de_init_da8c8, Cond.instanceMethod yJxc12de_init_da8c8, Cond.initialized RJxc12de, Cond.code yJxc12de_init_da8c8 cJxc12de_init_da8c8 1 none, Cond.fieldLink RJxc12de 7 "java/util/AbstractList" "modCount" "I", Cond.methodLink RJxc12de 1 yJxa1e45_init_da8c8, Cond.instanceMethod yJxa1e45_init_da8c8, Cond.initialized RJxa1e45, Cond.code yJxa1e45_init_da8c8 cJxa1e45_init_da8c8 1 none, Cond.methodLink RJxa1e45 1 objectInit, Cond.methodLink RX6 41 yX10_init, Cond.instanceMethod yX10_init]
def wsX6_init_r3 : List Cond := [Cond.code yX10_init cX10_init 2 none, Cond.methodLink RX10 3 objectInit, Cond.fieldLink RX10 9 "CycleStudio$TextReader" "body" "LCycleStudio$Definition;", Cond.fieldLink RX10 15 "CycleStudio$TextReader" "at" "I", Cond.fieldLink RX10 19 "CycleStudio$TextReader" "close" "I", Cond.fieldLink RX10 22 "CycleStudio$TextReader" "questions" "I", Cond.fieldLink RX10 25 "CycleStudio$TextReader" "digitsAt" "I", Cond.fieldLink RX10 28 "CycleStudio$TextReader" "scanner" "LCycleStudio$Scanner;", Cond.methodLink RX6 50 yJ0_length_8abf5, Cond.instanceMethod yJ0_length_8abf5, Cond.selects RJ0 yJ0_length_8abf5 yJ0_length_8abf5, Cond.initialized RJ0, Cond.code yJ0_length_8abf5 cJ0_length_8abf5 1 (some .int), Cond.fieldLink RJ0 9 "java/lang/String" "value" "[B", Cond.methodLink RJ0 335 yJ0_coder_7d493, Cond.instanceMethod yJ0_coder_7d493, Cond.selects RJ0 yJ0_coder_7d493 yJ0_coder_7d493, Cond.code yJ0_coder_7d493 cJ0_coder_7d493 1 (some .byte), Cond.fieldLink RJ0 38 "java/lang/String" "COMPACT_STRINGS" "Z", Cond.fieldLink RJ0 15 "java/lang/String" "coder" "B", Cond.methodLink RX6 56 yJ0_charAt_5068e, Cond.instanceMethod yJ0_charAt_5068e, Cond.selects RJ0 yJ0_charAt_5068e yJ0_charAt_5068e, Cond.code yJ0_charAt_5068e cJ0_charAt_5068e 2 (some .char)]
def wsX6_init_r4 : List Cond := [Cond.methodLink RJ0 492 yJ0_isLatin1_aae02, Cond.instanceMethod yJ0_isLatin1_aae02, Cond.selects RJ0 yJ0_isLatin1_aae02 yJ0_isLatin1_aae02, Cond.code yJ0_isLatin1_aae02 cJ0_isLatin1_aae02 1 (some .boolean), Cond.methodLink RJ0 495 yJ1_charAt_3b067, Cond.static yJ1_charAt_3b067, Cond.initialized RJ1, Cond.code yJ1_charAt_3b067 cJ1_charAt_3b067 2 (some .char), Cond.methodLink RJ1 9 yJ0_checkIndex_df160, Cond.static yJ0_checkIndex_df160, Cond.code yJ0_checkIndex_df160 cJ0_checkIndex_df160 2 none, Cond.fieldLink RJ0 1053 "jdk/internal/util/Preconditions" "SIOOBE_FORMATTER" "Ljava/util/function/BiFunction;", Cond.methodLink RJ0 1059 yJ3_checkIndex_8e157, Cond.static yJ3_checkIndex_8e157, Cond.initialized RJ3, Cond.code yJ3_checkIndex_8e157 cJ3_checkIndex_8e157 3 (some .int), Cond.methodLink RJ0 498 yJ2_charAt_3b067, Cond.static yJ2_charAt_3b067, Cond.initialized RJ2, Cond.code yJ2_charAt_3b067 cJ2_charAt_3b067 2 (some .char), Cond.methodLink RJ2 67 yJ2_checkIndex_2214a, Cond.static yJ2_checkIndex_2214a, Cond.code yJ2_checkIndex_2214a cJ2_checkIndex_2214a 2 none, Cond.methodLink RJ2 48 yJ2_length_9d52b]
def wsX6_init_r5 : List Cond := [Cond.static yJ2_length_9d52b, Cond.code yJ2_length_9d52b cJ2_length_9d52b 1 (some .int), Cond.methodLink RJ2 414 yJ0_checkIndex_df160, Cond.methodLink RJ2 71 yJ2_getChar_3b067, Cond.static yJ2_getChar_3b067, Cond.code yJ2_getChar_3b067 cJ2_getChar_3b067 2 (some .char), Cond.fieldLink RJ2 44 "java/lang/StringUTF16" "$assertionsDisabled" "Z", Cond.fieldLink RJ2 59 "java/lang/StringUTF16" "HI_BYTE_SHIFT" "I", Cond.fieldLink RJ2 63 "java/lang/StringUTF16" "LO_BYTE_SHIFT" "I", Cond.methodLink RX6 60 yX8_longer, Cond.static yX8_longer, Cond.initialized RX8, Cond.code yX8_longer cX8_longer 3 (some .long), Cond.constantLong RX8 80 (37), Cond.methodLink RX8 65 yX8_isDigit, Cond.static yX8_isDigit, Cond.code yX8_isDigit cX8_isDigit 1 (some .boolean)]
def wsX6_init : List Cond := .code yX6_init cX6_init 7 none :: ((wsX6_init_r1 ++ (wsX6_init_r2 ++ (wsX6_init_r3 ++ (wsX6_init_r4 ++ wsX6_init_r5)))) ++ wsX60 ++ wsX00 ++ wsX100 ++ wsJx4a65c0)
def wsX7_init_r1 : List Cond := [Cond.methodLink RX7 3 objectInit, Cond.instanceMethod objectInit, Cond.code objectInit ⟨#[0xb1]⟩ 1 none, Cond.classLink RX7 9 RX1, Cond.instantiable RX1 14, Cond.initialized RX1, Cond.fieldLink RX7 12 "CycleStudio$Rows" "events" "LCycleStudio$Events;", Cond.fieldLink RX7 18 "CycleStudio$Rows" "seed" "I", Cond.instanceMethod yX1_init, Cond.code yX1_init cX1_init 1 none, Cond.methodLink RX1 1 objectInit, Cond.arrayClass .long, Cond.fieldLink RX1 9 "CycleStudio$Events" "begin" "[J", Cond.fieldLink RX1 13 "CycleStudio$Events" "length" "[J", Cond.fieldLink RX1 16 "CycleStudio$Events" "word" "[J", Cond.arrayClass .int, Cond.fieldLink RX1 19 "CycleStudio$Events" "number" "[I", Cond.arrayClass .boolean, Cond.fieldLink RX1 23 "CycleStudio$Events" "numbered" "[Z", Cond.fieldLink RX1 27 "CycleStudio$Events" "mark" "[I", Cond.fieldLink RX1 30 "CycleStudio$Events" "top" "I", Cond.fieldLink RX1 34 "CycleStudio$Events" "spareNumber" "[I", Cond.fieldLink RX1 37 "CycleStudio$Events" "spareNumbered" "[Z", Cond.fieldLink RX1 40 "CycleStudio$Events" "spareWord" "[J"]
def wsX7_init_r2 : List Cond := [Cond.fieldLink RX1 43 "CycleStudio$Events" "spareBegin" "[J", Cond.fieldLink RX1 46 "CycleStudio$Events" "spareLength" "[J", Cond.fieldLink RX1 49 "CycleStudio$Events" "keys" "[J", Cond.fieldLink RX1 52 "CycleStudio$Events" "spareKeys" "[J"]
def wsX7_init : List Cond := .code yX7_init cX7_init 1 none :: ((wsX7_init_r1 ++ wsX7_init_r2) ++ wsX10 ++ wsX70)
def wsX8_init : List Cond := .code yX8_init cX8_init 1 none :: ([.methodLink RX8 3 objectInit, .instanceMethod objectInit, .code objectInit ⟨#[0xb1]⟩ 1 none, .arrayClass .byte, .fieldLink RX8 9 "CycleStudio$Scanner" "bytes" "[B", .fieldLink RX8 15 "CycleStudio$Scanner" "size" "I", .fieldLink RX8 19 "CycleStudio$Scanner" "fault" "I", .fieldLink RX8 22 "CycleStudio$Scanner" "place" "I", .fieldLink RX8 25 "CycleStudio$Scanner" "open" "I", .fieldLink RX8 28 "CycleStudio$Scanner" "kind" "I", .fieldLink RX8 31 "CycleStudio$Scanner" "at" "I", .fieldLink RX8 34 "CycleStudio$Scanner" "behind" "I", .fieldLink RX8 37 "CycleStudio$Scanner" "name" "J", .fieldLink RX8 41 "CycleStudio$Scanner" "upper" "I", .fieldLink RX8 44 "CycleStudio$Scanner" "lower" "I"] ++ wsX80)
def wsX11_init_r1 : List Cond := [Cond.methodLink RX11 1 objectInit, Cond.instanceMethod objectInit, Cond.code objectInit ⟨#[0xb1]⟩ 1 none, Cond.classLink RX11 7 RX8, Cond.instantiable RX8 11, Cond.initialized RX8, Cond.fieldLink RX11 10 "CycleStudio" "scanner" "LCycleStudio$Scanner;", Cond.classLink RX11 16 RX3, Cond.instantiable RX3 10, Cond.initialized RX3, Cond.fieldLink RX11 19 "CycleStudio" "maker" "LCycleStudio$Maker;", Cond.classLink RX11 23 RX7, Cond.instantiable RX7 2, Cond.initialized RX7, Cond.fieldLink RX11 26 "CycleStudio" "rows" "LCycleStudio$Rows;", Cond.classLink RX11 30 RX2, Cond.instantiable RX2 9, Cond.initialized RX2, Cond.fieldLink RX11 33 "CycleStudio" "asked" "LCycleStudio$Kept;", Cond.fieldLink RX11 37 "CycleStudio" "heardOnes" "LCycleStudio$Kept;", Cond.classLink RX11 40 RJx4a65c, Cond.instantiable RJx4a65c 3, Cond.initialized RJx4a65c, Cond.fieldLink RX11 43 "CycleStudio" "definitions" "Ljava/util/ArrayList;"]
def wsX11_init_r2 : List Cond := [Cond.fieldLink RX11 47 "CycleStudio" "trial" "Ljava/util/ArrayList;", Cond.classLink RX11 50 RX6, Cond.instantiable RX6 7, Cond.initialized RX6, Cond.fieldLink RX11 55 "CycleStudio" "reader" "LCycleStudio$Reader;", Cond.classLink RX11 59 RX4, Cond.fieldLink RX11 61 "CycleStudio" "patterns" "[LCycleStudio$Pattern;", Cond.fieldLink RX11 65 "CycleStudio" "coming" "[LCycleStudio$Pattern;", Cond.arrayClass .boolean, Cond.fieldLink RX11 68 "CycleStudio" "waiting" "[Z", Cond.fieldLink RX11 72 "CycleStudio" "muted" "[Z", Cond.fieldLink RX11 75 "CycleStudio" "alone" "[Z", Cond.fieldLink RX11 78 "CycleStudio" "now" "I", Cond.fieldLink RX11 82 "CycleStudio" "heardInAll" "I", Cond.fieldLink RX11 85 "CycleStudio" "hasTold" "Z", Cond.fieldLink RX11 89 "CycleStudio" "toldFault" "I", Cond.fieldLink RX11 92 "CycleStudio" "toldPlace" "I", Cond.fieldLink RX11 95 "CycleStudio" "toldCounted" "I", Cond.instanceMethod yX8_init, Cond.code yX8_init cX8_init 1 none, Cond.methodLink RX8 3 objectInit, Cond.arrayClass .byte, Cond.fieldLink RX8 9 "CycleStudio$Scanner" "bytes" "[B", Cond.fieldLink RX8 15 "CycleStudio$Scanner" "size" "I"]
def wsX11_init_r3 : List Cond := [Cond.fieldLink RX8 19 "CycleStudio$Scanner" "fault" "I", Cond.fieldLink RX8 22 "CycleStudio$Scanner" "place" "I", Cond.fieldLink RX8 25 "CycleStudio$Scanner" "open" "I", Cond.fieldLink RX8 28 "CycleStudio$Scanner" "kind" "I", Cond.fieldLink RX8 31 "CycleStudio$Scanner" "at" "I", Cond.fieldLink RX8 34 "CycleStudio$Scanner" "behind" "I", Cond.fieldLink RX8 37 "CycleStudio$Scanner" "name" "J", Cond.fieldLink RX8 41 "CycleStudio$Scanner" "upper" "I", Cond.fieldLink RX8 44 "CycleStudio$Scanner" "lower" "I", Cond.instanceMethod yX3_init, Cond.code yX3_init cX3_init 1 none, Cond.methodLink RX3 1 objectInit, Cond.classLink RX3 7 RX4, Cond.fieldLink RX3 9 "CycleStudio$Maker" "nothing" "[LCycleStudio$Pattern;", Cond.fieldLink RX3 15 "CycleStudio$Maker" "registers" "[LCycleStudio$Pattern;", Cond.classLink RX3 18 RX0, Cond.fieldLink RX3 20 "CycleStudio$Maker" "bodies" "[LCycleStudio$Definition;", Cond.arrayClass .int, Cond.fieldLink RX3 24 "CycleStudio$Maker" "bases" "[I", Cond.fieldLink RX3 28 "CycleStudio$Maker" "nexts" "[I", Cond.fieldLink RX3 31 "CycleStudio$Maker" "level" "I", Cond.fieldLink RX3 35 "CycleStudio$Maker" "usedAt" "I", Cond.fieldLink RX3 38 "CycleStudio$Maker" "counted" "I", Cond.fieldLink RX3 41 "CycleStudio$Maker" "fault" "I"]
def wsX11_init_r4 : List Cond := [Cond.fieldLink RX3 44 "CycleStudio$Maker" "place" "I", Cond.instanceMethod yX7_init, Cond.code yX7_init cX7_init 1 none, Cond.methodLink RX7 3 objectInit, Cond.classLink RX7 9 RX1, Cond.instantiable RX1 14, Cond.initialized RX1, Cond.fieldLink RX7 12 "CycleStudio$Rows" "events" "LCycleStudio$Events;", Cond.fieldLink RX7 18 "CycleStudio$Rows" "seed" "I", Cond.instanceMethod yX1_init, Cond.code yX1_init cX1_init 1 none, Cond.methodLink RX1 1 objectInit, Cond.arrayClass .long, Cond.fieldLink RX1 9 "CycleStudio$Events" "begin" "[J", Cond.fieldLink RX1 13 "CycleStudio$Events" "length" "[J", Cond.fieldLink RX1 16 "CycleStudio$Events" "word" "[J", Cond.fieldLink RX1 19 "CycleStudio$Events" "number" "[I", Cond.fieldLink RX1 23 "CycleStudio$Events" "numbered" "[Z", Cond.fieldLink RX1 27 "CycleStudio$Events" "mark" "[I", Cond.fieldLink RX1 30 "CycleStudio$Events" "top" "I", Cond.fieldLink RX1 34 "CycleStudio$Events" "spareNumber" "[I", Cond.fieldLink RX1 37 "CycleStudio$Events" "spareNumbered" "[Z", Cond.fieldLink RX1 40 "CycleStudio$Events" "spareWord" "[J", Cond.fieldLink RX1 43 "CycleStudio$Events" "spareBegin" "[J"]
def wsX11_init_r5 : List Cond := [Cond.fieldLink RX1 46 "CycleStudio$Events" "spareLength" "[J", Cond.fieldLink RX1 49 "CycleStudio$Events" "keys" "[J", Cond.fieldLink RX1 52 "CycleStudio$Events" "spareKeys" "[J", Cond.instanceMethod yX2_init, Cond.code yX2_init cX2_init 1 none, Cond.methodLink RX2 3 objectInit, Cond.fieldLink RX2 11 "CycleStudio$Kept" "track" "[I", Cond.fieldLink RX2 15 "CycleStudio$Kept" "cycle" "[I", Cond.fieldLink RX2 18 "CycleStudio$Kept" "begin" "[J", Cond.fieldLink RX2 22 "CycleStudio$Kept" "length" "[J", Cond.fieldLink RX2 25 "CycleStudio$Kept" "grain" "[J", Cond.fieldLink RX2 28 "CycleStudio$Kept" "word" "[J", Cond.fieldLink RX2 31 "CycleStudio$Kept" "number" "[I", Cond.fieldLink RX2 34 "CycleStudio$Kept" "numbered" "[Z", Cond.fieldLink RX2 38 "CycleStudio$Kept" "count" "I", Cond.methodLink RX11 42 yJx4a65c_init_da8c8, Cond.instanceMethod yJx4a65c_init_da8c8, Cond.code yJx4a65c_init_da8c8 cJx4a65c_init_da8c8 1 none, Cond.fieldLink RJx4a65c 39 "java/util/ArrayList" "DEFAULTCAPACITY_EMPTY_ELEMENTDATA" "[Ljava/lang/Object;", Cond.fieldLink RJx4a65c 9 "java/util/ArrayList" "elementData" "[Ljava/lang/Object;", Cond.methodLink RJx4a65c 1 yJxc12de_init_da8c8, Cond.instanceMethod yJxc12de_init_da8c8, Cond.initialized RJxc12de, Cond.code yJxc12de_init_da8c8 cJxc12de_init_da8c8 1 none]
def wsX11_init_r6 : List Cond := [Cond.fieldLink RJxc12de 7 "java/util/AbstractList" "modCount" "I", Cond.methodLink RJxc12de 1 yJxa1e45_init_da8c8, Cond.instanceMethod yJxa1e45_init_da8c8, Cond.initialized RJxa1e45, Cond.code yJxa1e45_init_da8c8 cJxa1e45_init_da8c8 1 none, Cond.methodLink RJxa1e45 1 objectInit, Cond.methodLink RX11 52 yX6_init, Cond.instanceMethod yX6_init, Cond.code yX6_init cX6_init 7 none, Cond.methodLink RX6 3 objectInit, Cond.fieldLink RX6 11 "CycleStudio$Reader" "functionNames" "[J", Cond.classLink RX6 15 RX0, Cond.instantiable RX0 7, Cond.initialized RX0, Cond.fieldLink RX6 20 "CycleStudio$Reader" "body" "LCycleStudio$Definition;", Cond.fieldLink RX6 24 "CycleStudio$Reader" "foundIndex" "I", Cond.fieldLink RX6 28 "CycleStudio$Reader" "foundDefinition" "LCycleStudio$Definition;", Cond.fieldLink RX6 31 "CycleStudio$Reader" "scanner" "LCycleStudio$Scanner;", Cond.fieldLink RX6 35 "CycleStudio$Reader" "definitions" "Ljava/util/ArrayList;", Cond.classLink RX6 39 RX10, Cond.instantiable RX10 6, Cond.initialized RX10, Cond.fieldLink RX6 44 "CycleStudio$Reader" "texts" "LCycleStudio$TextReader;", Cond.methodLink RX6 17 yX0_init]
def wsX11_init_r7 : List Cond := [Cond.instanceMethod yX0_init, Cond.code yX0_init cX0_init 3 none, Cond.methodLink RX0 1 objectInit, Cond.fieldLink RX0 9 "CycleStudio$Definition" "parameters" "[J", Cond.fieldLink RX0 13 "CycleStudio$Definition" "parameterCount" "I", Cond.classLink RX0 17 RJx4a65c, Cond.fieldLink RX0 20 "CycleStudio$Definition" "steps" "Ljava/util/ArrayList;", Cond.fieldLink RX0 24 "CycleStudio$Definition" "known" "Ljava/util/ArrayList;", Cond.fieldLink RX0 27 "CycleStudio$Definition" "result" "I", Cond.fieldLink RX0 30 "CycleStudio$Definition" "made" "LCycleStudio$Pattern;", Cond.fieldLink RX0 34 "CycleStudio$Definition" "name" "J", Cond.methodLink RX0 19 yJx4a65c_init_da8c8, Cond.methodLink RX6 41 yX10_init, Cond.instanceMethod yX10_init, Cond.code yX10_init cX10_init 2 none, Cond.methodLink RX10 3 objectInit, Cond.fieldLink RX10 9 "CycleStudio$TextReader" "body" "LCycleStudio$Definition;", Cond.fieldLink RX10 15 "CycleStudio$TextReader" "at" "I", Cond.fieldLink RX10 19 "CycleStudio$TextReader" "close" "I", Cond.fieldLink RX10 22 "CycleStudio$TextReader" "questions" "I", Cond.fieldLink RX10 25 "CycleStudio$TextReader" "digitsAt" "I", Cond.fieldLink RX10 28 "CycleStudio$TextReader" "scanner" "LCycleStudio$Scanner;", Cond.methodLink RX6 50 yJ0_length_8abf5, Cond.instanceMethod yJ0_length_8abf5]
def wsX11_init_r8 : List Cond := [Cond.selects RJ0 yJ0_length_8abf5 yJ0_length_8abf5, Cond.initialized RJ0, Cond.code yJ0_length_8abf5 cJ0_length_8abf5 1 (some .int), Cond.fieldLink RJ0 9 "java/lang/String" "value" "[B", Cond.methodLink RJ0 335 yJ0_coder_7d493, Cond.instanceMethod yJ0_coder_7d493, Cond.selects RJ0 yJ0_coder_7d493 yJ0_coder_7d493, Cond.code yJ0_coder_7d493 cJ0_coder_7d493 1 (some .byte), Cond.fieldLink RJ0 38 "java/lang/String" "COMPACT_STRINGS" "Z", Cond.fieldLink RJ0 15 "java/lang/String" "coder" "B", Cond.methodLink RX6 56 yJ0_charAt_5068e, Cond.instanceMethod yJ0_charAt_5068e, Cond.selects RJ0 yJ0_charAt_5068e yJ0_charAt_5068e, Cond.code yJ0_charAt_5068e cJ0_charAt_5068e 2 (some .char), Cond.methodLink RJ0 492 yJ0_isLatin1_aae02, Cond.instanceMethod yJ0_isLatin1_aae02, Cond.selects RJ0 yJ0_isLatin1_aae02 yJ0_isLatin1_aae02, Cond.code yJ0_isLatin1_aae02 cJ0_isLatin1_aae02 1 (some .boolean), Cond.methodLink RJ0 495 yJ1_charAt_3b067, Cond.static yJ1_charAt_3b067, Cond.initialized RJ1, Cond.code yJ1_charAt_3b067 cJ1_charAt_3b067 2 (some .char), Cond.methodLink RJ1 9 yJ0_checkIndex_df160, Cond.static yJ0_checkIndex_df160]
def wsX11_init_r9 : List Cond := [Cond.code yJ0_checkIndex_df160 cJ0_checkIndex_df160 2 none, Cond.fieldLink RJ0 1053 "jdk/internal/util/Preconditions" "SIOOBE_FORMATTER" "Ljava/util/function/BiFunction;", Cond.methodLink RJ0 1059 yJ3_checkIndex_8e157, Cond.static yJ3_checkIndex_8e157, Cond.initialized RJ3, Cond.code yJ3_checkIndex_8e157 cJ3_checkIndex_8e157 3 (some .int), Cond.methodLink RJ0 498 yJ2_charAt_3b067, Cond.static yJ2_charAt_3b067, Cond.initialized RJ2, Cond.code yJ2_charAt_3b067 cJ2_charAt_3b067 2 (some .char), Cond.methodLink RJ2 67 yJ2_checkIndex_2214a, Cond.static yJ2_checkIndex_2214a, Cond.code yJ2_checkIndex_2214a cJ2_checkIndex_2214a 2 none, Cond.methodLink RJ2 48 yJ2_length_9d52b, Cond.static yJ2_length_9d52b, Cond.code yJ2_length_9d52b cJ2_length_9d52b 1 (some .int), Cond.methodLink RJ2 414 yJ0_checkIndex_df160, Cond.methodLink RJ2 71 yJ2_getChar_3b067, Cond.static yJ2_getChar_3b067, Cond.code yJ2_getChar_3b067 cJ2_getChar_3b067 2 (some .char), Cond.fieldLink RJ2 44 "java/lang/StringUTF16" "$assertionsDisabled" "Z", Cond.fieldLink RJ2 59 "java/lang/StringUTF16" "HI_BYTE_SHIFT" "I", Cond.fieldLink RJ2 63 "java/lang/StringUTF16" "LO_BYTE_SHIFT" "I", Cond.methodLink RX6 60 yX8_longer]
def wsX11_init_r10 : List Cond := [Cond.static yX8_longer, Cond.code yX8_longer cX8_longer 3 (some .long), Cond.constantLong RX8 80 (37), Cond.methodLink RX8 65 yX8_isDigit, Cond.static yX8_isDigit, Cond.code yX8_isDigit cX8_isDigit 1 (some .boolean)]
def wsX11_init : List Cond := .code yX11_init cX11_init 1 none :: ((wsX11_init_r1 ++ (wsX11_init_r2 ++ (wsX11_init_r3 ++ (wsX11_init_r4 ++ (wsX11_init_r5 ++ (wsX11_init_r6 ++ (wsX11_init_r7 ++ (wsX11_init_r8 ++ (wsX11_init_r9 ++ wsX11_init_r10))))))))) ++ wsX80 ++ wsX110 ++ wsX30 ++ wsX70 ++ wsX20 ++ wsJx4a65c0 ++ wsX60 ++ wsX10 ++ wsX00 ++ wsX100)
set_option maxRecDepth 20000 in
theorem ggX0_init_Jx4a65c_init_da8c8 : GoodIn wsX0_init wsJx4a65c_init_da8c8 := goodIn_r _ [17, 18, 19, 20, 21, 22, 23, 24, 25, 26, 27, 28, 29, 2, 3, 37, 38, 39] (by decide +kernel) (by decide +kernel)
set_option maxRecDepth 20000 in
theorem gX0_init_Jx4a65c_init_da8c8 : GoodIn wsX0_init (wsJx4a65c_init_da8c8) := ggX0_init_Jx4a65c_init_da8c8
theorem dX0_init_0 : decode cX0_init 0 = .ok (.aload_n 0, 1) := by decide +kernel
theorem dX0_init_1 : decode cX0_init 1 = .ok (.invokespecial 1, 3) := by decide +kernel
theorem dX0_init_4 : decode cX0_init 4 = .ok (.aload_n 0, 1) := by decide +kernel
theorem dX0_init_5 : decode cX0_init 5 = .ok (.iconst 4, 1) := by decide +kernel
theorem dX0_init_6 : decode cX0_init 6 = .ok (.newarray .long, 2) := by decide +kernel
theorem dX0_init_8 : decode cX0_init 8 = .ok (.putfield 9, 3) := by decide +kernel
theorem dX0_init_11 : decode cX0_init 11 = .ok (.aload_n 0, 1) := by decide +kernel
theorem dX0_init_12 : decode cX0_init 12 = .ok (.iconst 0, 1) := by decide +kernel
theorem dX0_init_13 : decode cX0_init 13 = .ok (.putfield 13, 3) := by decide +kernel
theorem dX0_init_16 : decode cX0_init 16 = .ok (.aload_n 0, 1) := by decide +kernel
theorem dX0_init_17 : decode cX0_init 17 = .ok (.new 17, 3) := by decide +kernel
theorem dX0_init_20 : decode cX0_init 20 = .ok (.dup, 1) := by decide +kernel
theorem dX0_init_21 : decode cX0_init 21 = .ok (.invokespecial 19, 3) := by decide +kernel
theorem dX0_init_24 : decode cX0_init 24 = .ok (.putfield 20, 3) := by decide +kernel
theorem dX0_init_27 : decode cX0_init 27 = .ok (.aload_n 0, 1) := by decide +kernel
theorem dX0_init_28 : decode cX0_init 28 = .ok (.new 17, 3) := by decide +kernel
theorem dX0_init_31 : decode cX0_init 31 = .ok (.dup, 1) := by decide +kernel
theorem dX0_init_32 : decode cX0_init 32 = .ok (.invokespecial 19, 3) := by decide +kernel
theorem dX0_init_35 : decode cX0_init 35 = .ok (.putfield 24, 3) := by decide +kernel
theorem dX0_init_38 : decode cX0_init 38 = .ok (.aload_n 0, 1) := by decide +kernel
theorem dX0_init_39 : decode cX0_init 39 = .ok (.iconst 0, 1) := by decide +kernel
theorem dX0_init_40 : decode cX0_init 40 = .ok (.putfield 27, 3) := by decide +kernel
theorem dX0_init_43 : decode cX0_init 43 = .ok (.aload_n 0, 1) := by decide +kernel
theorem dX0_init_44 : decode cX0_init 44 = .ok (.aconst_null, 1) := by decide +kernel
theorem dX0_init_45 : decode cX0_init 45 = .ok (.putfield 30, 3) := by decide +kernel
theorem dX0_init_48 : decode cX0_init 48 = .ok (.aload_n 0, 1) := by decide +kernel
theorem dX0_init_49 : decode cX0_init 49 = .ok (.lload_n 1, 1) := by decide +kernel
theorem dX0_init_50 : decode cX0_init 50 = .ok (.putfield 34, 3) := by decide +kernel
theorem dX0_init_53 : decode cX0_init 53 = .ok (.return_, 1) := by decide +kernel
theorem dX1_init_0 : decode cX1_init 0 = .ok (.aload_n 0, 1) := by decide +kernel
theorem dX1_init_1 : decode cX1_init 1 = .ok (.invokespecial 1, 3) := by decide +kernel
theorem dX1_init_4 : decode cX1_init 4 = .ok (.aload_n 0, 1) := by decide +kernel
theorem dX1_init_5 : decode cX1_init 5 = .ok (.sipush 6000, 3) := by decide +kernel
theorem dX1_init_8 : decode cX1_init 8 = .ok (.newarray .long, 2) := by decide +kernel
theorem dX1_init_10 : decode cX1_init 10 = .ok (.putfield 9, 3) := by decide +kernel
theorem dX1_init_13 : decode cX1_init 13 = .ok (.aload_n 0, 1) := by decide +kernel
theorem dX1_init_14 : decode cX1_init 14 = .ok (.sipush 6000, 3) := by decide +kernel
theorem dX1_init_17 : decode cX1_init 17 = .ok (.newarray .long, 2) := by decide +kernel
theorem dX1_init_19 : decode cX1_init 19 = .ok (.putfield 13, 3) := by decide +kernel
theorem dX1_init_22 : decode cX1_init 22 = .ok (.aload_n 0, 1) := by decide +kernel
theorem dX1_init_23 : decode cX1_init 23 = .ok (.sipush 6000, 3) := by decide +kernel
theorem dX1_init_26 : decode cX1_init 26 = .ok (.newarray .long, 2) := by decide +kernel
theorem dX1_init_28 : decode cX1_init 28 = .ok (.putfield 16, 3) := by decide +kernel
theorem dX1_init_31 : decode cX1_init 31 = .ok (.aload_n 0, 1) := by decide +kernel
theorem dX1_init_32 : decode cX1_init 32 = .ok (.sipush 6000, 3) := by decide +kernel
theorem dX1_init_35 : decode cX1_init 35 = .ok (.newarray .int, 2) := by decide +kernel
theorem dX1_init_37 : decode cX1_init 37 = .ok (.putfield 19, 3) := by decide +kernel
theorem dX1_init_40 : decode cX1_init 40 = .ok (.aload_n 0, 1) := by decide +kernel
theorem dX1_init_41 : decode cX1_init 41 = .ok (.sipush 6000, 3) := by decide +kernel
theorem dX1_init_44 : decode cX1_init 44 = .ok (.newarray .boolean, 2) := by decide +kernel
theorem dX1_init_46 : decode cX1_init 46 = .ok (.putfield 23, 3) := by decide +kernel
theorem dX1_init_49 : decode cX1_init 49 = .ok (.aload_n 0, 1) := by decide +kernel
theorem dX1_init_50 : decode cX1_init 50 = .ok (.sipush 6000, 3) := by decide +kernel
theorem dX1_init_53 : decode cX1_init 53 = .ok (.newarray .int, 2) := by decide +kernel
theorem dX1_init_55 : decode cX1_init 55 = .ok (.putfield 27, 3) := by decide +kernel
theorem dX1_init_58 : decode cX1_init 58 = .ok (.aload_n 0, 1) := by decide +kernel
theorem dX1_init_59 : decode cX1_init 59 = .ok (.iconst 0, 1) := by decide +kernel
theorem dX1_init_60 : decode cX1_init 60 = .ok (.putfield 30, 3) := by decide +kernel
theorem dX1_init_63 : decode cX1_init 63 = .ok (.aload_n 0, 1) := by decide +kernel
theorem dX1_init_64 : decode cX1_init 64 = .ok (.sipush 1024, 3) := by decide +kernel
theorem dX1_init_67 : decode cX1_init 67 = .ok (.newarray .int, 2) := by decide +kernel
theorem dX1_init_69 : decode cX1_init 69 = .ok (.putfield 34, 3) := by decide +kernel
theorem dX1_init_72 : decode cX1_init 72 = .ok (.aload_n 0, 1) := by decide +kernel
theorem dX1_init_73 : decode cX1_init 73 = .ok (.sipush 1024, 3) := by decide +kernel
theorem dX1_init_76 : decode cX1_init 76 = .ok (.newarray .boolean, 2) := by decide +kernel
theorem dX1_init_78 : decode cX1_init 78 = .ok (.putfield 37, 3) := by decide +kernel
theorem dX1_init_81 : decode cX1_init 81 = .ok (.aload_n 0, 1) := by decide +kernel
theorem dX1_init_82 : decode cX1_init 82 = .ok (.sipush 1024, 3) := by decide +kernel
theorem dX1_init_85 : decode cX1_init 85 = .ok (.newarray .long, 2) := by decide +kernel
theorem dX1_init_87 : decode cX1_init 87 = .ok (.putfield 40, 3) := by decide +kernel
theorem dX1_init_90 : decode cX1_init 90 = .ok (.aload_n 0, 1) := by decide +kernel
theorem dX1_init_91 : decode cX1_init 91 = .ok (.sipush 1024, 3) := by decide +kernel
theorem dX1_init_94 : decode cX1_init 94 = .ok (.newarray .long, 2) := by decide +kernel
theorem dX1_init_96 : decode cX1_init 96 = .ok (.putfield 43, 3) := by decide +kernel
theorem dX1_init_99 : decode cX1_init 99 = .ok (.aload_n 0, 1) := by decide +kernel
theorem dX1_init_100 : decode cX1_init 100 = .ok (.sipush 1024, 3) := by decide +kernel
theorem dX1_init_103 : decode cX1_init 103 = .ok (.newarray .long, 2) := by decide +kernel
theorem dX1_init_105 : decode cX1_init 105 = .ok (.putfield 46, 3) := by decide +kernel
theorem dX1_init_108 : decode cX1_init 108 = .ok (.aload_n 0, 1) := by decide +kernel
theorem dX1_init_109 : decode cX1_init 109 = .ok (.sipush 1024, 3) := by decide +kernel
theorem dX1_init_112 : decode cX1_init 112 = .ok (.newarray .long, 2) := by decide +kernel
theorem dX1_init_114 : decode cX1_init 114 = .ok (.putfield 49, 3) := by decide +kernel
theorem dX1_init_117 : decode cX1_init 117 = .ok (.aload_n 0, 1) := by decide +kernel
theorem dX1_init_118 : decode cX1_init 118 = .ok (.sipush 1024, 3) := by decide +kernel
theorem dX1_init_121 : decode cX1_init 121 = .ok (.newarray .long, 2) := by decide +kernel
theorem dX1_init_123 : decode cX1_init 123 = .ok (.putfield 52, 3) := by decide +kernel
theorem dX1_init_126 : decode cX1_init 126 = .ok (.return_, 1) := by decide +kernel
theorem dX2_init_0 : decode cX2_init 0 = .ok (.aload_n 0, 1) := by decide +kernel
theorem dX2_init_1 : decode cX2_init 1 = .ok (.invokespecial 3, 3) := by decide +kernel
theorem dX2_init_4 : decode cX2_init 4 = .ok (.aload_n 0, 1) := by decide +kernel
theorem dX2_init_5 : decode cX2_init 5 = .ok (.sipush 400, 3) := by decide +kernel
theorem dX2_init_8 : decode cX2_init 8 = .ok (.newarray .int, 2) := by decide +kernel
theorem dX2_init_10 : decode cX2_init 10 = .ok (.putfield 11, 3) := by decide +kernel
theorem dX2_init_13 : decode cX2_init 13 = .ok (.aload_n 0, 1) := by decide +kernel
theorem dX2_init_14 : decode cX2_init 14 = .ok (.sipush 400, 3) := by decide +kernel
theorem dX2_init_17 : decode cX2_init 17 = .ok (.newarray .int, 2) := by decide +kernel
theorem dX2_init_19 : decode cX2_init 19 = .ok (.putfield 15, 3) := by decide +kernel
theorem dX2_init_22 : decode cX2_init 22 = .ok (.aload_n 0, 1) := by decide +kernel
theorem dX2_init_23 : decode cX2_init 23 = .ok (.sipush 400, 3) := by decide +kernel
theorem dX2_init_26 : decode cX2_init 26 = .ok (.newarray .long, 2) := by decide +kernel
theorem dX2_init_28 : decode cX2_init 28 = .ok (.putfield 18, 3) := by decide +kernel
theorem dX2_init_31 : decode cX2_init 31 = .ok (.aload_n 0, 1) := by decide +kernel
theorem dX2_init_32 : decode cX2_init 32 = .ok (.sipush 400, 3) := by decide +kernel
theorem dX2_init_35 : decode cX2_init 35 = .ok (.newarray .long, 2) := by decide +kernel
theorem dX2_init_37 : decode cX2_init 37 = .ok (.putfield 22, 3) := by decide +kernel
theorem dX2_init_40 : decode cX2_init 40 = .ok (.aload_n 0, 1) := by decide +kernel
theorem dX2_init_41 : decode cX2_init 41 = .ok (.sipush 400, 3) := by decide +kernel
theorem dX2_init_44 : decode cX2_init 44 = .ok (.newarray .long, 2) := by decide +kernel
theorem dX2_init_46 : decode cX2_init 46 = .ok (.putfield 25, 3) := by decide +kernel
theorem dX2_init_49 : decode cX2_init 49 = .ok (.aload_n 0, 1) := by decide +kernel
theorem dX2_init_50 : decode cX2_init 50 = .ok (.sipush 400, 3) := by decide +kernel
theorem dX2_init_53 : decode cX2_init 53 = .ok (.newarray .long, 2) := by decide +kernel
theorem dX2_init_55 : decode cX2_init 55 = .ok (.putfield 28, 3) := by decide +kernel
theorem dX2_init_58 : decode cX2_init 58 = .ok (.aload_n 0, 1) := by decide +kernel
theorem dX2_init_59 : decode cX2_init 59 = .ok (.sipush 400, 3) := by decide +kernel
theorem dX2_init_62 : decode cX2_init 62 = .ok (.newarray .int, 2) := by decide +kernel
theorem dX2_init_64 : decode cX2_init 64 = .ok (.putfield 31, 3) := by decide +kernel
theorem dX2_init_67 : decode cX2_init 67 = .ok (.aload_n 0, 1) := by decide +kernel
theorem dX2_init_68 : decode cX2_init 68 = .ok (.sipush 400, 3) := by decide +kernel
theorem dX2_init_71 : decode cX2_init 71 = .ok (.newarray .boolean, 2) := by decide +kernel
theorem dX2_init_73 : decode cX2_init 73 = .ok (.putfield 34, 3) := by decide +kernel
theorem dX2_init_76 : decode cX2_init 76 = .ok (.aload_n 0, 1) := by decide +kernel
theorem dX2_init_77 : decode cX2_init 77 = .ok (.iconst 0, 1) := by decide +kernel
theorem dX2_init_78 : decode cX2_init 78 = .ok (.putfield 38, 3) := by decide +kernel
theorem dX2_init_81 : decode cX2_init 81 = .ok (.return_, 1) := by decide +kernel
theorem dX3_init_0 : decode cX3_init 0 = .ok (.aload_n 0, 1) := by decide +kernel
theorem dX3_init_1 : decode cX3_init 1 = .ok (.invokespecial 1, 3) := by decide +kernel
theorem dX3_init_4 : decode cX3_init 4 = .ok (.aload_n 0, 1) := by decide +kernel
theorem dX3_init_5 : decode cX3_init 5 = .ok (.iconst 0, 1) := by decide +kernel
theorem dX3_init_6 : decode cX3_init 6 = .ok (.anewarray 7, 3) := by decide +kernel
theorem dX3_init_9 : decode cX3_init 9 = .ok (.putfield 9, 3) := by decide +kernel
theorem dX3_init_12 : decode cX3_init 12 = .ok (.aload_n 0, 1) := by decide +kernel
theorem dX3_init_13 : decode cX3_init 13 = .ok (.sipush 512, 3) := by decide +kernel
theorem dX3_init_16 : decode cX3_init 16 = .ok (.anewarray 7, 3) := by decide +kernel
theorem dX3_init_19 : decode cX3_init 19 = .ok (.putfield 15, 3) := by decide +kernel
theorem dX3_init_22 : decode cX3_init 22 = .ok (.aload_n 0, 1) := by decide +kernel
theorem dX3_init_23 : decode cX3_init 23 = .ok (.bipush 13, 2) := by decide +kernel
theorem dX3_init_25 : decode cX3_init 25 = .ok (.anewarray 18, 3) := by decide +kernel
theorem dX3_init_28 : decode cX3_init 28 = .ok (.putfield 20, 3) := by decide +kernel
theorem dX3_init_31 : decode cX3_init 31 = .ok (.aload_n 0, 1) := by decide +kernel
theorem dX3_init_32 : decode cX3_init 32 = .ok (.bipush 13, 2) := by decide +kernel
theorem dX3_init_34 : decode cX3_init 34 = .ok (.newarray .int, 2) := by decide +kernel
theorem dX3_init_36 : decode cX3_init 36 = .ok (.putfield 24, 3) := by decide +kernel
theorem dX3_init_39 : decode cX3_init 39 = .ok (.aload_n 0, 1) := by decide +kernel
theorem dX3_init_40 : decode cX3_init 40 = .ok (.bipush 13, 2) := by decide +kernel
theorem dX3_init_42 : decode cX3_init 42 = .ok (.newarray .int, 2) := by decide +kernel
theorem dX3_init_44 : decode cX3_init 44 = .ok (.putfield 28, 3) := by decide +kernel
theorem dX3_init_47 : decode cX3_init 47 = .ok (.aload_n 0, 1) := by decide +kernel
theorem dX3_init_48 : decode cX3_init 48 = .ok (.iconst 0, 1) := by decide +kernel
theorem dX3_init_49 : decode cX3_init 49 = .ok (.putfield 31, 3) := by decide +kernel
theorem dX3_init_52 : decode cX3_init 52 = .ok (.aload_n 0, 1) := by decide +kernel
theorem dX3_init_53 : decode cX3_init 53 = .ok (.iconst 0, 1) := by decide +kernel
theorem dX3_init_54 : decode cX3_init 54 = .ok (.putfield 35, 3) := by decide +kernel
theorem dX3_init_57 : decode cX3_init 57 = .ok (.aload_n 0, 1) := by decide +kernel
theorem dX3_init_58 : decode cX3_init 58 = .ok (.iconst 0, 1) := by decide +kernel
theorem dX3_init_59 : decode cX3_init 59 = .ok (.putfield 38, 3) := by decide +kernel
theorem dX3_init_62 : decode cX3_init 62 = .ok (.aload_n 0, 1) := by decide +kernel
theorem dX3_init_63 : decode cX3_init 63 = .ok (.iconst 0, 1) := by decide +kernel
theorem dX3_init_64 : decode cX3_init 64 = .ok (.putfield 41, 3) := by decide +kernel
theorem dX3_init_67 : decode cX3_init 67 = .ok (.aload_n 0, 1) := by decide +kernel
theorem dX3_init_68 : decode cX3_init 68 = .ok (.iconst 0, 1) := by decide +kernel
theorem dX3_init_69 : decode cX3_init 69 = .ok (.putfield 44, 3) := by decide +kernel
theorem dX3_init_72 : decode cX3_init 72 = .ok (.return_, 1) := by decide +kernel
set_option maxRecDepth 20000 in
theorem ggX6_init_X0_init : GoodIn wsX6_init wsX0_init := goodIn_r _ [20, 21, 2, 3, 4, 22, 23, 24, 25, 26, 27, 28, 29, 30, 31, 32, 33, 34, 35, 36, 37, 38, 39, 40, 41, 42, 43, 44, 45, 46, 121, 122, 123, 124, 125, 126, 127, 134, 135, 136] (by decide +kernel) (by decide +kernel)
set_option maxRecDepth 20000 in
theorem gX6_init_X0_init : GoodIn wsX6_init (wsX0_init) := ggX6_init_X0_init
set_option maxRecDepth 20000 in
theorem ggX6_init_X10_init : GoodIn wsX6_init wsX10_init := goodIn_r _ [49, 50, 2, 3, 51, 52, 53, 54, 55, 56, 128, 129, 130, 131, 132, 133] (by decide +kernel) (by decide +kernel)
set_option maxRecDepth 20000 in
theorem gX6_init_X10_init : GoodIn wsX6_init (wsX10_init) := ggX6_init_X10_init
set_option maxRecDepth 20000 in
theorem ggX6_init_J0_length_8abf5 : GoodIn wsX6_init wsJ0_length_8abf5 := goodIn_r _ [61, 62, 63, 64, 65, 60, 66, 67, 68] (by decide +kernel) (by decide +kernel)
set_option maxRecDepth 20000 in
theorem gX6_init_J0_length_8abf5 : GoodIn wsX6_init (wsV RX6 50 RJ0 yJ0_length_8abf5 wsJ0_length_8abf5) := goodIn_app (goodIn_of _ (by decide +kernel)) ggX6_init_J0_length_8abf5
set_option maxRecDepth 20000 in
theorem ggX6_init_J0_charAt_5068e : GoodIn wsX6_init wsJ0_charAt_5068e := goodIn_r _ [72, 62, 73, 74, 75, 60, 76, 67, 68, 77, 78, 79, 80, 81, 82, 83, 84, 85, 86, 87, 88, 89, 90, 91, 92, 93, 94, 95, 96, 97, 98, 99, 100, 101, 102, 103, 104, 105] (by decide +kernel) (by decide +kernel)
set_option maxRecDepth 20000 in
theorem gX6_init_J0_charAt_5068e : GoodIn wsX6_init (wsV RX6 56 RJ0 yJ0_charAt_5068e wsJ0_charAt_5068e) := goodIn_app (goodIn_of _ (by decide +kernel)) ggX6_init_J0_charAt_5068e
set_option maxRecDepth 20000 in
theorem ggX6_init_X8_longer : GoodIn wsX6_init wsX8_longer := goodIn_r _ [109, 110, 111, 112, 108, 113] (by decide +kernel) (by decide +kernel)
set_option maxRecDepth 20000 in
theorem gX6_init_X8_longer : GoodIn wsX6_init (va_wsS RX6 60 yX8_longer wsX8_longer) := goodIn_app (goodIn_of _ (by decide +kernel)) ggX6_init_X8_longer
theorem dX6_init_0 : decode cX6_init 0 = .ok (.aload_n 0, 1) := by decide +kernel
theorem dX6_init_1 : decode cX6_init 1 = .ok (.invokespecial 3, 3) := by decide +kernel
theorem dX6_init_4 : decode cX6_init 4 = .ok (.aload_n 0, 1) := by decide +kernel
theorem dX6_init_5 : decode cX6_init 5 = .ok (.bipush 21, 2) := by decide +kernel
theorem dX6_init_7 : decode cX6_init 7 = .ok (.newarray .long, 2) := by decide +kernel
theorem dX6_init_9 : decode cX6_init 9 = .ok (.putfield 11, 3) := by decide +kernel
theorem dX6_init_12 : decode cX6_init 12 = .ok (.aload_n 0, 1) := by decide +kernel
theorem dX6_init_13 : decode cX6_init 13 = .ok (.new 15, 3) := by decide +kernel
theorem dX6_init_16 : decode cX6_init 16 = .ok (.dup, 1) := by decide +kernel
theorem dX6_init_17 : decode cX6_init 17 = .ok (.lconst 0, 1) := by decide +kernel
theorem dX6_init_18 : decode cX6_init 18 = .ok (.invokespecial 17, 3) := by decide +kernel
theorem dX6_init_21 : decode cX6_init 21 = .ok (.putfield 20, 3) := by decide +kernel
theorem dX6_init_24 : decode cX6_init 24 = .ok (.aload_n 0, 1) := by decide +kernel
theorem dX6_init_25 : decode cX6_init 25 = .ok (.iconst 0, 1) := by decide +kernel
theorem dX6_init_26 : decode cX6_init 26 = .ok (.putfield 24, 3) := by decide +kernel
theorem dX6_init_29 : decode cX6_init 29 = .ok (.aload_n 0, 1) := by decide +kernel
theorem dX6_init_30 : decode cX6_init 30 = .ok (.aconst_null, 1) := by decide +kernel
theorem dX6_init_31 : decode cX6_init 31 = .ok (.putfield 28, 3) := by decide +kernel
theorem dX6_init_34 : decode cX6_init 34 = .ok (.aload_n 0, 1) := by decide +kernel
theorem dX6_init_35 : decode cX6_init 35 = .ok (.aload_n 1, 1) := by decide +kernel
theorem dX6_init_36 : decode cX6_init 36 = .ok (.putfield 31, 3) := by decide +kernel
theorem dX6_init_39 : decode cX6_init 39 = .ok (.aload_n 0, 1) := by decide +kernel
theorem dX6_init_40 : decode cX6_init 40 = .ok (.aload_n 2, 1) := by decide +kernel
theorem dX6_init_41 : decode cX6_init 41 = .ok (.putfield 35, 3) := by decide +kernel
theorem dX6_init_44 : decode cX6_init 44 = .ok (.aload_n 0, 1) := by decide +kernel
theorem dX6_init_45 : decode cX6_init 45 = .ok (.new 39, 3) := by decide +kernel
theorem dX6_init_48 : decode cX6_init 48 = .ok (.dup, 1) := by decide +kernel
theorem dX6_init_49 : decode cX6_init 49 = .ok (.aload_n 1, 1) := by decide +kernel
theorem dX6_init_50 : decode cX6_init 50 = .ok (.invokespecial 41, 3) := by decide +kernel
theorem dX6_init_53 : decode cX6_init 53 = .ok (.putfield 44, 3) := by decide +kernel
theorem dX6_init_56 : decode cX6_init 56 = .ok (.lconst 0, 1) := by decide +kernel
theorem dX6_init_57 : decode cX6_init 57 = .ok (.lstore_n 3, 1) := by decide +kernel
theorem dX6_init_58 : decode cX6_init 58 = .ok (.iconst 0, 1) := by decide +kernel
theorem dX6_init_59 : decode cX6_init 59 = .ok (.istore 5, 2) := by decide +kernel
theorem dX6_init_61 : decode cX6_init 61 = .ok (.iconst 0, 1) := by decide +kernel
theorem dX6_init_62 : decode cX6_init 62 = .ok (.istore 6, 2) := by decide +kernel
theorem dX6_init_64 : decode cX6_init 64 = .ok (.iload 6, 2) := by decide +kernel
theorem dX6_init_66 : decode cX6_init 66 = .ok (.ldc 48, 2) := by decide +kernel
theorem dX6_init_68 : decode cX6_init 68 = .ok (.invokevirtual 50, 3) := by decide +kernel
theorem dX6_init_71 : decode cX6_init 71 = .ok (.if_icmp .ge 56, 3) := by decide +kernel
theorem dX6_init_74 : decode cX6_init 74 = .ok (.iload 5, 2) := by decide +kernel
theorem dX6_init_76 : decode cX6_init 76 = .ok (.bipush 21, 2) := by decide +kernel
theorem dX6_init_78 : decode cX6_init 78 = .ok (.if_icmp .ge 49, 3) := by decide +kernel
theorem dX6_init_81 : decode cX6_init 81 = .ok (.ldc 48, 2) := by decide +kernel
theorem dX6_init_83 : decode cX6_init 83 = .ok (.iload 6, 2) := by decide +kernel
theorem dX6_init_85 : decode cX6_init 85 = .ok (.invokevirtual 56, 3) := by decide +kernel
theorem dX6_init_88 : decode cX6_init 88 = .ok (.bipush 32, 2) := by decide +kernel
theorem dX6_init_90 : decode cX6_init 90 = .ok (.if_icmp .ne 19, 3) := by decide +kernel
theorem dX6_init_93 : decode cX6_init 93 = .ok (.aload_n 0, 1) := by decide +kernel
theorem dX6_init_94 : decode cX6_init 94 = .ok (.getfield 11, 3) := by decide +kernel
theorem dX6_init_97 : decode cX6_init 97 = .ok (.iload 5, 2) := by decide +kernel
theorem dX6_init_99 : decode cX6_init 99 = .ok (.lload_n 3, 1) := by decide +kernel
theorem dX6_init_100 : decode cX6_init 100 = .ok (.lastore, 1) := by decide +kernel
theorem dX6_init_101 : decode cX6_init 101 = .ok (.iinc 5 1, 3) := by decide +kernel
theorem dX6_init_104 : decode cX6_init 104 = .ok (.lconst 0, 1) := by decide +kernel
theorem dX6_init_105 : decode cX6_init 105 = .ok (.lstore_n 3, 1) := by decide +kernel
theorem dX6_init_106 : decode cX6_init 106 = .ok (.goto 15, 3) := by decide +kernel
theorem dX6_init_109 : decode cX6_init 109 = .ok (.lload_n 3, 1) := by decide +kernel
theorem dX6_init_110 : decode cX6_init 110 = .ok (.ldc 48, 2) := by decide +kernel
theorem dX6_init_112 : decode cX6_init 112 = .ok (.iload 6, 2) := by decide +kernel
theorem dX6_init_114 : decode cX6_init 114 = .ok (.invokevirtual 56, 3) := by decide +kernel
theorem dX6_init_117 : decode cX6_init 117 = .ok (.invokestatic 60, 3) := by decide +kernel
theorem dX6_init_120 : decode cX6_init 120 = .ok (.lstore_n 3, 1) := by decide +kernel
theorem dX6_init_121 : decode cX6_init 121 = .ok (.iinc 6 1, 3) := by decide +kernel
theorem dX6_init_124 : decode cX6_init 124 = .ok (.goto (-60), 3) := by decide +kernel
theorem dX6_init_127 : decode cX6_init 127 = .ok (.return_, 1) := by decide +kernel
set_option maxRecDepth 20000 in
theorem ggX7_init_X1_init : GoodIn wsX7_init wsX1_init := goodIn_r _ [10, 11, 2, 3, 12, 13, 14, 15, 16, 17, 18, 19, 20, 21, 22, 23, 24, 25, 26, 27, 28, 29, 30, 31, 32, 33, 34, 35, 36, 37, 38, 39, 40, 41, 42] (by decide +kernel) (by decide +kernel)
set_option maxRecDepth 20000 in
theorem gX7_init_X1_init_n11 : GoodIn wsX7_init (wsX1_init) := ggX7_init_X1_init
theorem dX7_init_0 : decode cX7_init 0 = .ok (.aload_n 0, 1) := by decide +kernel
theorem dX7_init_1 : decode cX7_init 1 = .ok (.invokespecial 3, 3) := by decide +kernel
theorem dX7_init_4 : decode cX7_init 4 = .ok (.aload_n 0, 1) := by decide +kernel
theorem dX7_init_5 : decode cX7_init 5 = .ok (.new 9, 3) := by decide +kernel
theorem dX7_init_8 : decode cX7_init 8 = .ok (.dup, 1) := by decide +kernel
theorem dX7_init_9 : decode cX7_init 9 = .ok (.invokespecial 11, 3) := by decide +kernel
theorem dX7_init_12 : decode cX7_init 12 = .ok (.putfield 12, 3) := by decide +kernel
theorem dX7_init_15 : decode cX7_init 15 = .ok (.aload_n 0, 1) := by decide +kernel
theorem dX7_init_16 : decode cX7_init 16 = .ok (.iconst 0, 1) := by decide +kernel
theorem dX7_init_17 : decode cX7_init 17 = .ok (.putfield 18, 3) := by decide +kernel
theorem dX7_init_20 : decode cX7_init 20 = .ok (.return_, 1) := by decide +kernel
theorem dX8_init_0 : decode cX8_init 0 = .ok (.aload_n 0, 1) := by decide +kernel
theorem dX8_init_1 : decode cX8_init 1 = .ok (.invokespecial 3, 3) := by decide +kernel
theorem dX8_init_4 : decode cX8_init 4 = .ok (.aload_n 0, 1) := by decide +kernel
theorem dX8_init_5 : decode cX8_init 5 = .ok (.sipush 2000, 3) := by decide +kernel
theorem dX8_init_8 : decode cX8_init 8 = .ok (.newarray .byte, 2) := by decide +kernel
theorem dX8_init_10 : decode cX8_init 10 = .ok (.putfield 9, 3) := by decide +kernel
theorem dX8_init_13 : decode cX8_init 13 = .ok (.aload_n 0, 1) := by decide +kernel
theorem dX8_init_14 : decode cX8_init 14 = .ok (.iconst 0, 1) := by decide +kernel
theorem dX8_init_15 : decode cX8_init 15 = .ok (.putfield 15, 3) := by decide +kernel
theorem dX8_init_18 : decode cX8_init 18 = .ok (.aload_n 0, 1) := by decide +kernel
theorem dX8_init_19 : decode cX8_init 19 = .ok (.iconst 0, 1) := by decide +kernel
theorem dX8_init_20 : decode cX8_init 20 = .ok (.putfield 19, 3) := by decide +kernel
theorem dX8_init_23 : decode cX8_init 23 = .ok (.aload_n 0, 1) := by decide +kernel
theorem dX8_init_24 : decode cX8_init 24 = .ok (.iconst 0, 1) := by decide +kernel
theorem dX8_init_25 : decode cX8_init 25 = .ok (.putfield 22, 3) := by decide +kernel
theorem dX8_init_28 : decode cX8_init 28 = .ok (.aload_n 0, 1) := by decide +kernel
theorem dX8_init_29 : decode cX8_init 29 = .ok (.iconst 0, 1) := by decide +kernel
theorem dX8_init_30 : decode cX8_init 30 = .ok (.putfield 25, 3) := by decide +kernel
theorem dX8_init_33 : decode cX8_init 33 = .ok (.aload_n 0, 1) := by decide +kernel
theorem dX8_init_34 : decode cX8_init 34 = .ok (.bipush 6, 2) := by decide +kernel
theorem dX8_init_36 : decode cX8_init 36 = .ok (.putfield 28, 3) := by decide +kernel
theorem dX8_init_39 : decode cX8_init 39 = .ok (.aload_n 0, 1) := by decide +kernel
theorem dX8_init_40 : decode cX8_init 40 = .ok (.iconst 0, 1) := by decide +kernel
theorem dX8_init_41 : decode cX8_init 41 = .ok (.putfield 31, 3) := by decide +kernel
theorem dX8_init_44 : decode cX8_init 44 = .ok (.aload_n 0, 1) := by decide +kernel
theorem dX8_init_45 : decode cX8_init 45 = .ok (.iconst 0, 1) := by decide +kernel
theorem dX8_init_46 : decode cX8_init 46 = .ok (.putfield 34, 3) := by decide +kernel
theorem dX8_init_49 : decode cX8_init 49 = .ok (.aload_n 0, 1) := by decide +kernel
theorem dX8_init_50 : decode cX8_init 50 = .ok (.lconst 0, 1) := by decide +kernel
theorem dX8_init_51 : decode cX8_init 51 = .ok (.putfield 37, 3) := by decide +kernel
theorem dX8_init_54 : decode cX8_init 54 = .ok (.aload_n 0, 1) := by decide +kernel
theorem dX8_init_55 : decode cX8_init 55 = .ok (.iconst 0, 1) := by decide +kernel
theorem dX8_init_56 : decode cX8_init 56 = .ok (.putfield 41, 3) := by decide +kernel
theorem dX8_init_59 : decode cX8_init 59 = .ok (.aload_n 0, 1) := by decide +kernel
theorem dX8_init_60 : decode cX8_init 60 = .ok (.iconst 1, 1) := by decide +kernel
theorem dX8_init_61 : decode cX8_init 61 = .ok (.putfield 44, 3) := by decide +kernel
theorem dX8_init_64 : decode cX8_init 64 = .ok (.return_, 1) := by decide +kernel
theorem dX8_isDigit_0 : decode cX8_isDigit 0 = .ok (.iload_n 0, 1) := by decide +kernel
theorem dX8_isDigit_1 : decode cX8_isDigit 1 = .ok (.bipush 48, 2) := by decide +kernel
theorem dX8_isDigit_3 : decode cX8_isDigit 3 = .ok (.if_icmp .lt 13, 3) := by decide +kernel
theorem dX8_isDigit_6 : decode cX8_isDigit 6 = .ok (.iload_n 0, 1) := by decide +kernel
theorem dX8_isDigit_7 : decode cX8_isDigit 7 = .ok (.bipush 57, 2) := by decide +kernel
theorem dX8_isDigit_9 : decode cX8_isDigit 9 = .ok (.if_icmp .gt 7, 3) := by decide +kernel
theorem dX8_isDigit_12 : decode cX8_isDigit 12 = .ok (.iconst 1, 1) := by decide +kernel
theorem dX8_isDigit_13 : decode cX8_isDigit 13 = .ok (.goto 4, 3) := by decide +kernel
theorem dX8_isDigit_16 : decode cX8_isDigit 16 = .ok (.iconst 0, 1) := by decide +kernel
theorem dX8_isDigit_17 : decode cX8_isDigit 17 = .ok (.ireturn, 1) := by decide +kernel
set_option maxRecDepth 20000 in
theorem ggX8_longer_X8_isDigit : GoodIn wsX8_longer wsX8_isDigit := goodIn_r _ [5] (by decide +kernel) (by decide +kernel)
set_option maxRecDepth 20000 in
theorem gX8_longer_X8_isDigit : GoodIn wsX8_longer (va_wsS RX8 65 yX8_isDigit wsX8_isDigit) := goodIn_app (goodIn_of _ (by decide +kernel)) ggX8_longer_X8_isDigit
theorem dX8_longer_0 : decode cX8_longer 0 = .ok (.lload_n 0, 1) := by decide +kernel
theorem dX8_longer_1 : decode cX8_longer 1 = .ok (.ldc2_w 80, 3) := by decide +kernel
theorem dX8_longer_4 : decode cX8_longer 4 = .ok (.lmul, 1) := by decide +kernel
theorem dX8_longer_5 : decode cX8_longer 5 = .ok (.iload_n 2, 1) := by decide +kernel
theorem dX8_longer_6 : decode cX8_longer 6 = .ok (.invokestatic 65, 3) := by decide +kernel
theorem dX8_longer_9 : decode cX8_longer 9 = .ok (.ifCond .eq 13, 3) := by decide +kernel
theorem dX8_longer_12 : decode cX8_longer 12 = .ok (.iload_n 2, 1) := by decide +kernel
theorem dX8_longer_13 : decode cX8_longer 13 = .ok (.bipush 48, 2) := by decide +kernel
theorem dX8_longer_15 : decode cX8_longer 15 = .ok (.isub, 1) := by decide +kernel
theorem dX8_longer_16 : decode cX8_longer 16 = .ok (.bipush 27, 2) := by decide +kernel
theorem dX8_longer_18 : decode cX8_longer 18 = .ok (.iadd, 1) := by decide +kernel
theorem dX8_longer_19 : decode cX8_longer 19 = .ok (.goto 9, 3) := by decide +kernel
theorem dX8_longer_22 : decode cX8_longer 22 = .ok (.iload_n 2, 1) := by decide +kernel
theorem dX8_longer_23 : decode cX8_longer 23 = .ok (.bipush 97, 2) := by decide +kernel
theorem dX8_longer_25 : decode cX8_longer 25 = .ok (.isub, 1) := by decide +kernel
theorem dX8_longer_26 : decode cX8_longer 26 = .ok (.iconst 1, 1) := by decide +kernel
theorem dX8_longer_27 : decode cX8_longer 27 = .ok (.iadd, 1) := by decide +kernel
theorem dX8_longer_28 : decode cX8_longer 28 = .ok (.i2l, 1) := by decide +kernel
theorem dX8_longer_29 : decode cX8_longer 29 = .ok (.ladd, 1) := by decide +kernel
theorem dX8_longer_30 : decode cX8_longer 30 = .ok (.lreturn, 1) := by decide +kernel
theorem dX10_init_0 : decode cX10_init 0 = .ok (.aload_n 0, 1) := by decide +kernel
theorem dX10_init_1 : decode cX10_init 1 = .ok (.invokespecial 3, 3) := by decide +kernel
theorem dX10_init_4 : decode cX10_init 4 = .ok (.aload_n 0, 1) := by decide +kernel
theorem dX10_init_5 : decode cX10_init 5 = .ok (.aconst_null, 1) := by decide +kernel
theorem dX10_init_6 : decode cX10_init 6 = .ok (.putfield 9, 3) := by decide +kernel
theorem dX10_init_9 : decode cX10_init 9 = .ok (.aload_n 0, 1) := by decide +kernel
theorem dX10_init_10 : decode cX10_init 10 = .ok (.iconst 0, 1) := by decide +kernel
theorem dX10_init_11 : decode cX10_init 11 = .ok (.putfield 15, 3) := by decide +kernel
theorem dX10_init_14 : decode cX10_init 14 = .ok (.aload_n 0, 1) := by decide +kernel
theorem dX10_init_15 : decode cX10_init 15 = .ok (.iconst 0, 1) := by decide +kernel
theorem dX10_init_16 : decode cX10_init 16 = .ok (.putfield 19, 3) := by decide +kernel
theorem dX10_init_19 : decode cX10_init 19 = .ok (.aload_n 0, 1) := by decide +kernel
theorem dX10_init_20 : decode cX10_init 20 = .ok (.iconst 0, 1) := by decide +kernel
theorem dX10_init_21 : decode cX10_init 21 = .ok (.putfield 22, 3) := by decide +kernel
theorem dX10_init_24 : decode cX10_init 24 = .ok (.aload_n 0, 1) := by decide +kernel
theorem dX10_init_25 : decode cX10_init 25 = .ok (.iconst 0, 1) := by decide +kernel
theorem dX10_init_26 : decode cX10_init 26 = .ok (.putfield 25, 3) := by decide +kernel
theorem dX10_init_29 : decode cX10_init 29 = .ok (.aload_n 0, 1) := by decide +kernel
theorem dX10_init_30 : decode cX10_init 30 = .ok (.aload_n 1, 1) := by decide +kernel
theorem dX10_init_31 : decode cX10_init 31 = .ok (.putfield 28, 3) := by decide +kernel
theorem dX10_init_34 : decode cX10_init 34 = .ok (.return_, 1) := by decide +kernel
set_option maxRecDepth 20000 in
theorem ggX11_init_X8_init : GoodIn wsX11_init wsX8_init := goodIn_r _ [44, 45, 2, 3, 46, 47, 48, 49, 50, 51, 52, 53, 54, 55, 56, 57, 223, 224, 225, 226, 227, 228, 229, 230, 231, 232, 233] (by decide +kernel) (by decide +kernel)
set_option maxRecDepth 20000 in
theorem gX11_init_X8_init_n9 : GoodIn wsX11_init (wsX8_init) := ggX11_init_X8_init
set_option maxRecDepth 20000 in
theorem ggX11_init_X3_init : GoodIn wsX11_init wsX3_init := goodIn_r _ [59, 60, 2, 3, 61, 62, 63, 64, 65, 66, 67, 68, 69, 70, 71, 72, 73, 253, 254, 255, 256, 257, 258, 259, 260, 261, 262] (by decide +kernel) (by decide +kernel)
set_option maxRecDepth 20000 in
theorem gX11_init_X3_init_n18 : GoodIn wsX11_init (wsX3_init) := ggX11_init_X3_init
set_option maxRecDepth 20000 in
theorem ggX11_init_X7_init : GoodIn wsX11_init wsX7_init := goodIn_r _ [75, 76, 2, 3, 77, 78, 79, 80, 81, 82, 83, 84, 85, 86, 87, 88, 66, 89, 33, 90, 91, 92, 93, 94, 95, 96, 97, 98, 99, 284, 285, 286, 287, 288, 289, 290, 291, 292, 293, 294, 295, 296, 297, 263, 264] (by decide +kernel) (by decide +kernel)
set_option maxRecDepth 20000 in
theorem gX11_init_X7_init_n25 : GoodIn wsX11_init (wsX7_init) := ggX11_init_X7_init
set_option maxRecDepth 20000 in
theorem ggX11_init_X2_init : GoodIn wsX11_init wsX2_init := goodIn_r _ [101, 102, 2, 3, 66, 103, 104, 85, 105, 106, 107, 108, 109, 33, 110, 111, 265, 266, 267, 268, 269, 270, 271, 272, 273] (by decide +kernel) (by decide +kernel)
set_option maxRecDepth 20000 in
theorem gX11_init_X2_init_n32 : GoodIn wsX11_init (wsX2_init) := ggX11_init_X2_init
set_option maxRecDepth 20000 in
theorem ggX11_init_Jx4a65c_init_da8c8 : GoodIn wsX11_init wsJx4a65c_init_da8c8 := goodIn_r _ [114, 115, 116, 117, 118, 119, 120, 121, 122, 123, 124, 125, 126, 2, 3, 274, 275, 276] (by decide +kernel) (by decide +kernel)
set_option maxRecDepth 20000 in
theorem gX11_init_Jx4a65c_init_da8c8 : GoodIn wsX11_init (wsJx4a65c_init_da8c8) := ggX11_init_Jx4a65c_init_da8c8
set_option maxRecDepth 20000 in
theorem ggX11_init_X6_init : GoodIn wsX11_init wsX6_init := goodIn_r _ [129, 130, 2, 3, 85, 131, 132, 133, 134, 135, 136, 137, 138, 139, 140, 141, 142, 143, 144, 145, 146, 147, 148, 149, 150, 22, 23, 151, 152, 153, 154, 155, 156, 113, 114, 115, 116, 117, 118, 119, 120, 121, 122, 123, 124, 125, 126, 157, 158, 159, 160, 161, 162, 163, 164, 165, 166, 167, 168, 169, 170, 171, 172, 173, 174, 175, 176, 177, 178, 179, 180, 181, 182, 183, 184, 185, 186, 187, 188, 189, 190, 191, 192, 193, 194, 195, 196, 197, 198, 199, 200, 201, 202, 203, 204, 205, 206, 207, 208, 209, 210, 211, 212, 213, 214, 215, 216, 217, 6, 218, 219, 220, 221, 222, 277, 278, 279, 280, 281, 282, 283, 298, 299, 300, 301, 302, 303, 304, 305, 306, 307, 308, 309, 310, 274, 275, 276] (by decide +kernel) (by decide +kernel)
set_option maxRecDepth 20000 in
theorem gX11_init_X6_init : GoodIn wsX11_init (wsX6_init) := ggX11_init_X6_init
theorem dX11_init_0 : decode cX11_init 0 = .ok (.aload_n 0, 1) := by decide +kernel
theorem dX11_init_1 : decode cX11_init 1 = .ok (.invokespecial 1, 3) := by decide +kernel
theorem dX11_init_4 : decode cX11_init 4 = .ok (.aload_n 0, 1) := by decide +kernel
theorem dX11_init_5 : decode cX11_init 5 = .ok (.new 7, 3) := by decide +kernel
theorem dX11_init_8 : decode cX11_init 8 = .ok (.dup, 1) := by decide +kernel
theorem dX11_init_9 : decode cX11_init 9 = .ok (.invokespecial 9, 3) := by decide +kernel
theorem dX11_init_12 : decode cX11_init 12 = .ok (.putfield 10, 3) := by decide +kernel
theorem dX11_init_15 : decode cX11_init 15 = .ok (.aload_n 0, 1) := by decide +kernel
theorem dX11_init_16 : decode cX11_init 16 = .ok (.new 16, 3) := by decide +kernel
theorem dX11_init_19 : decode cX11_init 19 = .ok (.dup, 1) := by decide +kernel
theorem dX11_init_20 : decode cX11_init 20 = .ok (.invokespecial 18, 3) := by decide +kernel
theorem dX11_init_23 : decode cX11_init 23 = .ok (.putfield 19, 3) := by decide +kernel
theorem dX11_init_26 : decode cX11_init 26 = .ok (.aload_n 0, 1) := by decide +kernel
theorem dX11_init_27 : decode cX11_init 27 = .ok (.new 23, 3) := by decide +kernel
theorem dX11_init_30 : decode cX11_init 30 = .ok (.dup, 1) := by decide +kernel
theorem dX11_init_31 : decode cX11_init 31 = .ok (.invokespecial 25, 3) := by decide +kernel
theorem dX11_init_34 : decode cX11_init 34 = .ok (.putfield 26, 3) := by decide +kernel
theorem dX11_init_37 : decode cX11_init 37 = .ok (.aload_n 0, 1) := by decide +kernel
theorem dX11_init_38 : decode cX11_init 38 = .ok (.new 30, 3) := by decide +kernel
theorem dX11_init_41 : decode cX11_init 41 = .ok (.dup, 1) := by decide +kernel
theorem dX11_init_42 : decode cX11_init 42 = .ok (.invokespecial 32, 3) := by decide +kernel
theorem dX11_init_45 : decode cX11_init 45 = .ok (.putfield 33, 3) := by decide +kernel
theorem dX11_init_48 : decode cX11_init 48 = .ok (.aload_n 0, 1) := by decide +kernel
theorem dX11_init_49 : decode cX11_init 49 = .ok (.new 30, 3) := by decide +kernel
theorem dX11_init_52 : decode cX11_init 52 = .ok (.dup, 1) := by decide +kernel
theorem dX11_init_53 : decode cX11_init 53 = .ok (.invokespecial 32, 3) := by decide +kernel
theorem dX11_init_56 : decode cX11_init 56 = .ok (.putfield 37, 3) := by decide +kernel
theorem dX11_init_59 : decode cX11_init 59 = .ok (.aload_n 0, 1) := by decide +kernel
theorem dX11_init_60 : decode cX11_init 60 = .ok (.new 40, 3) := by decide +kernel
theorem dX11_init_63 : decode cX11_init 63 = .ok (.dup, 1) := by decide +kernel
theorem dX11_init_64 : decode cX11_init 64 = .ok (.invokespecial 42, 3) := by decide +kernel
theorem dX11_init_67 : decode cX11_init 67 = .ok (.putfield 43, 3) := by decide +kernel
theorem dX11_init_70 : decode cX11_init 70 = .ok (.aload_n 0, 1) := by decide +kernel
theorem dX11_init_71 : decode cX11_init 71 = .ok (.new 40, 3) := by decide +kernel
theorem dX11_init_74 : decode cX11_init 74 = .ok (.dup, 1) := by decide +kernel
theorem dX11_init_75 : decode cX11_init 75 = .ok (.invokespecial 42, 3) := by decide +kernel
theorem dX11_init_78 : decode cX11_init 78 = .ok (.putfield 47, 3) := by decide +kernel
theorem dX11_init_81 : decode cX11_init 81 = .ok (.aload_n 0, 1) := by decide +kernel
theorem dX11_init_82 : decode cX11_init 82 = .ok (.new 50, 3) := by decide +kernel
theorem dX11_init_85 : decode cX11_init 85 = .ok (.dup, 1) := by decide +kernel
theorem dX11_init_86 : decode cX11_init 86 = .ok (.aload_n 0, 1) := by decide +kernel
theorem dX11_init_87 : decode cX11_init 87 = .ok (.getfield 10, 3) := by decide +kernel
theorem dX11_init_90 : decode cX11_init 90 = .ok (.aload_n 0, 1) := by decide +kernel
theorem dX11_init_91 : decode cX11_init 91 = .ok (.getfield 47, 3) := by decide +kernel
theorem dX11_init_94 : decode cX11_init 94 = .ok (.invokespecial 52, 3) := by decide +kernel
theorem dX11_init_97 : decode cX11_init 97 = .ok (.putfield 55, 3) := by decide +kernel
theorem dX11_init_100 : decode cX11_init 100 = .ok (.aload_n 0, 1) := by decide +kernel
theorem dX11_init_101 : decode cX11_init 101 = .ok (.bipush 8, 2) := by decide +kernel
theorem dX11_init_103 : decode cX11_init 103 = .ok (.anewarray 59, 3) := by decide +kernel
theorem dX11_init_106 : decode cX11_init 106 = .ok (.putfield 61, 3) := by decide +kernel
theorem dX11_init_109 : decode cX11_init 109 = .ok (.aload_n 0, 1) := by decide +kernel
theorem dX11_init_110 : decode cX11_init 110 = .ok (.bipush 8, 2) := by decide +kernel
theorem dX11_init_112 : decode cX11_init 112 = .ok (.anewarray 59, 3) := by decide +kernel
theorem dX11_init_115 : decode cX11_init 115 = .ok (.putfield 65, 3) := by decide +kernel
theorem dX11_init_118 : decode cX11_init 118 = .ok (.aload_n 0, 1) := by decide +kernel
theorem dX11_init_119 : decode cX11_init 119 = .ok (.bipush 8, 2) := by decide +kernel
theorem dX11_init_121 : decode cX11_init 121 = .ok (.newarray .boolean, 2) := by decide +kernel
theorem dX11_init_123 : decode cX11_init 123 = .ok (.putfield 68, 3) := by decide +kernel
theorem dX11_init_126 : decode cX11_init 126 = .ok (.aload_n 0, 1) := by decide +kernel
theorem dX11_init_127 : decode cX11_init 127 = .ok (.bipush 8, 2) := by decide +kernel
theorem dX11_init_129 : decode cX11_init 129 = .ok (.newarray .boolean, 2) := by decide +kernel
theorem dX11_init_131 : decode cX11_init 131 = .ok (.putfield 72, 3) := by decide +kernel
theorem dX11_init_134 : decode cX11_init 134 = .ok (.aload_n 0, 1) := by decide +kernel
theorem dX11_init_135 : decode cX11_init 135 = .ok (.bipush 8, 2) := by decide +kernel
theorem dX11_init_137 : decode cX11_init 137 = .ok (.newarray .boolean, 2) := by decide +kernel
theorem dX11_init_139 : decode cX11_init 139 = .ok (.putfield 75, 3) := by decide +kernel
theorem dX11_init_142 : decode cX11_init 142 = .ok (.aload_n 0, 1) := by decide +kernel
theorem dX11_init_143 : decode cX11_init 143 = .ok (.iconst 0, 1) := by decide +kernel
theorem dX11_init_144 : decode cX11_init 144 = .ok (.putfield 78, 3) := by decide +kernel
theorem dX11_init_147 : decode cX11_init 147 = .ok (.aload_n 0, 1) := by decide +kernel
theorem dX11_init_148 : decode cX11_init 148 = .ok (.iconst 0, 1) := by decide +kernel
theorem dX11_init_149 : decode cX11_init 149 = .ok (.putfield 82, 3) := by decide +kernel
theorem dX11_init_152 : decode cX11_init 152 = .ok (.aload_n 0, 1) := by decide +kernel
theorem dX11_init_153 : decode cX11_init 153 = .ok (.iconst 0, 1) := by decide +kernel
theorem dX11_init_154 : decode cX11_init 154 = .ok (.putfield 85, 3) := by decide +kernel
theorem dX11_init_157 : decode cX11_init 157 = .ok (.aload_n 0, 1) := by decide +kernel
theorem dX11_init_158 : decode cX11_init 158 = .ok (.iconst 0, 1) := by decide +kernel
theorem dX11_init_159 : decode cX11_init 159 = .ok (.putfield 89, 3) := by decide +kernel
theorem dX11_init_162 : decode cX11_init 162 = .ok (.aload_n 0, 1) := by decide +kernel
theorem dX11_init_163 : decode cX11_init 163 = .ok (.iconst (-1), 1) := by decide +kernel
theorem dX11_init_164 : decode cX11_init 164 = .ok (.putfield 92, 3) := by decide +kernel
theorem dX11_init_167 : decode cX11_init 167 = .ok (.aload_n 0, 1) := by decide +kernel
theorem dX11_init_168 : decode cX11_init 168 = .ok (.iconst 0, 1) := by decide +kernel
theorem dX11_init_169 : decode cX11_init 169 = .ok (.putfield 95, 3) := by decide +kernel
theorem dX11_init_172 : decode cX11_init 172 = .ok (.return_, 1) := by decide +kernel
set_option maxRecDepth 20000 in
theorem ggJ0_length_8abf5_J0_coder_7d493 : GoodIn wsJ0_length_8abf5 wsJ0_coder_7d493 := goodIn_r _ [6, 7, 8] (by decide +kernel) (by decide +kernel)
set_option maxRecDepth 20000 in
theorem gJ0_length_8abf5_J0_coder_7d493 : GoodIn wsJ0_length_8abf5 (wsV RJ0 335 RJ0 yJ0_coder_7d493 wsJ0_coder_7d493) := goodIn_app (goodIn_of _ (by decide +kernel)) ggJ0_length_8abf5_J0_coder_7d493
theorem dJ0_length_8abf5_0 : decode cJ0_length_8abf5 0 = .ok (.aload_n 0, 1) := by decide +kernel
theorem dJ0_length_8abf5_1 : decode cJ0_length_8abf5 1 = .ok (.getfield 9, 3) := by decide +kernel
theorem dJ0_length_8abf5_4 : decode cJ0_length_8abf5 4 = .ok (.arraylength, 1) := by decide +kernel
theorem dJ0_length_8abf5_5 : decode cJ0_length_8abf5 5 = .ok (.aload_n 0, 1) := by decide +kernel
theorem dJ0_length_8abf5_6 : decode cJ0_length_8abf5 6 = .ok (.invokevirtual 335, 3) := by decide +kernel
theorem dJ0_length_8abf5_9 : decode cJ0_length_8abf5 9 = .ok (.ishr, 1) := by decide +kernel
theorem dJ0_length_8abf5_10 : decode cJ0_length_8abf5 10 = .ok (.ireturn, 1) := by decide +kernel
set_option maxRecDepth 20000 in
theorem ggJ0_charAt_5068e_J0_isLatin1_aae02 : GoodIn wsJ0_charAt_5068e wsJ0_isLatin1_aae02 := goodIn_r _ [6, 7, 8] (by decide +kernel) (by decide +kernel)
set_option maxRecDepth 20000 in
theorem gJ0_charAt_5068e_J0_isLatin1_aae02 : GoodIn wsJ0_charAt_5068e (wsV RJ0 492 RJ0 yJ0_isLatin1_aae02 wsJ0_isLatin1_aae02) := goodIn_app (goodIn_of _ (by decide +kernel)) ggJ0_charAt_5068e_J0_isLatin1_aae02
set_option maxRecDepth 20000 in
theorem ggJ0_charAt_5068e_J1_charAt_3b067 : GoodIn wsJ0_charAt_5068e wsJ1_charAt_3b067 := goodIn_r _ [12, 13, 14, 5, 15, 16, 17, 18, 19, 20] (by decide +kernel) (by decide +kernel)
set_option maxRecDepth 20000 in
theorem gJ0_charAt_5068e_J1_charAt_3b067 : GoodIn wsJ0_charAt_5068e (va_wsS RJ0 495 yJ1_charAt_3b067 wsJ1_charAt_3b067) := goodIn_app (goodIn_of _ (by decide +kernel)) ggJ0_charAt_5068e_J1_charAt_3b067
set_option maxRecDepth 20000 in
theorem ggJ0_charAt_5068e_J2_charAt_3b067 : GoodIn wsJ0_charAt_5068e wsJ2_charAt_3b067 := goodIn_r _ [24, 25, 26, 23, 27, 28, 29, 30, 31, 14, 5, 15, 16, 17, 18, 19, 20, 32, 33, 34, 35, 36, 37] (by decide +kernel) (by decide +kernel)
set_option maxRecDepth 20000 in
theorem gJ0_charAt_5068e_J2_charAt_3b067 : GoodIn wsJ0_charAt_5068e (va_wsS RJ0 498 yJ2_charAt_3b067 wsJ2_charAt_3b067) := goodIn_app (goodIn_of _ (by decide +kernel)) ggJ0_charAt_5068e_J2_charAt_3b067
theorem dJ0_charAt_5068e_0 : decode cJ0_charAt_5068e 0 = .ok (.aload_n 0, 1) := by decide +kernel
theorem dJ0_charAt_5068e_1 : decode cJ0_charAt_5068e 1 = .ok (.invokevirtual 492, 3) := by decide +kernel
theorem dJ0_charAt_5068e_4 : decode cJ0_charAt_5068e 4 = .ok (.ifCond .eq 12, 3) := by decide +kernel
theorem dJ0_charAt_5068e_7 : decode cJ0_charAt_5068e 7 = .ok (.aload_n 0, 1) := by decide +kernel
theorem dJ0_charAt_5068e_8 : decode cJ0_charAt_5068e 8 = .ok (.getfield 9, 3) := by decide +kernel
theorem dJ0_charAt_5068e_11 : decode cJ0_charAt_5068e 11 = .ok (.iload_n 1, 1) := by decide +kernel
theorem dJ0_charAt_5068e_12 : decode cJ0_charAt_5068e 12 = .ok (.invokestatic 495, 3) := by decide +kernel
theorem dJ0_charAt_5068e_15 : decode cJ0_charAt_5068e 15 = .ok (.ireturn, 1) := by decide +kernel
theorem dJ0_charAt_5068e_16 : decode cJ0_charAt_5068e 16 = .ok (.aload_n 0, 1) := by decide +kernel
theorem dJ0_charAt_5068e_17 : decode cJ0_charAt_5068e 17 = .ok (.getfield 9, 3) := by decide +kernel
theorem dJ0_charAt_5068e_20 : decode cJ0_charAt_5068e 20 = .ok (.iload_n 1, 1) := by decide +kernel
theorem dJ0_charAt_5068e_21 : decode cJ0_charAt_5068e 21 = .ok (.invokestatic 498, 3) := by decide +kernel
theorem dJ0_charAt_5068e_24 : decode cJ0_charAt_5068e 24 = .ok (.ireturn, 1) := by decide +kernel
theorem dJxa1e45_init_da8c8_0 : decode cJxa1e45_init_da8c8 0 = .ok (.aload_n 0, 1) := by decide +kernel
theorem dJxa1e45_init_da8c8_1 : decode cJxa1e45_init_da8c8 1 = .ok (.invokespecial 1, 3) := by decide +kernel
theorem dJxa1e45_init_da8c8_4 : decode cJxa1e45_init_da8c8 4 = .ok (.return_, 1) := by decide +kernel
set_option maxRecDepth 20000 in
theorem ggJxc12de_init_da8c8_Jxa1e45_init_da8c8 : GoodIn wsJxc12de_init_da8c8 wsJxa1e45_init_da8c8 := goodIn_r _ [5, 6, 7, 8] (by decide +kernel) (by decide +kernel)
set_option maxRecDepth 20000 in
theorem gJxc12de_init_da8c8_Jxa1e45_init_da8c8 : GoodIn wsJxc12de_init_da8c8 (wsJxa1e45_init_da8c8) := ggJxc12de_init_da8c8_Jxa1e45_init_da8c8
theorem dJxc12de_init_da8c8_0 : decode cJxc12de_init_da8c8 0 = .ok (.aload_n 0, 1) := by decide +kernel
theorem dJxc12de_init_da8c8_1 : decode cJxc12de_init_da8c8 1 = .ok (.invokespecial 1, 3) := by decide +kernel
theorem dJxc12de_init_da8c8_4 : decode cJxc12de_init_da8c8 4 = .ok (.aload_n 0, 1) := by decide +kernel
theorem dJxc12de_init_da8c8_5 : decode cJxc12de_init_da8c8 5 = .ok (.iconst 0, 1) := by decide +kernel
theorem dJxc12de_init_da8c8_6 : decode cJxc12de_init_da8c8 6 = .ok (.putfield 7, 3) := by decide +kernel
theorem dJxc12de_init_da8c8_9 : decode cJxc12de_init_da8c8 9 = .ok (.return_, 1) := by decide +kernel
set_option maxRecDepth 20000 in
theorem ggJx4a65c_init_da8c8_Jxc12de_init_da8c8 : GoodIn wsJx4a65c_init_da8c8 wsJxc12de_init_da8c8 := goodIn_r _ [6, 7, 8, 9, 10, 11, 12, 13, 14, 15, 16, 17] (by decide +kernel) (by decide +kernel)
set_option maxRecDepth 20000 in
theorem gJx4a65c_init_da8c8_Jxc12de_init_da8c8 : GoodIn wsJx4a65c_init_da8c8 (wsJxc12de_init_da8c8) := ggJx4a65c_init_da8c8_Jxc12de_init_da8c8
theorem dJx4a65c_init_da8c8_0 : decode cJx4a65c_init_da8c8 0 = .ok (.aload_n 0, 1) := by decide +kernel
theorem dJx4a65c_init_da8c8_1 : decode cJx4a65c_init_da8c8 1 = .ok (.invokespecial 1, 3) := by decide +kernel
theorem dJx4a65c_init_da8c8_4 : decode cJx4a65c_init_da8c8 4 = .ok (.aload_n 0, 1) := by decide +kernel
theorem dJx4a65c_init_da8c8_5 : decode cJx4a65c_init_da8c8 5 = .ok (.getstatic 39, 3) := by decide +kernel
theorem dJx4a65c_init_da8c8_8 : decode cJx4a65c_init_da8c8 8 = .ok (.putfield 9, 3) := by decide +kernel
theorem dJx4a65c_init_da8c8_11 : decode cJx4a65c_init_da8c8 11 = .ok (.return_, 1) := by decide +kernel
abbrev vwCl : List vw_C := [(RJx4a65c, TJx4a65c, 3), (RX0, TX0, 7), (RX1, TX1, 14), (RX2, TX2, 9), (RX3, TX3, 10), (RX4, TX4, 7), (RX5, TX5, 11), (RX6, TX6, 7), (RX7, TX7, 2), (RX8, TX8, 11), (RX9, TX9, 14), (RX10, TX10, 6), (RX11, TX11, 19), (RX12, TX12, 153)]
