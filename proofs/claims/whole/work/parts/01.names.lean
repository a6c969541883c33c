theorem goodIn_r {big : List Cond} (ws : List Cond) (ps : List Nat) (hp : ws = ps.filterMap (fun i => big[i]?)) (h : ws.all goodWord = true) : GoodIn big ws := by
  intro w hw
  have h1 := List.all_eq_true.mp h w hw
  rw [hp] at hw
  obtain ⟨i, -, hi⟩ := List.mem_filterMap.mp hw
  have hm : w ∈ big := by first | exact List.mem_of_getElem? hi | exact List.getElem?_mem hi
  exact ⟨hm, good_of_word h1⟩
theorem goodIn_app {big a b : List Cond} (ha : GoodIn big a) (hb : GoodIn big b) : GoodIn big (a ++ b) := fun w h => (List.mem_append.mp h).elim (ha w) (hb w)
theorem goodIn_ca {big a b : List Cond} {c : Cond} (ha : GoodIn big (c :: a)) (hb : GoodIn big b) : GoodIn big (c :: (a ++ b)) := fun w h => (List.mem_cons.mp h).elim (fun e => ha w (List.mem_cons.mpr (Or.inl e))) (fun h => (List.mem_append.mp h).elim (fun h => ha w (List.mem_cons.mpr (Or.inr h))) (hb w))
theorem goodIn_sub {big ws : List Cond} (hm : ∀ w ∈ ws, w ∈ big) (h : ws.all goodWord = true) : GoodIn big ws := fun w hw => ⟨hm w hw, good_of_word (List.all_eq_true.mp h w hw)⟩
def RX0 : String := "CycleStudio$Definition"
def TX0 : u_T := fun k => match k with
  | 0 => ("CycleStudio$Definition", "name", "J", true)
  | 1 => ("CycleStudio$Definition", "parameters", "[J", true)
  | 2 => ("CycleStudio$Definition", "parameterCount", "I", false)
  | 3 => ("CycleStudio$Definition", "steps", "Ljava/util/ArrayList;", true)
  | 4 => ("CycleStudio$Definition", "known", "Ljava/util/ArrayList;", true)
  | 5 => ("CycleStudio$Definition", "result", "I", false)
  | _ => ("CycleStudio$Definition", "made", "LCycleStudio$Pattern;", false)
def tyX0 : Nat → FieldType := fun k => match k with
  | 0 => .long
  | 1 => .array .long
  | 2 => .int
  | 3 => .object "java/util/ArrayList"
  | 4 => .object "java/util/ArrayList"
  | 5 => .int
  | _ => .object "CycleStudio$Pattern"
theorem nmX0 : ∀ a, a < 7 → ∀ b, b < 7 → a ≠ b → (TX0 a).2.1 ≠ (TX0 b).2.1 := by decide +kernel
theorem tyX0_ok : ∀ k, k < 7 → parseFieldDescriptor (TX0 k).2.2.1 = some (tyX0 k) := by decide +kernel
def RX1 : String := "CycleStudio$Events"
def TX1 : u_T := fun k => match k with
  | 0 => ("CycleStudio$Events", "begin", "[J", true)
  | 1 => ("CycleStudio$Events", "length", "[J", true)
  | 2 => ("CycleStudio$Events", "word", "[J", true)
  | 3 => ("CycleStudio$Events", "number", "[I", true)
  | 4 => ("CycleStudio$Events", "numbered", "[Z", true)
  | 5 => ("CycleStudio$Events", "mark", "[I", true)
  | 6 => ("CycleStudio$Events", "top", "I", false)
  | 7 => ("CycleStudio$Events", "spareNumber", "[I", true)
  | 8 => ("CycleStudio$Events", "spareNumbered", "[Z", true)
  | 9 => ("CycleStudio$Events", "spareWord", "[J", true)
  | 10 => ("CycleStudio$Events", "spareBegin", "[J", true)
  | 11 => ("CycleStudio$Events", "spareLength", "[J", true)
  | 12 => ("CycleStudio$Events", "keys", "[J", false)
  | _ => ("CycleStudio$Events", "spareKeys", "[J", false)
def tyX1 : Nat → FieldType := fun k => match k with
  | 0 => .array .long
  | 1 => .array .long
  | 2 => .array .long
  | 3 => .array .int
  | 4 => .array .boolean
  | 5 => .array .int
  | 6 => .int
  | 7 => .array .int
  | 8 => .array .boolean
  | 9 => .array .long
  | 10 => .array .long
  | 11 => .array .long
  | 12 => .array .long
  | _ => .array .long
abbrev wsX10 : List Cond := u_ws RX1 TX1 14
theorem nmX1 : ∀ a, a < 14 → ∀ b, b < 14 → a ≠ b → (TX1 a).2.1 ≠ (TX1 b).2.1 := by decide +kernel
theorem tyX1_ok : ∀ k, k < 14 → parseFieldDescriptor (TX1 k).2.2.1 = some (tyX1 k) := by decide +kernel
abbrev cX1_init : ByteArray := prog_3_method_1_code
def yX1_init : MethodName := ⟨RX1, "<init>", "()V"⟩
def RX2 : String := "CycleStudio$Kept"
def TX2 : u_T := fun k => match k with
  | 0 => ("CycleStudio$Kept", "track", "[I", true)
  | 1 => ("CycleStudio$Kept", "cycle", "[I", true)
  | 2 => ("CycleStudio$Kept", "begin", "[J", true)
  | 3 => ("CycleStudio$Kept", "length", "[J", true)
  | 4 => ("CycleStudio$Kept", "grain", "[J", true)
  | 5 => ("CycleStudio$Kept", "word", "[J", true)
  | 6 => ("CycleStudio$Kept", "number", "[I", true)
  | 7 => ("CycleStudio$Kept", "numbered", "[Z", true)
  | _ => ("CycleStudio$Kept", "count", "I", false)
def tyX2 : Nat → FieldType := fun k => match k with
  | 0 => .array .int
  | 1 => .array .int
  | 2 => .array .long
  | 3 => .array .long
  | 4 => .array .long
  | 5 => .array .long
  | 6 => .array .int
  | 7 => .array .boolean
  | _ => .int
abbrev wsX20 : List Cond := u_ws RX2 TX2 9
theorem nmX2 : ∀ a, a < 9 → ∀ b, b < 9 → a ≠ b → (TX2 a).2.1 ≠ (TX2 b).2.1 := by decide +kernel
theorem tyX2_ok : ∀ k, k < 9 → parseFieldDescriptor (TX2 k).2.2.1 = some (tyX2 k) := by decide +kernel
abbrev cX2_init : ByteArray := prog_4_method_1_code
def yX2_init : MethodName := ⟨RX2, "<init>", "()V"⟩
def RX3 : String := "CycleStudio$Maker"
def TX3 : u_T := fun k => match k with
  | 0 => ("CycleStudio$Maker", "nothing", "[LCycleStudio$Pattern;", true)
  | 1 => ("CycleStudio$Maker", "registers", "[LCycleStudio$Pattern;", true)
  | 2 => ("CycleStudio$Maker", "bodies", "[LCycleStudio$Definition;", true)
  | 3 => ("CycleStudio$Maker", "bases", "[I", true)
  | 4 => ("CycleStudio$Maker", "nexts", "[I", true)
  | 5 => ("CycleStudio$Maker", "level", "I", false)
  | 6 => ("CycleStudio$Maker", "usedAt", "I", false)
  | 7 => ("CycleStudio$Maker", "counted", "I", false)
  | 8 => ("CycleStudio$Maker", "fault", "I", false)
  | _ => ("CycleStudio$Maker", "place", "I", false)
def tyX3 : Nat → FieldType := fun k => match k with
  | 0 => .array (.object "CycleStudio$Pattern")
  | 1 => .array (.object "CycleStudio$Pattern")
  | 2 => .array (.object "CycleStudio$Definition")
  | 3 => .array .int
  | 4 => .array .int
  | 5 => .int
  | 6 => .int
  | 7 => .int
  | 8 => .int
  | _ => .int
abbrev wsX30 : List Cond := u_ws RX3 TX3 10
theorem nmX3 : ∀ a, a < 10 → ∀ b, b < 10 → a ≠ b → (TX3 a).2.1 ≠ (TX3 b).2.1 := by decide +kernel
theorem tyX3_ok : ∀ k, k < 10 → parseFieldDescriptor (TX3 k).2.2.1 = some (tyX3 k) := by decide +kernel
abbrev cX3_init : ByteArray := prog_5_method_1_code
def yX3_init : MethodName := ⟨RX3, "<init>", "()V"⟩
def RX4 : String := "CycleStudio$Pattern"
def TX4 : u_T := fun k => match k with
  | 0 => ("CycleStudio$Pattern", "step", "LCycleStudio$Step;", true)
  | 1 => ("CycleStudio$Pattern", "of", "[LCycleStudio$Pattern;", true)
  | 2 => ("CycleStudio$Pattern", "grain", "J", false)
  | 3 => ("CycleStudio$Pattern", "crowd", "J", false)
  | 4 => ("CycleStudio$Pattern", "reach", "J", false)
  | 5 => ("CycleStudio$Pattern", "work", "J", false)
  | _ => ("CycleStudio$Pattern", "depth", "I", false)
def tyX4 : Nat → FieldType := fun k => match k with
  | 0 => .object "CycleStudio$Step"
  | 1 => .array (.object "CycleStudio$Pattern")
  | 2 => .long
  | 3 => .long
  | 4 => .long
  | 5 => .long
  | _ => .int
theorem nmX4 : ∀ a, a < 7 → ∀ b, b < 7 → a ≠ b → (TX4 a).2.1 ≠ (TX4 b).2.1 := by decide +kernel
theorem tyX4_ok : ∀ k, k < 7 → parseFieldDescriptor (TX4 k).2.2.1 = some (tyX4 k) := by decide +kernel
def RX5 : String := "CycleStudio$Piece"
def TX5 : u_T := fun k => match k with
  | 0 => ("CycleStudio$Piece", "kind", "I", true)
  | 1 => ("CycleStudio$Piece", "place", "I", true)
  | 2 => ("CycleStudio$Piece", "a", "I", false)
  | 3 => ("CycleStudio$Piece", "b", "I", false)
  | 4 => ("CycleStudio$Piece", "c", "I", false)
  | 5 => ("CycleStudio$Piece", "d", "I", false)
  | 6 => ("CycleStudio$Piece", "fun", "LCycleStudio$Piece;", false)
  | 7 => ("CycleStudio$Piece", "next", "LCycleStudio$Piece;", false)
  | 8 => ("CycleStudio$Piece", "use", "LCycleStudio$Definition;", false)
  | 9 => ("CycleStudio$Piece", "args", "[I", true)
  | _ => ("CycleStudio$Piece", "argCount", "I", false)
def tyX5 : Nat → FieldType := fun k => match k with
  | 0 => .int
  | 1 => .int
  | 2 => .int
  | 3 => .int
  | 4 => .int
  | 5 => .int
  | 6 => .object "CycleStudio$Piece"
  | 7 => .object "CycleStudio$Piece"
  | 8 => .object "CycleStudio$Definition"
  | 9 => .array .int
  | _ => .int
theorem nmX5 : ∀ a, a < 11 → ∀ b, b < 11 → a ≠ b → (TX5 a).2.1 ≠ (TX5 b).2.1 := by decide +kernel
theorem tyX5_ok : ∀ k, k < 11 → parseFieldDescriptor (TX5 k).2.2.1 = some (tyX5 k) := by decide +kernel
def RX6 : String := "CycleStudio$Reader"
def TX6 : u_T := fun k => match k with
  | 0 => ("CycleStudio$Reader", "scanner", "LCycleStudio$Scanner;", true)
  | 1 => ("CycleStudio$Reader", "texts", "LCycleStudio$TextReader;", true)
  | 2 => ("CycleStudio$Reader", "definitions", "Ljava/util/ArrayList;", true)
  | 3 => ("CycleStudio$Reader", "functionNames", "[J", true)
  | 4 => ("CycleStudio$Reader", "body", "LCycleStudio$Definition;", false)
  | 5 => ("CycleStudio$Reader", "foundIndex", "I", false)
  | _ => ("CycleStudio$Reader", "foundDefinition", "LCycleStudio$Definition;", false)
def tyX6 : Nat → FieldType := fun k => match k with
  | 0 => .object "CycleStudio$Scanner"
  | 1 => .object "CycleStudio$TextReader"
  | 2 => .object "java/util/ArrayList"
  | 3 => .array .long
  | 4 => .object "CycleStudio$Definition"
  | 5 => .int
  | _ => .object "CycleStudio$Definition"
theorem nmX6 : ∀ a, a < 7 → ∀ b, b < 7 → a ≠ b → (TX6 a).2.1 ≠ (TX6 b).2.1 := by decide +kernel
theorem tyX6_ok : ∀ k, k < 7 → parseFieldDescriptor (TX6 k).2.2.1 = some (tyX6 k) := by decide +kernel
def RX7 : String := "CycleStudio$Rows"
def TX7 : u_T := fun k => match k with
  | 0 => ("CycleStudio$Rows", "events", "LCycleStudio$Events;", true)
  | _ => ("CycleStudio$Rows", "seed", "I", false)
def tyX7 : Nat → FieldType := fun k => match k with
  | 0 => .object "CycleStudio$Events"
  | _ => .int
abbrev wsX70 : List Cond := u_ws RX7 TX7 2
theorem nmX7 : ∀ a, a < 2 → ∀ b, b < 2 → a ≠ b → (TX7 a).2.1 ≠ (TX7 b).2.1 := by decide +kernel
theorem tyX7_ok : ∀ k, k < 2 → parseFieldDescriptor (TX7 k).2.2.1 = some (tyX7 k) := by decide +kernel
abbrev cX7_init : ByteArray := prog_9_method_1_code
def yX7_init : MethodName := ⟨RX7, "<init>", "()V"⟩
def RX8 : String := "CycleStudio$Scanner"
def TX8 : u_T := fun k => match k with
  | 0 => ("CycleStudio$Scanner", "bytes", "[B", true)
  | 1 => ("CycleStudio$Scanner", "size", "I", false)
  | 2 => ("CycleStudio$Scanner", "fault", "I", false)
  | 3 => ("CycleStudio$Scanner", "place", "I", false)
  | 4 => ("CycleStudio$Scanner", "open", "I", false)
  | 5 => ("CycleStudio$Scanner", "kind", "I", false)
  | 6 => ("CycleStudio$Scanner", "at", "I", false)
  | 7 => ("CycleStudio$Scanner", "behind", "I", false)
  | 8 => ("CycleStudio$Scanner", "name", "J", false)
  | 9 => ("CycleStudio$Scanner", "upper", "I", false)
  | _ => ("CycleStudio$Scanner", "lower", "I", false)
def tyX8 : Nat → FieldType := fun k => match k with
  | 0 => .array .byte
  | 1 => .int
  | 2 => .int
  | 3 => .int
  | 4 => .int
  | 5 => .int
  | 6 => .int
  | 7 => .int
  | 8 => .long
  | 9 => .int
  | _ => .int
abbrev wsX80 : List Cond := u_ws RX8 TX8 11
theorem nmX8 : ∀ a, a < 11 → ∀ b, b < 11 → a ≠ b → (TX8 a).2.1 ≠ (TX8 b).2.1 := by decide +kernel
theorem tyX8_ok : ∀ k, k < 11 → parseFieldDescriptor (TX8 k).2.2.1 = some (tyX8 k) := by decide +kernel
abbrev cX8_init : ByteArray := prog_10_method_1_code
def yX8_init : MethodName := ⟨RX8, "<init>", "()V"⟩
def RX9 : String := "CycleStudio$Step"
def TX9 : u_T := fun k => match k with
  | 0 => ("CycleStudio$Step", "kind", "I", true)
  | 1 => ("CycleStudio$Step", "place", "I", true)
  | 2 => ("CycleStudio$Step", "a", "I", false)
  | 3 => ("CycleStudio$Step", "b", "I", false)
  | 4 => ("CycleStudio$Step", "c", "I", false)
  | 5 => ("CycleStudio$Step", "d", "I", false)
  | 6 => ("CycleStudio$Step", "countsParts", "Z", false)
  | 7 => ("CycleStudio$Step", "word", "J", false)
  | 8 => ("CycleStudio$Step", "use", "LCycleStudio$Definition;", false)
  | 9 => ("CycleStudio$Step", "count", "I", false)
  | 10 => ("CycleStudio$Step", "of", "[I", false)
  | 11 => ("CycleStudio$Step", "weights", "[I", false)
  | 12 => ("CycleStudio$Step", "repeats", "[I", false)
  | _ => ("CycleStudio$Step", "ends", "[I", false)
def tyX9 : Nat → FieldType := fun k => match k with
  | 0 => .int
  | 1 => .int
  | 2 => .int
  | 3 => .int
  | 4 => .int
  | 5 => .int
  | 6 => .boolean
  | 7 => .long
  | 8 => .object "CycleStudio$Definition"
  | 9 => .int
  | 10 => .array .int
  | 11 => .array .int
  | 12 => .array .int
  | _ => .array .int
theorem nmX9 : ∀ a, a < 14 → ∀ b, b < 14 → a ≠ b → (TX9 a).2.1 ≠ (TX9 b).2.1 := by decide +kernel
theorem tyX9_ok : ∀ k, k < 14 → parseFieldDescriptor (TX9 k).2.2.1 = some (tyX9 k) := by decide +kernel
def RX10 : String := "CycleStudio$TextReader"
def TX10 : u_T := fun k => match k with
  | 0 => ("CycleStudio$TextReader", "scanner", "LCycleStudio$Scanner;", true)
  | 1 => ("CycleStudio$TextReader", "body", "LCycleStudio$Definition;", false)
  | 2 => ("CycleStudio$TextReader", "at", "I", false)
  | 3 => ("CycleStudio$TextReader", "close", "I", false)
  | 4 => ("CycleStudio$TextReader", "questions", "I", false)
  | _ => ("CycleStudio$TextReader", "digitsAt", "I", false)
def tyX10 : Nat → FieldType := fun k => match k with
  | 0 => .object "CycleStudio$Scanner"
  | 1 => .object "CycleStudio$Definition"
  | 2 => .int
  | 3 => .int
  | 4 => .int
  | _ => .int
theorem nmX10 : ∀ a, a < 6 → ∀ b, b < 6 → a ≠ b → (TX10 a).2.1 ≠ (TX10 b).2.1 := by decide +kernel
theorem tyX10_ok : ∀ k, k < 6 → parseFieldDescriptor (TX10 k).2.2.1 = some (tyX10 k) := by decide +kernel
def RX11 : String := "CycleStudio"
def TX11 : u_T := fun k => match k with
  | 0 => ("CycleStudio", "scanner", "LCycleStudio$Scanner;", true)
  | 1 => ("CycleStudio", "maker", "LCycleStudio$Maker;", true)
  | 2 => ("CycleStudio", "rows", "LCycleStudio$Rows;", true)
  | 3 => ("CycleStudio", "asked", "LCycleStudio$Kept;", true)
  | 4 => ("CycleStudio", "heardOnes", "LCycleStudio$Kept;", true)
  | 5 => ("CycleStudio", "definitions", "Ljava/util/ArrayList;", true)
  | 6 => ("CycleStudio", "trial", "Ljava/util/ArrayList;", true)
  | 7 => ("CycleStudio", "reader", "LCycleStudio$Reader;", true)
  | 8 => ("CycleStudio", "patterns", "[LCycleStudio$Pattern;", true)
  | 9 => ("CycleStudio", "coming", "[LCycleStudio$Pattern;", true)
  | 10 => ("CycleStudio", "waiting", "[Z", true)
  | 11 => ("CycleStudio", "muted", "[Z", true)
  | 12 => ("CycleStudio", "alone", "[Z", true)
  | 13 => ("CycleStudio", "now", "I", false)
  | 14 => ("CycleStudio", "heardInAll", "I", false)
  | 15 => ("CycleStudio", "hasTold", "Z", false)
  | 16 => ("CycleStudio", "toldFault", "I", false)
  | 17 => ("CycleStudio", "toldPlace", "I", false)
  | _ => ("CycleStudio", "toldCounted", "I", false)
def tyX11 : Nat → FieldType := fun k => match k with
  | 0 => .object "CycleStudio$Scanner"
  | 1 => .object "CycleStudio$Maker"
  | 2 => .object "CycleStudio$Rows"
  | 3 => .object "CycleStudio$Kept"
  | 4 => .object "CycleStudio$Kept"
  | 5 => .object "java/util/ArrayList"
  | 6 => .object "java/util/ArrayList"
  | 7 => .object "CycleStudio$Reader"
  | 8 => .array (.object "CycleStudio$Pattern")
  | 9 => .array (.object "CycleStudio$Pattern")
  | 10 => .array .boolean
  | 11 => .array .boolean
  | 12 => .array .boolean
  | 13 => .int
  | 14 => .int
  | 15 => .boolean
  | 16 => .int
  | 17 => .int
  | _ => .int
theorem nmX11 : ∀ a, a < 19 → ∀ b, b < 19 → a ≠ b → (TX11 a).2.1 ≠ (TX11 b).2.1 := by decide +kernel
theorem tyX11_ok : ∀ k, k < 19 → parseFieldDescriptor (TX11 k).2.2.1 = some (tyX11 k) := by decide +kernel
def RX12 : String := "CycleStudioModel"
def TX12 : u_T := fun k => match k with
  | 0 => ("CycleStudioModel", "tape", "[B", true)
  | 1 => ("CycleStudioModel", "size", "I", false)
  | 2 => ("CycleStudioModel", "at", "I", false)
  | 3 => ("CycleStudioModel", "token", "I", false)
  | 4 => ("CycleStudioModel", "tokenAt", "I", false)
  | 5 => ("CycleStudioModel", "tokenEnd", "I", false)
  | 6 => ("CycleStudioModel", "sign", "I", false)
  | 7 => ("CycleStudioModel", "nameA", "J", false)
  | 8 => ("CycleStudioModel", "nameB", "J", false)
  | 9 => ("CycleStudioModel", "above", "I", false)
  | 10 => ("CycleStudioModel", "below", "I", false)
  | 11 => ("CycleStudioModel", "fault", "I", false)
  | 12 => ("CycleStudioModel", "faultAt", "I", false)
  | 13 => ("CycleStudioModel", "opened", "I", false)
  | 14 => ("CycleStudioModel", "functionNames", "[C", true)
  | 15 => ("CycleStudioModel", "wants", "[I", true)
  | 16 => ("CycleStudioModel", "nodes", "I", false)
  | 17 => ("CycleStudioModel", "kindOf", "[I", true)
  | 18 => ("CycleStudioModel", "placeOf", "[I", true)
  | 19 => ("CycleStudioModel", "p0", "[I", true)
  | 20 => ("CycleStudioModel", "p1", "[I", true)
  | 21 => ("CycleStudioModel", "p2", "[I", true)
  | 22 => ("CycleStudioModel", "p3", "[I", true)
  | 23 => ("CycleStudioModel", "p4", "[I", true)
  | 24 => ("CycleStudioModel", "first", "[I", true)
  | 25 => ("CycleStudioModel", "last", "[I", true)
  | 26 => ("CycleStudioModel", "next", "[I", true)
  | 27 => ("CycleStudioModel", "value", "[I", true)
  | 28 => ("CycleStudioModel", "versions", "I", false)
  | 29 => ("CycleStudioModel", "defA", "[J", true)
  | 30 => ("CycleStudioModel", "defB", "[J", true)
  | 31 => ("CycleStudioModel", "defParams", "[I", true)
  | 32 => ("CycleStudioModel", "defBody", "[I", true)
  | 33 => ("CycleStudioModel", "defPattern", "[I", true)
  | 34 => ("CycleStudioModel", "held", "I", false)
  | 35 => ("CycleStudioModel", "holding", "[I", true)
  | 36 => ("CycleStudioModel", "reading", "I", false)
  | 37 => ("CycleStudioModel", "now", "[I", true)
  | 38 => ("CycleStudioModel", "params", "I", false)
  | 39 => ("CycleStudioModel", "paramA", "[J", true)
  | 40 => ("CycleStudioModel", "paramB", "[J", true)
  | 41 => ("CycleStudioModel", "piled", "I", false)
  | 42 => ("CycleStudioModel", "pileKind", "[I", true)
  | 43 => ("CycleStudioModel", "pileNode", "[I", true)
  | 44 => ("CycleStudioModel", "pileState", "[I", true)
  | 45 => ("CycleStudioModel", "pileNumber", "[I", true)
  | 46 => ("CycleStudioModel", "done", "I", false)
  | 47 => ("CycleStudioModel", "maybes", "I", false)
  | 48 => ("CycleStudioModel", "patterns", "I", false)
  | 49 => ("CycleStudioModel", "kind", "[I", true)
  | 50 => ("CycleStudioModel", "qa", "[I", true)
  | 51 => ("CycleStudioModel", "qb", "[I", true)
  | 52 => ("CycleStudioModel", "qc", "[I", true)
  | 53 => ("CycleStudioModel", "qd", "[I", true)
  | 54 => ("CycleStudioModel", "kidFrom", "[I", true)
  | 55 => ("CycleStudioModel", "kidMany", "[I", true)
  | 56 => ("CycleStudioModel", "grain", "[I", true)
  | 57 => ("CycleStudioModel", "crowd", "[I", true)
  | 58 => ("CycleStudioModel", "reach", "[I", true)
  | 59 => ("CycleStudioModel", "work", "[I", true)
  | 60 => ("CycleStudioModel", "deep", "[I", true)
  | 61 => ("CycleStudioModel", "kids", "I", false)
  | 62 => ("CycleStudioModel", "kid", "[I", true)
  | 63 => ("CycleStudioModel", "kidWeight", "[I", true)
  | 64 => ("CycleStudioModel", "counted", "I", false)
  | 65 => ("CycleStudioModel", "tasks", "I", false)
  | 66 => ("CycleStudioModel", "task", "[I", true)
  | 67 => ("CycleStudioModel", "taskOf", "[I", true)
  | 68 => ("CycleStudioModel", "top", "I", false)
  | 69 => ("CycleStudioModel", "pile", "[I", true)
  | 70 => ("CycleStudioModel", "level", "I", false)
  | 71 => ("CycleStudioModel", "levelAt", "I", false)
  | 72 => ("CycleStudioModel", "inUse", "[I", true)
  | 73 => ("CycleStudioModel", "g", "J", false)
  | 74 => ("CycleStudioModel", "cSum", "J", false)
  | 75 => ("CycleStudioModel", "cMost", "J", false)
  | 76 => ("CycleStudioModel", "\x72", "J", false)
  | 77 => ("CycleStudioModel", "wSum", "J", false)
  | 78 => ("CycleStudioModel", "wMost", "J", false)
  | 79 => ("CycleStudioModel", "dMost", "I", false)
  | 80 => ("CycleStudioModel", "b0", "J", false)
  | 81 => ("CycleStudioModel", "b1", "J", false)
  | 82 => ("CycleStudioModel", "b2", "J", false)
  | 83 => ("CycleStudioModel", "b3", "J", false)
  | 84 => ("CycleStudioModel", "events", "I", false)
  | 85 => ("CycleStudioModel", "from", "[J", true)
  | 86 => ("CycleStudioModel", "upTo", "[J", true)
  | 87 => ("CycleStudioModel", "wordA", "[I", true)
  | 88 => ("CycleStudioModel", "wordB", "[I", true)
  | 89 => ("CycleStudioModel", "amount", "[I", true)
  | 90 => ("CycleStudioModel", "has", "[I", true)
  | 91 => ("CycleStudioModel", "soundHas", "[I", true)
  | 92 => ("CycleStudioModel", "soundA", "[I", true)
  | 93 => ("CycleStudioModel", "soundB", "[I", true)
  | 94 => ("CycleStudioModel", "soundN", "[I", true)
  | 95 => ("CycleStudioModel", "seed", "I", false)
  | 96 => ("CycleStudioModel", "frames", "I", false)
  | 97 => ("CycleStudioModel", "fPattern", "[I", true)
  | 98 => ("CycleStudioModel", "fCycle", "[J", true)
  | 99 => ("CycleStudioModel", "fState", "[I", true)
  | 100 => ("CycleStudioModel", "fBase", "[I", true)
  | 101 => ("CycleStudioModel", "fMark", "[I", true)
  | 102 => ("CycleStudioModel", "fKid", "[I", true)
  | 103 => ("CycleStudioModel", "fCount", "[I", true)
  | 104 => ("CycleStudioModel", "fAhead", "[J", true)
  | 105 => ("CycleStudioModel", "fRow", "[J", true)
  | 106 => ("CycleStudioModel", "fEnd", "[J", true)
  | 107 => ("CycleStudioModel", "turnA", "[I", true)
  | 108 => ("CycleStudioModel", "turnB", "[I", true)
  | 109 => ("CycleStudioModel", "turnN", "[I", true)
  | 110 => ("CycleStudioModel", "turnHas", "[I", true)
  | 111 => ("CycleStudioModel", "track", "[I", true)
  | 112 => ("CycleStudioModel", "waiting", "[I", true)
  | 113 => ("CycleStudioModel", "muted", "[Z", true)
  | 114 => ("CycleStudioModel", "alone", "[Z", true)
  | 115 => ("CycleStudioModel", "cycle", "I", false)
  | 116 => ("CycleStudioModel", "part", "I", false)
  | 117 => ("CycleStudioModel", "heardInAll", "I", false)
  | 118 => ("CycleStudioModel", "toldFault", "I", false)
  | 119 => ("CycleStudioModel", "toldAt", "I", false)
  | 120 => ("CycleStudioModel", "toldMany", "I", false)
  | 121 => ("CycleStudioModel", "asked", "I", false)
  | 122 => ("CycleStudioModel", "askedFrom", "[J", true)
  | 123 => ("CycleStudioModel", "askedSize", "[J", true)
  | 124 => ("CycleStudioModel", "askedA", "[I", true)
  | 125 => ("CycleStudioModel", "askedB", "[I", true)
  | 126 => ("CycleStudioModel", "askedN", "[I", true)
  | 127 => ("CycleStudioModel", "askedHas", "[I", true)
  | 128 => ("CycleStudioModel", "askedGrain", "I", false)
  | 129 => ("CycleStudioModel", "heard", "I", false)
  | 130 => ("CycleStudioModel", "heardTrack", "[I", true)
  | 131 => ("CycleStudioModel", "heardCycle", "[I", true)
  | 132 => ("CycleStudioModel", "heardGrain", "[I", true)
  | 133 => ("CycleStudioModel", "heardFrom", "[J", true)
  | 134 => ("CycleStudioModel", "heardSize", "[J", true)
  | 135 => ("CycleStudioModel", "heardA", "[I", true)
  | 136 => ("CycleStudioModel", "heardB", "[I", true)
  | 137 => ("CycleStudioModel", "heardN", "[I", true)
  | 138 => ("CycleStudioModel", "heardHas", "[I", true)
  | 139 => ("CycleStudioModel", "beats", "I", false)
  | 140 => ("CycleStudioModel", "beatTrack", "[I", true)
  | 141 => ("CycleStudioModel", "beatGrain", "[I", true)
  | 142 => ("CycleStudioModel", "beatFrom", "[J", true)
  | 143 => ("CycleStudioModel", "beatSize", "[J", true)
  | 144 => ("CycleStudioModel", "beatA", "[I", true)
  | 145 => ("CycleStudioModel", "beatB", "[I", true)
  | 146 => ("CycleStudioModel", "beatN", "[I", true)
  | 147 => ("CycleStudioModel", "beatHas", "[I", true)
  | 148 => ("CycleStudioModel", "order", "[I", true)
  | 149 => ("CycleStudioModel", "nodesWere", "I", false)
  | 150 => ("CycleStudioModel", "patternsWere", "I", false)
  | 151 => ("CycleStudioModel", "kidsWere", "I", false)
  | _ => ("CycleStudioModel", "versionsWere", "I", false)
def tyX12 : Nat → FieldType := fun k => match k with
  | 0 => .array .byte
  | 1 => .int
  | 2 => .int
  | 3 => .int
  | 4 => .int
  | 5 => .int
  | 6 => .int
  | 7 => .long
  | 8 => .long
  | 9 => .int
  | 10 => .int
  | 11 => .int
  | 12 => .int
  | 13 => .int
  | 14 => .array .char
  | 15 => .array .int
  | 16 => .int
  | 17 => .array .int
  | 18 => .array .int
  | 19 => .array .int
  | 20 => .array .int
  | 21 => .array .int
  | 22 => .array .int
  | 23 => .array .int
  | 24 => .array .int
  | 25 => .array .int
  | 26 => .array .int
  | 27 => .array .int
  | 28 => .int
  | 29 => .array .long
  | 30 => .array .long
  | 31 => .array .int
  | 32 => .array .int
  | 33 => .array .int
  | 34 => .int
  | 35 => .array .int
  | 36 => .int
  | 37 => .array .int
  | 38 => .int
  | 39 => .array .long
  | 40 => .array .long
  | 41 => .int
  | 42 => .array .int
  | 43 => .array .int
  | 44 => .array .int
  | 45 => .array .int
  | 46 => .int
  | 47 => .int
  | 48 => .int
  | 49 => .array .int
  | 50 => .array .int
  | 51 => .array .int
  | 52 => .array .int
  | 53 => .array .int
  | 54 => .array .int
  | 55 => .array .int
  | 56 => .array .int
  | 57 => .array .int
  | 58 => .array .int
  | 59 => .array .int
  | 60 => .array .int
  | 61 => .int
  | 62 => .array .int
  | 63 => .array .int
  | 64 => .int
  | 65 => .int
  | 66 => .array .int
  | 67 => .array .int
  | 68 => .int
  | 69 => .array .int
  | 70 => .int
  | 71 => .int
  | 72 => .array .int
  | 73 => .long
  | 74 => .long
  | 75 => .long
  | 76 => .long
  | 77 => .long
  | 78 => .long
  | 79 => .int
  | 80 => .long
  | 81 => .long
  | 82 => .long
  | 83 => .long
  | 84 => .int
  | 85 => .array .long
  | 86 => .array .long
  | 87 => .array .int
  | 88 => .array .int
  | 89 => .array .int
  | 90 => .array .int
  | 91 => .array .int
  | 92 => .array .int
  | 93 => .array .int
  | 94 => .array .int
  | 95 => .int
  | 96 => .int
  | 97 => .array .int
  | 98 => .array .long
  | 99 => .array .int
  | 100 => .array .int
  | 101 => .array .int
  | 102 => .array .int
  | 103 => .array .int
  | 104 => .array .long
  | 105 => .array .long
  | 106 => .array .long
  | 107 => .array .int
  | 108 => .array .int
  | 109 => .array .int
  | 110 => .array .int
  | 111 => .array .int
  | 112 => .array .int
  | 113 => .array .boolean
  | 114 => .array .boolean
  | 115 => .int
  | 116 => .int
  | 117 => .int
  | 118 => .int
  | 119 => .int
  | 120 => .int
  | 121 => .int
  | 122 => .array .long
  | 123 => .array .long
  | 124 => .array .int
  | 125 => .array .int
  | 126 => .array .int
  | 127 => .array .int
  | 128 => .int
  | 129 => .int
  | 130 => .array .int
  | 131 => .array .int
  | 132 => .array .int
  | 133 => .array .long
  | 134 => .array .long
  | 135 => .array .int
  | 136 => .array .int
  | 137 => .array .int
  | 138 => .array .int
  | 139 => .int
  | 140 => .array .int
  | 141 => .array .int
  | 142 => .array .long
  | 143 => .array .long
  | 144 => .array .int
  | 145 => .array .int
  | 146 => .array .int
  | 147 => .array .int
  | 148 => .array .int
  | 149 => .int
  | 150 => .int
  | 151 => .int
  | _ => .int
theorem nmX12 : ∀ a, a < 153 → ∀ b, b < 153 → a ≠ b → (TX12 a).2.1 ≠ (TX12 b).2.1 := by decide +kernel
theorem tyX12_ok : ∀ k, k < 153 → parseFieldDescriptor (TX12 k).2.2.1 = some (tyX12 k) := by decide +kernel
def RJx4a65c : String := "java/util/ArrayList"
def TJx4a65c : u_T := fun k => match k with
  | 0 => ("java/util/AbstractList", "modCount", "I", false)
  | 1 => ("java/util/ArrayList", "elementData", "[Ljava/lang/Object;", false)
  | _ => ("java/util/ArrayList", "size", "I", false)
def tyJx4a65c : Nat → FieldType := fun k => match k with
  | 0 => .int
  | 1 => .array (.object "java/lang/Object")
  | _ => .int
theorem nmJx4a65c : ∀ a, a < 3 → ∀ b, b < 3 → a ≠ b → (TJx4a65c a).2.1 ≠ (TJx4a65c b).2.1 := by decide +kernel
theorem tyJx4a65c_ok : ∀ k, k < 3 → parseFieldDescriptor (TJx4a65c k).2.2.1 = some (tyJx4a65c k) := by decide +kernel
def wsX1_init : List Cond := .code yX1_init cX1_init 1 none :: ([.methodLink RX1 1 objectInit, .instanceMethod objectInit, .code objectInit ⟨#[0xb1]⟩ 1 none, .arrayClass .long, .fieldLink RX1 9 "CycleStudio$Events" "begin" "[J", .fieldLink RX1 13 "CycleStudio$Events" "length" "[J", .fieldLink RX1 16 "CycleStudio$Events" "word" "[J", .arrayClass .int, .fieldLink RX1 19 "CycleStudio$Events" "number" "[I", .arrayClass .boolean, .fieldLink RX1 23 "CycleStudio$Events" "numbered" "[Z", .fieldLink RX1 27 "CycleStudio$Events" "mark" "[I", .fieldLink RX1 30 "CycleStudio$Events" "top" "I", .fieldLink RX1 34 "CycleStudio$Events" "spareNumber" "[I", .fieldLink RX1 37 "CycleStudio$Events" "spareNumbered" "[Z", .fieldLink RX1 40 "CycleStudio$Events" "spareWord" "[J", .fieldLink RX1 43 "CycleStudio$Events" "spareBegin" "[J", .fieldLink RX1 46 "CycleStudio$Events" "spareLength" "[J", .fieldLink RX1 49 "CycleStudio$Events" "keys" "[J", .fieldLink RX1 52 "CycleStudio$Events" "spareKeys" "[J"] ++ wsX10)
def wsX2_init : List Cond := .code yX2_init cX2_init 1 none :: ([.methodLink RX2 3 objectInit, .instanceMethod objectInit, .code objectInit ⟨#[0xb1]⟩ 1 none, .arrayClass .int, .fieldLink RX2 11 "CycleStudio$Kept" "track" "[I", .fieldLink RX2 15 "CycleStudio$Kept" "cycle" "[I", .arrayClass .long, .fieldLink RX2 18 "CycleStudio$Kept" "begin" "[J", .fieldLink RX2 22 "CycleStudio$Kept" "length" "[J", .fieldLink RX2 25 "CycleStudio$Kept" "grain" "[J", .fieldLink RX2 28 "CycleStudio$Kept" "word" "[J", .fieldLink RX2 31 "CycleStudio$Kept" "number" "[I", .arrayClass .boolean, .fieldLink RX2 34 "CycleStudio$Kept" "numbered" "[Z", .fieldLink RX2 38 "CycleStudio$Kept" "count" "I"] ++ wsX20)
def wsX3_init : List Cond := .code yX3_init cX3_init 1 none :: ([.methodLink RX3 1 objectInit, .instanceMethod objectInit, .code objectInit ⟨#[0xb1]⟩ 1 none, .classLink RX3 7 RX4, .fieldLink RX3 9 "CycleStudio$Maker" "nothing" "[LCycleStudio$Pattern;", .fieldLink RX3 15 "CycleStudio$Maker" "registers" "[LCycleStudio$Pattern;", .classLink RX3 18 RX0, .fieldLink RX3 20 "CycleStudio$Maker" "bodies" "[LCycleStudio$Definition;", .arrayClass .int, .fieldLink RX3 24 "CycleStudio$Maker" "bases" "[I", .fieldLink RX3 28 "CycleStudio$Maker" "nexts" "[I", .fieldLink RX3 31 "CycleStudio$Maker" "level" "I", .fieldLink RX3 35 "CycleStudio$Maker" "usedAt" "I", .fieldLink RX3 38 "CycleStudio$Maker" "counted" "I", .fieldLink RX3 41 "CycleStudio$Maker" "fault" "I", .fieldLink RX3 44 "CycleStudio$Maker" "place" "I"] ++ wsX30)
def wsX7_init_r1 : List Cond := [Cond.methodLink RX7 3 objectInit, Cond.instanceMethod objectInit, Cond.code objectInit ⟨#[0xb1]⟩ 1 none, Cond.classLink RX7 9 RX1, Cond.instantiable RX1 14, Cond.initialized RX1, Cond.fieldLink RX7 12 "CycleStudio$Rows" "events" "LCycleStudio$Events;", Cond.fieldLink RX7 18 "CycleStudio$Rows" "seed" "I", Cond.instanceMethod yX1_init, Cond.code yX1_init cX1_init 1 none, Cond.methodLink RX1 1 objectInit, Cond.arrayClass .long, Cond.fieldLink RX1 9 "CycleStudio$Events" "begin" "[J", Cond.fieldLink RX1 13 "CycleStudio$Events" "length" "[J", Cond.fieldLink RX1 16 "CycleStudio$Events" "word" "[J", Cond.arrayClass .int, Cond.fieldLink RX1 19 "CycleStudio$Events" "number" "[I", Cond.arrayClass .boolean, Cond.fieldLink RX1 23 "CycleStudio$Events" "numbered" "[Z", Cond.fieldLink RX1 27 "CycleStudio$Events" "mark" "[I", Cond.fieldLink RX1 30 "CycleStudio$Events" "top" "I", Cond.fieldLink RX1 34 "CycleStudio$Events" "spareNumber" "[I", Cond.fieldLink RX1 37 "CycleStudio$Events" "spareNumbered" "[Z", Cond.fieldLink RX1 40 "CycleStudio$Events" "spareWord" "[J"]
def wsX7_init_r2 : List Cond := [Cond.fieldLink RX1 43 "CycleStudio$Events" "spareBegin" "[J", Cond.fieldLink RX1 46 "CycleStudio$Events" "spareLength" "[J", Cond.fieldLink RX1 49 "CycleStudio$Events" "keys" "[J", Cond.fieldLink RX1 52 "CycleStudio$Events" "spareKeys" "[J"]
def wsX7_init : List Cond := .code yX7_init cX7_init 1 none :: ((wsX7_init_r1 ++ wsX7_init_r2) ++ wsX10 ++ wsX70)
def wsX8_init : List Cond := .code yX8_init cX8_init 1 none :: ([.methodLink RX8 3 objectInit, .instanceMethod objectInit, .code objectInit ⟨#[0xb1]⟩ 1 none, .arrayClass .byte, .fieldLink RX8 9 "CycleStudio$Scanner" "bytes" "[B", .fieldLink RX8 15 "CycleStudio$Scanner" "size" "I", .fieldLink RX8 19 "CycleStudio$Scanner" "fault" "I", .fieldLink RX8 22 "CycleStudio$Scanner" "place" "I", .fieldLink RX8 25 "CycleStudio$Scanner" "open" "I", .fieldLink RX8 28 "CycleStudio$Scanner" "kind" "I", .fieldLink RX8 31 "CycleStudio$Scanner" "at" "I", .fieldLink RX8 34 "CycleStudio$Scanner" "behind" "I", .fieldLink RX8 37 "CycleStudio$Scanner" "name" "J", .fieldLink RX8 41 "CycleStudio$Scanner" "upper" "I", .fieldLink RX8 44 "CycleStudio$Scanner" "lower" "I"] ++ wsX80)
theorem dX1_init_0 : decode cX1_init 0 = .ok (.aload_n 0, 1) := by decide +kernel
theorem dX1_init_1 : decode cX1_init 1 = .ok (.invokespecial 1, 3) := by decide +kernel
theorem dX1_init_4 : decode cX1_init 4 = .ok (.aload_n 0, 1) := by decide +kernel
theorem dX1_init_5 : decode cX1_init 5 = .ok (.sipush 6000, 3) := by decide +kernel
theorem dX1_init_8 : decode cX1_init 8 = .ok (.newarray .long, 2) := by decide +kernel
theorem dX1_init_10 : decode cX1_init 10 = .ok (.putfield 9, 3) := by decide +kernel
theorem dX1_init_13 : decode cX1_init 13 = .ok (.aload_n 0, 1) := by decide +kernel
theorem dX1_init_14 : decode cX1_init 14 = .ok (.sipush 6000, 3) := by decide +kernel
theorem dX1_init_17 : decode cX1_init 17 = .ok (.newarray .long, 2) := by decide +kernel
theorem dX1_init_19 : decode cX1_init 19 = .ok (.putfield 13, 3) := by decide +kernel
theorem dX1_init_22 : decode cX1_init 22 = .ok (.aload_n 0, 1) := by decide +kernel
theorem dX1_init_23 : decode cX1_init 23 = .ok (.sipush 6000, 3) := by decide +kernel
theorem dX1_init_26 : decode cX1_init 26 = .ok (.newarray .long, 2) := by decide +kernel
theorem dX1_init_28 : decode cX1_init 28 = .ok (.putfield 16, 3) := by decide +kernel
theorem dX1_init_31 : decode cX1_init 31 = .ok (.aload_n 0, 1) := by decide +kernel
theorem dX1_init_32 : decode cX1_init 32 = .ok (.sipush 6000, 3) := by decide +kernel
theorem dX1_init_35 : decode cX1_init 35 = .ok (.newarray .int, 2) := by decide +kernel
theorem dX1_init_37 : decode cX1_init 37 = .ok (.putfield 19, 3) := by decide +kernel
theorem dX1_init_40 : decode cX1_init 40 = .ok (.aload_n 0, 1) := by decide +kernel
theorem dX1_init_41 : decode cX1_init 41 = .ok (.sipush 6000, 3) := by decide +kernel
theorem dX1_init_44 : decode cX1_init 44 = .ok (.newarray .boolean, 2) := by decide +kernel
theorem dX1_init_46 : decode cX1_init 46 = .ok (.putfield 23, 3) := by decide +kernel
theorem dX1_init_49 : decode cX1_init 49 = .ok (.aload_n 0, 1) := by decide +kernel
theorem dX1_init_50 : decode cX1_init 50 = .ok (.sipush 6000, 3) := by decide +kernel
theorem dX1_init_53 : decode cX1_init 53 = .ok (.newarray .int, 2) := by decide +kernel
theorem dX1_init_55 : decode cX1_init 55 = .ok (.putfield 27, 3) := by decide +kernel
theorem dX1_init_58 : decode cX1_init 58 = .ok (.aload_n 0, 1) := by decide +kernel
theorem dX1_init_59 : decode cX1_init 59 = .ok (.iconst 0, 1) := by decide +kernel
theorem dX1_init_60 : decode cX1_init 60 = .ok (.putfield 30, 3) := by decide +kernel
theorem dX1_init_63 : decode cX1_init 63 = .ok (.aload_n 0, 1) := by decide +kernel
theorem dX1_init_64 : decode cX1_init 64 = .ok (.sipush 1024, 3) := by decide +kernel
theorem dX1_init_67 : decode cX1_init 67 = .ok (.newarray .int, 2) := by decide +kernel
theorem dX1_init_69 : decode cX1_init 69 = .ok (.putfield 34, 3) := by decide +kernel
theorem dX1_init_72 : decode cX1_init 72 = .ok (.aload_n 0, 1) := by decide +kernel
theorem dX1_init_73 : decode cX1_init 73 = .ok (.sipush 1024, 3) := by decide +kernel
theorem dX1_init_76 : decode cX1_init 76 = .ok (.newarray .boolean, 2) := by decide +kernel
theorem dX1_init_78 : decode cX1_init 78 = .ok (.putfield 37, 3) := by decide +kernel
theorem dX1_init_81 : decode cX1_init 81 = .ok (.aload_n 0, 1) := by decide +kernel
theorem dX1_init_82 : decode cX1_init 82 = .ok (.sipush 1024, 3) := by decide +kernel
theorem dX1_init_85 : decode cX1_init 85 = .ok (.newarray .long, 2) := by decide +kernel
theorem dX1_init_87 : decode cX1_init 87 = .ok (.putfield 40, 3) := by decide +kernel
theorem dX1_init_90 : decode cX1_init 90 = .ok (.aload_n 0, 1) := by decide +kernel
theorem dX1_init_91 : decode cX1_init 91 = .ok (.sipush 1024, 3) := by decide +kernel
theorem dX1_init_94 : decode cX1_init 94 = .ok (.newarray .long, 2) := by decide +kernel
theorem dX1_init_96 : decode cX1_init 96 = .ok (.putfield 43, 3) := by decide +kernel
theorem dX1_init_99 : decode cX1_init 99 = .ok (.aload_n 0, 1) := by decide +kernel
theorem dX1_init_100 : decode cX1_init 100 = .ok (.sipush 1024, 3) := by decide +kernel
theorem dX1_init_103 : decode cX1_init 103 = .ok (.newarray .long, 2) := by decide +kernel
theorem dX1_init_105 : decode cX1_init 105 = .ok (.putfield 46, 3) := by decide +kernel
theorem dX1_init_108 : decode cX1_init 108 = .ok (.aload_n 0, 1) := by decide +kernel
theorem dX1_init_109 : decode cX1_init 109 = .ok (.sipush 1024, 3) := by decide +kernel
theorem dX1_init_112 : decode cX1_init 112 = .ok (.newarray .long, 2) := by decide +kernel
theorem dX1_init_114 : decode cX1_init 114 = .ok (.putfield 49, 3) := by decide +kernel
theorem dX1_init_117 : decode cX1_init 117 = .ok (.aload_n 0, 1) := by decide +kernel
theorem dX1_init_118 : decode cX1_init 118 = .ok (.sipush 1024, 3) := by decide +kernel
theorem dX1_init_121 : decode cX1_init 121 = .ok (.newarray .long, 2) := by decide +kernel
theorem dX1_init_123 : decode cX1_init 123 = .ok (.putfield 52, 3) := by decide +kernel
theorem dX1_init_126 : decode cX1_init 126 = .ok (.return_, 1) := by decide +kernel
theorem dX2_init_0 : decode cX2_init 0 = .ok (.aload_n 0, 1) := by decide +kernel
theorem dX2_init_1 : decode cX2_init 1 = .ok (.invokespecial 3, 3) := by decide +kernel
theorem dX2_init_4 : decode cX2_init 4 = .ok (.aload_n 0, 1) := by decide +kernel
theorem dX2_init_5 : decode cX2_init 5 = .ok (.sipush 400, 3) := by decide +kernel
theorem dX2_init_8 : decode cX2_init 8 = .ok (.newarray .int, 2) := by decide +kernel
theorem dX2_init_10 : decode cX2_init 10 = .ok (.putfield 11, 3) := by decide +kernel
theorem dX2_init_13 : decode cX2_init 13 = .ok (.aload_n 0, 1) := by decide +kernel
theorem dX2_init_14 : decode cX2_init 14 = .ok (.sipush 400, 3) := by decide +kernel
theorem dX2_init_17 : decode cX2_init 17 = .ok (.newarray .int, 2) := by decide +kernel
theorem dX2_init_19 : decode cX2_init 19 = .ok (.putfield 15, 3) := by decide +kernel
theorem dX2_init_22 : decode cX2_init 22 = .ok (.aload_n 0, 1) := by decide +kernel
theorem dX2_init_23 : decode cX2_init 23 = .ok (.sipush 400, 3) := by decide +kernel
theorem dX2_init_26 : decode cX2_init 26 = .ok (.newarray .long, 2) := by decide +kernel
theorem dX2_init_28 : decode cX2_init 28 = .ok (.putfield 18, 3) := by decide +kernel
theorem dX2_init_31 : decode cX2_init 31 = .ok (.aload_n 0, 1) := by decide +kernel
theorem dX2_init_32 : decode cX2_init 32 = .ok (.sipush 400, 3) := by decide +kernel
theorem dX2_init_35 : decode cX2_init 35 = .ok (.newarray .long, 2) := by decide +kernel
theorem dX2_init_37 : decode cX2_init 37 = .ok (.putfield 22, 3) := by decide +kernel
theorem dX2_init_40 : decode cX2_init 40 = .ok (.aload_n 0, 1) := by decide +kernel
theorem dX2_init_41 : decode cX2_init 41 = .ok (.sipush 400, 3) := by decide +kernel
theorem dX2_init_44 : decode cX2_init 44 = .ok (.newarray .long, 2) := by decide +kernel
theorem dX2_init_46 : decode cX2_init 46 = .ok (.putfield 25, 3) := by decide +kernel
theorem dX2_init_49 : decode cX2_init 49 = .ok (.aload_n 0, 1) := by decide +kernel
theorem dX2_init_50 : decode cX2_init 50 = .ok (.sipush 400, 3) := by decide +kernel
theorem dX2_init_53 : decode cX2_init 53 = .ok (.newarray .long, 2) := by decide +kernel
theorem dX2_init_55 : decode cX2_init 55 = .ok (.putfield 28, 3) := by decide +kernel
theorem dX2_init_58 : decode cX2_init 58 = .ok (.aload_n 0, 1) := by decide +kernel
theorem dX2_init_59 : decode cX2_init 59 = .ok (.sipush 400, 3) := by decide +kernel
theorem dX2_init_62 : decode cX2_init 62 = .ok (.newarray .int, 2) := by decide +kernel
theorem dX2_init_64 : decode cX2_init 64 = .ok (.putfield 31, 3) := by decide +kernel
theorem dX2_init_67 : decode cX2_init 67 = .ok (.aload_n 0, 1) := by decide +kernel
theorem dX2_init_68 : decode cX2_init 68 = .ok (.sipush 400, 3) := by decide +kernel
theorem dX2_init_71 : decode cX2_init 71 = .ok (.newarray .boolean, 2) := by decide +kernel
theorem dX2_init_73 : decode cX2_init 73 = .ok (.putfield 34, 3) := by decide +kernel
theorem dX2_init_76 : decode cX2_init 76 = .ok (.aload_n 0, 1) := by decide +kernel
theorem dX2_init_77 : decode cX2_init 77 = .ok (.iconst 0, 1) := by decide +kernel
theorem dX2_init_78 : decode cX2_init 78 = .ok (.putfield 38, 3) := by decide +kernel
theorem dX2_init_81 : decode cX2_init 81 = .ok (.return_, 1) := by decide +kernel
theorem dX3_init_0 : decode cX3_init 0 = .ok (.aload_n 0, 1) := by decide +kernel
theorem dX3_init_1 : decode cX3_init 1 = .ok (.invokespecial 1, 3) := by decide +kernel
theorem dX3_init_4 : decode cX3_init 4 = .ok (.aload_n 0, 1) := by decide +kernel
theorem dX3_init_5 : decode cX3_init 5 = .ok (.iconst 0, 1) := by decide +kernel
theorem dX3_init_6 : decode cX3_init 6 = .ok (.anewarray 7, 3) := by decide +kernel
theorem dX3_init_9 : decode cX3_init 9 = .ok (.putfield 9, 3) := by decide +kernel
theorem dX3_init_12 : decode cX3_init 12 = .ok (.aload_n 0, 1) := by decide +kernel
theorem dX3_init_13 : decode cX3_init 13 = .ok (.sipush 512, 3) := by decide +kernel
theorem dX3_init_16 : decode cX3_init 16 = .ok (.anewarray 7, 3) := by decide +kernel
theorem dX3_init_19 : decode cX3_init 19 = .ok (.putfield 15, 3) := by decide +kernel
theorem dX3_init_22 : decode cX3_init 22 = .ok (.aload_n 0, 1) := by decide +kernel
theorem dX3_init_23 : decode cX3_init 23 = .ok (.bipush 13, 2) := by decide +kernel
theorem dX3_init_25 : decode cX3_init 25 = .ok (.anewarray 18, 3) := by decide +kernel
theorem dX3_init_28 : decode cX3_init 28 = .ok (.putfield 20, 3) := by decide +kernel
theorem dX3_init_31 : decode cX3_init 31 = .ok (.aload_n 0, 1) := by decide +kernel
theorem dX3_init_32 : decode cX3_init 32 = .ok (.bipush 13, 2) := by decide +kernel
theorem dX3_init_34 : decode cX3_init 34 = .ok (.newarray .int, 2) := by decide +kernel
theorem dX3_init_36 : decode cX3_init 36 = .ok (.putfield 24, 3) := by decide +kernel
theorem dX3_init_39 : decode cX3_init 39 = .ok (.aload_n 0, 1) := by decide +kernel
theorem dX3_init_40 : decode cX3_init 40 = .ok (.bipush 13, 2) := by decide +kernel
theorem dX3_init_42 : decode cX3_init 42 = .ok (.newarray .int, 2) := by decide +kernel
theorem dX3_init_44 : decode cX3_init 44 = .ok (.putfield 28, 3) := by decide +kernel
theorem dX3_init_47 : decode cX3_init 47 = .ok (.aload_n 0, 1) := by decide +kernel
theorem dX3_init_48 : decode cX3_init 48 = .ok (.iconst 0, 1) := by decide +kernel
theorem dX3_init_49 : decode cX3_init 49 = .ok (.putfield 31, 3) := by decide +kernel
theorem dX3_init_52 : decode cX3_init 52 = .ok (.aload_n 0, 1) := by decide +kernel
theorem dX3_init_53 : decode cX3_init 53 = .ok (.iconst 0, 1) := by decide +kernel
theorem dX3_init_54 : decode cX3_init 54 = .ok (.putfield 35, 3) := by decide +kernel
theorem dX3_init_57 : decode cX3_init 57 = .ok (.aload_n 0, 1) := by decide +kernel
theorem dX3_init_58 : decode cX3_init 58 = .ok (.iconst 0, 1) := by decide +kernel
theorem dX3_init_59 : decode cX3_init 59 = .ok (.putfield 38, 3) := by decide +kernel
theorem dX3_init_62 : decode cX3_init 62 = .ok (.aload_n 0, 1) := by decide +kernel
theorem dX3_init_63 : decode cX3_init 63 = .ok (.iconst 0, 1) := by decide +kernel
theorem dX3_init_64 : decode cX3_init 64 = .ok (.putfield 41, 3) := by decide +kernel
theorem dX3_init_67 : decode cX3_init 67 = .ok (.aload_n 0, 1) := by decide +kernel
theorem dX3_init_68 : decode cX3_init 68 = .ok (.iconst 0, 1) := by decide +kernel
theorem dX3_init_69 : decode cX3_init 69 = .ok (.putfield 44, 3) := by decide +kernel
theorem dX3_init_72 : decode cX3_init 72 = .ok (.return_, 1) := by decide +kernel
set_option maxRecDepth 20000 in
theorem ggX7_init_X1_init : GoodIn wsX7_init wsX1_init := goodIn_r _ [10, 11, 2, 3, 12, 13, 14, 15, 16, 17, 18, 19, 20, 21, 22, 23, 24, 25, 26, 27, 28, 29, 30, 31, 32, 33, 34, 35, 36, 37, 38, 39, 40, 41, 42] (by decide +kernel) (by decide +kernel)
set_option maxRecDepth 20000 in
theorem gX7_init_X1_init_n11 : GoodIn wsX7_init (wsX1_init) := ggX7_init_X1_init
theorem dX7_init_0 : decode cX7_init 0 = .ok (.aload_n 0, 1) := by decide +kernel
theorem dX7_init_1 : decode cX7_init 1 = .ok (.invokespecial 3, 3) := by decide +kernel
theorem dX7_init_4 : decode cX7_init 4 = .ok (.aload_n 0, 1) := by decide +kernel
theorem dX7_init_5 : decode cX7_init 5 = .ok (.new 9, 3) := by decide +kernel
theorem dX7_init_8 : decode cX7_init 8 = .ok (.dup, 1) := by decide +kernel
theorem dX7_init_9 : decode cX7_init 9 = .ok (.invokespecial 11, 3) := by decide +kernel
theorem dX7_init_12 : decode cX7_init 12 = .ok (.putfield 12, 3) := by decide +kernel
theorem dX7_init_15 : decode cX7_init 15 = .ok (.aload_n 0, 1) := by decide +kernel
theorem dX7_init_16 : decode cX7_init 16 = .ok (.iconst 0, 1) := by decide +kernel
theorem dX7_init_17 : decode cX7_init 17 = .ok (.putfield 18, 3) := by decide +kernel
theorem dX7_init_20 : decode cX7_init 20 = .ok (.return_, 1) := by decide +kernel
theorem dX8_init_0 : decode cX8_init 0 = .ok (.aload_n 0, 1) := by decide +kernel
theorem dX8_init_1 : decode cX8_init 1 = .ok (.invokespecial 3, 3) := by decide +kernel
theorem dX8_init_4 : decode cX8_init 4 = .ok (.aload_n 0, 1) := by decide +kernel
theorem dX8_init_5 : decode cX8_init 5 = .ok (.sipush 2000, 3) := by decide +kernel
theorem dX8_init_8 : decode cX8_init 8 = .ok (.newarray .byte, 2) := by decide +kernel
theorem dX8_init_10 : decode cX8_init 10 = .ok (.putfield 9, 3) := by decide +kernel
theorem dX8_init_13 : decode cX8_init 13 = .ok (.aload_n 0, 1) := by decide +kernel
theorem dX8_init_14 : decode cX8_init 14 = .ok (.iconst 0, 1) := by decide +kernel
theorem dX8_init_15 : decode cX8_init 15 = .ok (.putfield 15, 3) := by decide +kernel
theorem dX8_init_18 : decode cX8_init 18 = .ok (.aload_n 0, 1) := by decide +kernel
theorem dX8_init_19 : decode cX8_init 19 = .ok (.iconst 0, 1) := by decide +kernel
theorem dX8_init_20 : decode cX8_init 20 = .ok (.putfield 19, 3) := by decide +kernel
theorem dX8_init_23 : decode cX8_init 23 = .ok (.aload_n 0, 1) := by decide +kernel
theorem dX8_init_24 : decode cX8_init 24 = .ok (.iconst 0, 1) := by decide +kernel
theorem dX8_init_25 : decode cX8_init 25 = .ok (.putfield 22, 3) := by decide +kernel
theorem dX8_init_28 : decode cX8_init 28 = .ok (.aload_n 0, 1) := by decide +kernel
theorem dX8_init_29 : decode cX8_init 29 = .ok (.iconst 0, 1) := by decide +kernel
theorem dX8_init_30 : decode cX8_init 30 = .ok (.putfield 25, 3) := by decide +kernel
theorem dX8_init_33 : decode cX8_init 33 = .ok (.aload_n 0, 1) := by decide +kernel
theorem dX8_init_34 : decode cX8_init 34 = .ok (.bipush 6, 2) := by decide +kernel
theorem dX8_init_36 : decode cX8_init 36 = .ok (.putfield 28, 3) := by decide +kernel
theorem dX8_init_39 : decode cX8_init 39 = .ok (.aload_n 0, 1) := by decide +kernel
theorem dX8_init_40 : decode cX8_init 40 = .ok (.iconst 0, 1) := by decide +kernel
theorem dX8_init_41 : decode cX8_init 41 = .ok (.putfield 31, 3) := by decide +kernel
theorem dX8_init_44 : decode cX8_init 44 = .ok (.aload_n 0, 1) := by decide +kernel
theorem dX8_init_45 : decode cX8_init 45 = .ok (.iconst 0, 1) := by decide +kernel
theorem dX8_init_46 : decode cX8_init 46 = .ok (.putfield 34, 3) := by decide +kernel
theorem dX8_init_49 : decode cX8_init 49 = .ok (.aload_n 0, 1) := by decide +kernel
theorem dX8_init_50 : decode cX8_init 50 = .ok (.lconst 0, 1) := by decide +kernel
theorem dX8_init_51 : decode cX8_init 51 = .ok (.putfield 37, 3) := by decide +kernel
theorem dX8_init_54 : decode cX8_init 54 = .ok (.aload_n 0, 1) := by decide +kernel
theorem dX8_init_55 : decode cX8_init 55 = .ok (.iconst 0, 1) := by decide +kernel
theorem dX8_init_56 : decode cX8_init 56 = .ok (.putfield 41, 3) := by decide +kernel
theorem dX8_init_59 : decode cX8_init 59 = .ok (.aload_n 0, 1) := by decide +kernel
theorem dX8_init_60 : decode cX8_init 60 = .ok (.iconst 1, 1) := by decide +kernel
theorem dX8_init_61 : decode cX8_init 61 = .ok (.putfield 44, 3) := by decide +kernel
theorem dX8_init_64 : decode cX8_init 64 = .ok (.return_, 1) := by decide +kernel
abbrev vwCl : List vw_C := [(RJx4a65c, TJx4a65c, 3), (RX0, TX0, 7), (RX1, TX1, 14), (RX2, TX2, 9), (RX3, TX3, 10), (RX4, TX4, 7), (RX5, TX5, 11), (RX6, TX6, 7), (RX7, TX7, 2), (RX8, TX8, 11), (RX9, TX9, 14), (RX10, TX10, 6), (RX11, TX11, 19), (RX12, TX12, 153)]
