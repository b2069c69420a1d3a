/-! ===== BEGIN words of one list among another's, by their places ===== -/
theorem goodIn_r {big : List Cond} (ws : List Cond) (ps : List Nat) (hp : ws = ps.filterMap (fun i => big[i]?)) (h : ws.all goodWord = true) : GoodIn big ws := by
  intro w hw
  have h1 := List.all_eq_true.mp h w hw
  rw [hp] at hw
  obtain ⟨i, -, hi⟩ := List.mem_filterMap.mp hw
  have hm : w ∈ big := by first | exact List.mem_of_getElem? hi | exact List.getElem?_mem hi
  exact ⟨hm, good_of_word h1⟩
theorem goodIn_app {big a b : List Cond} (ha : GoodIn big a) (hb : GoodIn big b) : GoodIn big (a ++ b) := fun w h => (List.mem_append.mp h).elim (ha w) (hb w)
theorem goodIn_ca {big a b : List Cond} {c : Cond} (ha : GoodIn big (c :: a)) (hb : GoodIn big b) : GoodIn big (c :: (a ++ b)) := fun w h => (List.mem_cons.mp h).elim (fun e => ha w (List.mem_cons.mpr (Or.inl e))) (fun h => (List.mem_append.mp h).elim (fun h => ha w (List.mem_cons.mpr (Or.inr h))) (hb w))
theorem goodIn_sub {big ws : List Cond} (hm : ∀ w ∈ ws, w ∈ big) (h : ws.all goodWord = true) : GoodIn big ws := fun w hw => ⟨hm w hw, good_of_word (List.all_eq_true.mp h w hw)⟩
/-! ===== END ===== -/
/-! ===== BEGIN printed: names, fields, word lists, decode rows ===== -/
def RX0 : String := "KeyholeWeave$Guesses"
def TX0 : u_T := fun k => match k with
  | 0 => ("KeyholeWeave$Guesses", "road", "LKeyholeWeave$Road;", true)
  | 1 => ("KeyholeWeave$Guesses", "loom", "LKeyholeWeave$Loom;", true)
  | 2 => ("KeyholeWeave$Guesses", "spare", "[[I", true)
  | 3 => ("KeyholeWeave$Guesses", "low", "I", false)
  | 4 => ("KeyholeWeave$Guesses", "high", "I", false)
  | 5 => ("KeyholeWeave$Guesses", "looks", "[[I", true)
  | 6 => ("KeyholeWeave$Guesses", "looksKnown", "[Z", true)
  | 7 => ("KeyholeWeave$Guesses", "present", "[I", true)
  | 8 => ("KeyholeWeave$Guesses", "presentKnown", "Z", false)
  | 9 => ("KeyholeWeave$Guesses", "slipColours", "[I", true)
  | 10 => ("KeyholeWeave$Guesses", "slipCount", "I", false)
  | _ => ("KeyholeWeave$Guesses", "slipsKnown", "Z", false)
def tyX0 : Nat → FieldType := fun k => match k with
  | 0 => .object "KeyholeWeave$Road"
  | 1 => .object "KeyholeWeave$Loom"
  | 2 => .array (.array .int)
  | 3 => .int
  | 4 => .int
  | 5 => .array (.array .int)
  | 6 => .array .boolean
  | 7 => .array .int
  | 8 => .boolean
  | 9 => .array .int
  | 10 => .int
  | _ => .boolean
abbrev wsX00 : List Cond := u_ws RX0 TX0 12
theorem nmX0 : ∀ a, a < 12 → ∀ b, b < 12 → a ≠ b → (TX0 a).2.1 ≠ (TX0 b).2.1 := by decide +kernel
theorem tyX0_ok : ∀ k, k < 12 → parseFieldDescriptor (TX0 k).2.2.1 = some (tyX0 k) := by decide +kernel
abbrev cX0_init : ByteArray := prog_2_method_1_code
def yX0_init : MethodName := ⟨RX0, "<init>", "(LKeyholeWeave$Road;)V"⟩
abbrev cX0_forget : ByteArray := prog_2_method_2_code
def yX0_forget : MethodName := ⟨RX0, "forget", "()V"⟩
abbrev cX0_coloursFor : ByteArray := prog_2_method_3_code
def yX0_coloursFor : MethodName := ⟨RX0, "coloursFor", "(I[I)I"⟩
abbrev cX0_findLooks : ByteArray := prog_2_method_4_code
def yX0_findLooks : MethodName := ⟨RX0, "findLooks", "(I)V"⟩
abbrev cX0_findGift : ByteArray := prog_2_method_5_code
def yX0_findGift : MethodName := ⟨RX0, "findGift", "()V"⟩
abbrev cX0_findSlips : ByteArray := prog_2_method_6_code
def yX0_findSlips : MethodName := ⟨RX0, "findSlips", "()V"⟩
abbrev cX0_slipAt : ByteArray := prog_2_method_7_code
def yX0_slipAt : MethodName := ⟨RX0, "slipAt", "(I)I"⟩
abbrev cX0_likenessWithout : ByteArray := prog_2_method_8_code
def yX0_likenessWithout : MethodName := ⟨RX0, "likenessWithout", "(I)I"⟩
abbrev cX0_endAfterSlip : ByteArray := prog_2_method_9_code
def yX0_endAfterSlip : MethodName := ⟨RX0, "endAfterSlip", "(III)[I"⟩
abbrev cX0_endFrom : ByteArray := prog_2_method_10_code
def yX0_endFrom : MethodName := ⟨RX0, "endFrom", "(I[II)[I"⟩
abbrev cX0_follow : ByteArray := prog_2_method_11_code
def yX0_follow : MethodName := ⟨RX0, "follow", "(I[I[III)V"⟩
def RX1 : String := "KeyholeWeave$Law"
def TX1 : u_T := fun k => match k with
  | 0 => ("KeyholeWeave$Law", "clauses", "I", true)
  | 1 => ("KeyholeWeave$Law", "starts", "[I", true)
  | _ => ("KeyholeWeave$Law", "code", "[I", true)
def tyX1 : Nat → FieldType := fun k => match k with
  | 0 => .int
  | 1 => .array .int
  | _ => .array .int
abbrev wsX10 : List Cond := u_ws RX1 TX1 3
theorem nmX1 : ∀ a, a < 3 → ∀ b, b < 3 → a ≠ b → (TX1 a).2.1 ≠ (TX1 b).2.1 := by decide +kernel
theorem tyX1_ok : ∀ k, k < 3 → parseFieldDescriptor (TX1 k).2.2.1 = some (tyX1 k) := by decide +kernel
abbrev cX1_init : ByteArray := prog_3_method_1_code
def yX1_init : MethodName := ⟨RX1, "<init>", "(I[I[I)V"⟩
def RX2 : String := "KeyholeWeave$Loom"
def TX2 : u_T := fun k => match k with
  | 0 => ("KeyholeWeave$Loom", "holes", "[J", true)
  | 1 => ("KeyholeWeave$Loom", "wool", "[I", true)
  | 2 => ("KeyholeWeave$Loom", "taste", "[I", true)
  | 3 => ("KeyholeWeave$Loom", "stack", "[J", true)
  | 4 => ("KeyholeWeave$Loom", "asked", "[I", true)
  | 5 => ("KeyholeWeave$Loom", "villages", "I", false)
  | 6 => ("KeyholeWeave$Loom", "open", "I", false)
  | _ => ("KeyholeWeave$Loom", "law", "LKeyholeWeave$Law;", false)
def tyX2 : Nat → FieldType := fun k => match k with
  | 0 => .array .long
  | 1 => .array .int
  | 2 => .array .int
  | 3 => .array .long
  | 4 => .array .int
  | 5 => .int
  | 6 => .int
  | _ => .object "KeyholeWeave$Law"
abbrev wsX20 : List Cond := u_ws RX2 TX2 8
theorem nmX2 : ∀ a, a < 8 → ∀ b, b < 8 → a ≠ b → (TX2 a).2.1 ≠ (TX2 b).2.1 := by decide +kernel
theorem tyX2_ok : ∀ k, k < 8 → parseFieldDescriptor (TX2 k).2.2.1 = some (tyX2 k) := by decide +kernel
abbrev cX2_init : ByteArray := prog_4_method_1_code
def yX2_init : MethodName := ⟨RX2, "<init>", "()V"⟩
abbrev cX2_setUp : ByteArray := prog_4_method_2_code
def yX2_setUp : MethodName := ⟨RX2, "setUp", "(LKeyholeWeave$State;)V"⟩
abbrev cX2_sees : ByteArray := prog_4_method_3_code
def yX2_sees : MethodName := ⟨RX2, "sees", "(II)Z"⟩
abbrev cX2_weave : ByteArray := prog_4_method_4_code
def yX2_weave : MethodName := ⟨RX2, "weave", "(I[I[I)V"⟩
abbrev cX2_colourIn : ByteArray := prog_4_method_5_code
def yX2_colourIn : MethodName := ⟨RX2, "colourIn", "(II[I[I)I"⟩
abbrev cX2_nearest : ByteArray := prog_4_method_6_code
def yX2_nearest : MethodName := ⟨RX2, "nearest", "(IJ)I"⟩
abbrev cX2_holds : ByteArray := prog_4_method_7_code
def yX2_holds : MethodName := ⟨RX2, "holds", "(I)Z"⟩
abbrev cX2_combine : ByteArray := prog_4_method_8_code
def yX2_combine : MethodName := ⟨RX2, "combine", "(II)Z"⟩
def RX3 : String := "KeyholeWeave$Mender"
def TX3 : u_T := fun k => match k with
  | 0 => ("KeyholeWeave$Mender", "given", "[I", true)
  | 1 => ("KeyholeWeave$Mender", "cells", "[I", true)
  | 2 => ("KeyholeWeave$Mender", "tried", "[I", true)
  | 3 => ("KeyholeWeave$Mender", "best", "[I", true)
  | 4 => ("KeyholeWeave$Mender", "picture", "[I", true)
  | 5 => ("KeyholeWeave$Mender", "many", "I", false)
  | _ => ("KeyholeWeave$Mender", "fewest", "I", false)
def tyX3 : Nat → FieldType := fun k => match k with
  | 0 => .array .int
  | 1 => .array .int
  | 2 => .array .int
  | 3 => .array .int
  | 4 => .array .int
  | 5 => .int
  | _ => .int
abbrev wsX30 : List Cond := u_ws RX3 TX3 7
theorem nmX3 : ∀ a, a < 7 → ∀ b, b < 7 → a ≠ b → (TX3 a).2.1 ≠ (TX3 b).2.1 := by decide +kernel
theorem tyX3_ok : ∀ k, k < 7 → parseFieldDescriptor (TX3 k).2.2.1 = some (tyX3 k) := by decide +kernel
abbrev cX3_init : ByteArray := prog_5_method_1_code
def yX3_init : MethodName := ⟨RX3, "<init>", "()V"⟩
abbrev cX3_takeCells : ByteArray := prog_5_method_2_code
def yX3_takeCells : MethodName := ⟨RX3, "takeCells", "(IIIII)Z"⟩
abbrev cX3_insert : ByteArray := prog_5_method_3_code
def yX3_insert : MethodName := ⟨RX3, "insert", "(I)Z"⟩
abbrev cX3_mendAll : ByteArray := prog_5_method_4_code
def yX3_mendAll : MethodName := ⟨RX3, "mendAll", "([I)V"⟩
abbrev cX3_mendFrom : ByteArray := prog_5_method_5_code
def yX3_mendFrom : MethodName := ⟨RX3, "mendFrom", "(II)V"⟩
abbrev cX3_seamsAround : ByteArray := prog_5_method_6_code
def yX3_seamsAround : MethodName := ⟨RX3, "seamsAround", "(I)I"⟩
def RX4 : String := "KeyholeWeave$Reader"
def TX4 : u_T := fun k => match k with
  | 0 => ("KeyholeWeave$Reader", "code", "[I", true)
  | 1 => ("KeyholeWeave$Reader", "starts", "[I", true)
  | 2 => ("KeyholeWeave$Reader", "text", "[I", false)
  | 3 => ("KeyholeWeave$Reader", "length", "I", false)
  | 4 => ("KeyholeWeave$Reader", "from", "I", false)
  | 5 => ("KeyholeWeave$Reader", "to", "I", false)
  | 6 => ("KeyholeWeave$Reader", "kind", "I", false)
  | 7 => ("KeyholeWeave$Reader", "size", "I", false)
  | 8 => ("KeyholeWeave$Reader", "parts", "I", false)
  | _ => ("KeyholeWeave$Reader", "fault", "I", false)
def tyX4 : Nat → FieldType := fun k => match k with
  | 0 => .array .int
  | 1 => .array .int
  | 2 => .array .int
  | 3 => .int
  | 4 => .int
  | 5 => .int
  | 6 => .int
  | 7 => .int
  | 8 => .int
  | _ => .int
abbrev wsX40 : List Cond := u_ws RX4 TX4 10
theorem nmX4 : ∀ a, a < 10 → ∀ b, b < 10 → a ≠ b → (TX4 a).2.1 ≠ (TX4 b).2.1 := by decide +kernel
theorem tyX4_ok : ∀ k, k < 10 → parseFieldDescriptor (TX4 k).2.2.1 = some (tyX4 k) := by decide +kernel
abbrev cX4_init : ByteArray := prog_6_method_1_code
def yX4_init : MethodName := ⟨RX4, "<init>", "()V"⟩
abbrev cX4_readLaw : ByteArray := prog_6_method_2_code
def yX4_readLaw : MethodName := ⟨RX4, "readLaw", "([II)LKeyholeWeave$Law;"⟩
abbrev cX4_readTest : ByteArray := prog_6_method_3_code
def yX4_readTest : MethodName := ⟨RX4, "readTest", "(I)V"⟩
abbrev cX4_readPlain : ByteArray := prog_6_method_4_code
def yX4_readPlain : MethodName := ⟨RX4, "readPlain", "(I)V"⟩
abbrev cX4_readSum : ByteArray := prog_6_method_5_code
def yX4_readSum : MethodName := ⟨RX4, "readSum", "(I)V"⟩
abbrev cX4_readPart : ByteArray := prog_6_method_6_code
def yX4_readPart : MethodName := ⟨RX4, "readPart", "(I)V"⟩
abbrev cX4_number : ByteArray := prog_6_method_7_code
def yX4_number : MethodName := ⟨RX4, "number", "()I"⟩
abbrev cX4_word : ByteArray := prog_6_method_8_code
def yX4_word : MethodName := ⟨RX4, "word", "()I"⟩
abbrev cX4_comparison : ByteArray := prog_6_method_9_code
def yX4_comparison : MethodName := ⟨RX4, "comparison", "()I"⟩
abbrev cX4_calculation : ByteArray := prog_6_method_10_code
def yX4_calculation : MethodName := ⟨RX4, "calculation", "()I"⟩
abbrev cX4_isWord : ByteArray := prog_6_method_11_code
def yX4_isWord : MethodName := ⟨RX4, "isWord", "(Ljava/lang/String;)Z"⟩
abbrev cX4_takeWord : ByteArray := prog_6_method_12_code
def yX4_takeWord : MethodName := ⟨RX4, "takeWord", "(Ljava/lang/String;)Z"⟩
abbrev cX4_takeSign : ByteArray := prog_6_method_13_code
def yX4_takeSign : MethodName := ⟨RX4, "takeSign", "(I)V"⟩
abbrev cX4_stick : ByteArray := prog_6_method_14_code
def yX4_stick : MethodName := ⟨RX4, "stick", "()V"⟩
abbrev cX4_step : ByteArray := prog_6_method_15_code
def yX4_step : MethodName := ⟨RX4, "step", "()V"⟩
abbrev cX4_emit : ByteArray := prog_6_method_16_code
def yX4_emit : MethodName := ⟨RX4, "emit", "(II)V"⟩
abbrev cX4_skipToHere : ByteArray := prog_6_method_17_code
def yX4_skipToHere : MethodName := ⟨RX4, "skipToHere", "(I)V"⟩
def RX5 : String := "KeyholeWeave$Road"
def TX5 : u_T := fun k => match k with
  | 0 => ("KeyholeWeave$Road", "loom", "LKeyholeWeave$Loom;", true)
  | 1 => ("KeyholeWeave$Road", "onward", "[[I", true)
  | 2 => ("KeyholeWeave$Road", "rearward", "[[I", true)
  | 3 => ("KeyholeWeave$Road", "told", "[[I", false)
  | _ => ("KeyholeWeave$Road", "rearwardKnown", "Z", false)
def tyX5 : Nat → FieldType := fun k => match k with
  | 0 => .object "KeyholeWeave$Loom"
  | 1 => .array (.array .int)
  | 2 => .array (.array .int)
  | 3 => .array (.array .int)
  | _ => .boolean
abbrev wsX50 : List Cond := u_ws RX5 TX5 5
theorem nmX5 : ∀ a, a < 5 → ∀ b, b < 5 → a ≠ b → (TX5 a).2.1 ≠ (TX5 b).2.1 := by decide +kernel
theorem tyX5_ok : ∀ k, k < 5 → parseFieldDescriptor (TX5 k).2.2.1 = some (tyX5 k) := by decide +kernel
abbrev cX5_init : ByteArray := prog_7_method_1_code
def yX5_init : MethodName := ⟨RX5, "<init>", "()V"⟩
abbrev cX5_weaveAll : ByteArray := prog_7_method_2_code
def yX5_weaveAll : MethodName := ⟨RX5, "weaveAll", "(LKeyholeWeave$State;)V"⟩
abbrev cX5_backward : ByteArray := prog_7_method_3_code
def yX5_backward : MethodName := ⟨RX5, "backward", "()[[I"⟩
abbrev cX5_picture : ByteArray := prog_7_method_4_code
def yX5_picture : MethodName := ⟨RX5, "picture", "(I)[I"⟩
abbrev cX5_last : ByteArray := prog_7_method_5_code
def yX5_last : MethodName := ⟨RX5, "last", "()[I"⟩
def RX6 : String := "KeyholeWeave$State"
def TX6 : u_T := fun k => match k with
  | 0 => ("KeyholeWeave$State", "traits", "[[I", true)
  | 1 => ("KeyholeWeave$State", "pictures", "[[I", true)
  | 2 => ("KeyholeWeave$State", "prices", "[I", true)
  | 3 => ("KeyholeWeave$State", "terms", "[I", true)
  | 4 => ("KeyholeWeave$State", "texts", "[LKeyholeWeave$Law;", true)
  | 5 => ("KeyholeWeave$State", "villages", "I", false)
  | 6 => ("KeyholeWeave$State", "laws", "I", false)
  | _ => ("KeyholeWeave$State", "inForce", "I", false)
def tyX6 : Nat → FieldType := fun k => match k with
  | 0 => .array (.array .int)
  | 1 => .array (.array .int)
  | 2 => .array .int
  | 3 => .array .int
  | 4 => .array (.object "KeyholeWeave$Law")
  | 5 => .int
  | 6 => .int
  | _ => .int
abbrev wsX60 : List Cond := u_ws RX6 TX6 8
theorem nmX6 : ∀ a, a < 8 → ∀ b, b < 8 → a ≠ b → (TX6 a).2.1 ≠ (TX6 b).2.1 := by decide +kernel
theorem tyX6_ok : ∀ k, k < 8 → parseFieldDescriptor (TX6 k).2.2.1 = some (tyX6 k) := by decide +kernel
abbrev cX6_init : ByteArray := prog_8_method_1_code
def yX6_init : MethodName := ⟨RX6, "<init>", "()V"⟩
abbrev cX6_setKeyhole : ByteArray := prog_8_method_2_code
def yX6_setKeyhole : MethodName := ⟨RX6, "setKeyhole", "(IIIII)V"⟩
abbrev cX6_copyFrom : ByteArray := prog_8_method_3_code
def yX6_copyFrom : MethodName := ⟨RX6, "copyFrom", "(LKeyholeWeave$State;)V"⟩
abbrev cX6_lawInForce : ByteArray := prog_8_method_4_code
def yX6_lawInForce : MethodName := ⟨RX6, "lawInForce", "()LKeyholeWeave$Law;"⟩
def RX7 : String := "KeyholeWeave$Tape"
def TX7 : u_T := fun k => match k with
  | 0 => ("KeyholeWeave$Tape", "bytes", "[I", true)
  | _ => ("KeyholeWeave$Tape", "size", "I", false)
def tyX7 : Nat → FieldType := fun k => match k with
  | 0 => .array .int
  | _ => .int
abbrev wsX70 : List Cond := u_ws RX7 TX7 2
theorem nmX7 : ∀ a, a < 2 → ∀ b, b < 2 → a ≠ b → (TX7 a).2.1 ≠ (TX7 b).2.1 := by decide +kernel
theorem tyX7_ok : ∀ k, k < 2 → parseFieldDescriptor (TX7 k).2.2.1 = some (tyX7 k) := by decide +kernel
abbrev cX7_init : ByteArray := prog_9_method_1_code
def yX7_init : MethodName := ⟨RX7, "<init>", "()V"⟩
abbrev cX7_add : ByteArray := prog_9_method_2_code
def yX7_add : MethodName := ⟨RX7, "add", "(I)V"⟩
def RX8 : String := "KeyholeWeave$Weavers"
def TX8 : u_T := fun k => match k with
  | 0 => ("KeyholeWeave$Weavers", "pictures", "[[I", true)
  | 1 => ("KeyholeWeave$Weavers", "slipped", "[I", true)
  | 2 => ("KeyholeWeave$Weavers", "villages", "I", false)
  | _ => ("KeyholeWeave$Weavers", "s", "I", false)
def tyX8 : Nat → FieldType := fun k => match k with
  | 0 => .array (.array .int)
  | 1 => .array .int
  | 2 => .int
  | _ => .int
abbrev wsX80 : List Cond := u_ws RX8 TX8 4
theorem nmX8 : ∀ a, a < 4 → ∀ b, b < 4 → a ≠ b → (TX8 a).2.1 ≠ (TX8 b).2.1 := by decide +kernel
theorem tyX8_ok : ∀ k, k < 4 → parseFieldDescriptor (TX8 k).2.2.1 = some (tyX8 k) := by decide +kernel
abbrev cX8_init : ByteArray := prog_10_method_1_code
def yX8_init : MethodName := ⟨RX8, "<init>", "()V"⟩
abbrev cX8_weaveAll : ByteArray := prog_10_method_2_code
def yX8_weaveAll : MethodName := ⟨RX8, "weaveAll", "(LKeyholeWeave$Loom;LKeyholeWeave$State;I)[I"⟩
abbrev cX8_draw : ByteArray := prog_10_method_3_code
def yX8_draw : MethodName := ⟨RX8, "draw", "(I)I"⟩
def RX9 : String := "KeyholeWeave"
def TX9 : u_T := fun k => match k with
  | 0 => ("KeyholeWeave", "now", "LKeyholeWeave$State;", true)
  | 1 => ("KeyholeWeave", "images", "[LKeyholeWeave$State;", true)
  | 2 => ("KeyholeWeave", "tape", "LKeyholeWeave$Tape;", true)
  | 3 => ("KeyholeWeave", "reader", "LKeyholeWeave$Reader;", true)
  | 4 => ("KeyholeWeave", "road", "LKeyholeWeave$Road;", true)
  | 5 => ("KeyholeWeave", "guesses", "LKeyholeWeave$Guesses;", true)
  | 6 => ("KeyholeWeave", "mender", "LKeyholeWeave$Mender;", true)
  | 7 => ("KeyholeWeave", "latest", "LKeyholeWeave$Weavers;", true)
  | 8 => ("KeyholeWeave", "refusals", "[I", true)
  | 9 => ("KeyholeWeave", "refusedBy", "I", false)
  | 10 => ("KeyholeWeave", "latestLint", "I", false)
  | 11 => ("KeyholeWeave", "latestFault", "I", false)
  | _ => ("KeyholeWeave", "stale", "Z", false)
def tyX9 : Nat → FieldType := fun k => match k with
  | 0 => .object "KeyholeWeave$State"
  | 1 => .array (.object "KeyholeWeave$State")
  | 2 => .object "KeyholeWeave$Tape"
  | 3 => .object "KeyholeWeave$Reader"
  | 4 => .object "KeyholeWeave$Road"
  | 5 => .object "KeyholeWeave$Guesses"
  | 6 => .object "KeyholeWeave$Mender"
  | 7 => .object "KeyholeWeave$Weavers"
  | 8 => .array .int
  | 9 => .int
  | 10 => .int
  | 11 => .int
  | _ => .boolean
abbrev wsX90 : List Cond := u_ws RX9 TX9 13
theorem nmX9 : ∀ a, a < 13 → ∀ b, b < 13 → a ≠ b → (TX9 a).2.1 ≠ (TX9 b).2.1 := by decide +kernel
theorem tyX9_ok : ∀ k, k < 13 → parseFieldDescriptor (TX9 k).2.2.1 = some (tyX9 k) := by decide +kernel
abbrev cX9_init : ByteArray := prog_1_method_1_code
def yX9_init : MethodName := ⟨RX9, "<init>", "()V"⟩
abbrev cX9_village : ByteArray := prog_1_method_2_code
def yX9_village : MethodName := ⟨RX9, "village", "(IIII)I"⟩
abbrev cX9_put : ByteArray := prog_1_method_3_code
def yX9_put : MethodName := ⟨RX9, "put", "(III)I"⟩
abbrev cX9_hole : ByteArray := prog_1_method_4_code
def yX9_hole : MethodName := ⟨RX9, "hole", "(IIIII)I"⟩
abbrev cX9_of : ByteArray := prog_1_method_5_code
def yX9_of : MethodName := ⟨RX9, "of", "(II)I"⟩
abbrev cX9_paint : ByteArray := prog_1_method_6_code
def yX9_paint : MethodName := ⟨RX9, "paint", "(III)I"⟩
abbrev cX9_told : ByteArray := prog_1_method_7_code
def yX9_told : MethodName := ⟨RX9, "told", "(II)I"⟩
abbrev cX9_price : ByteArray := prog_1_method_8_code
def yX9_price : MethodName := ⟨RX9, "price", "(II)I"⟩
abbrev cX9_terms : ByteArray := prog_1_method_9_code
def yX9_terms : MethodName := ⟨RX9, "terms", "(II)I"⟩
abbrev cX9_feed : ByteArray := prog_1_method_10_code
def yX9_feed : MethodName := ⟨RX9, "feed", "(IIIII)I"⟩
abbrev cX9_end : ByteArray := prog_1_method_11_code
def yX9_end : MethodName := ⟨RX9, "end", "(I)I"⟩
abbrev cX9_row : ByteArray := prog_1_method_12_code
def yX9_row : MethodName := ⟨RX9, "row", "()I"⟩
abbrev cX9_lint : ByteArray := prog_1_method_13_code
def yX9_lint : MethodName := ⟨RX9, "lint", "()I"⟩
abbrev cX9_law : ByteArray := prog_1_method_14_code
def yX9_law : MethodName := ⟨RX9, "law", "()I"⟩
abbrev cX9_fault : ByteArray := prog_1_method_15_code
def yX9_fault : MethodName := ⟨RX9, "fault", "()I"⟩
abbrev cX9_force : ByteArray := prog_1_method_16_code
def yX9_force : MethodName := ⟨RX9, "force", "(I)I"⟩
abbrev cX9_woven : ByteArray := prog_1_method_17_code
def yX9_woven : MethodName := ⟨RX9, "woven", "(III)I"⟩
abbrev cX9_like : ByteArray := prog_1_method_18_code
def yX9_like : MethodName := ⟨RX9, "like", "(II)I"⟩
abbrev cX9_costs : ByteArray := prog_1_method_19_code
def yX9_costs : MethodName := ⟨RX9, "costs", "(I)I"⟩
abbrev cX9_turned : ByteArray := prog_1_method_20_code
def yX9_turned : MethodName := ⟨RX9, "turned", "(I)I"⟩
abbrev cX9_lost : ByteArray := prog_1_method_21_code
def yX9_lost : MethodName := ⟨RX9, "lost", "(I)I"⟩
abbrev cX9_look : ByteArray := prog_1_method_22_code
def yX9_look : MethodName := ⟨RX9, "look", "(II)I"⟩
abbrev cX9_gift : ByteArray := prog_1_method_23_code
def yX9_gift : MethodName := ⟨RX9, "gift", "(I)I"⟩
abbrev cX9_slips : ByteArray := prog_1_method_24_code
def yX9_slips : MethodName := ⟨RX9, "slips", "(I)I"⟩
abbrev cX9_could : ByteArray := prog_1_method_25_code
def yX9_could : MethodName := ⟨RX9, "could", "(I)I"⟩
abbrev cX9_meeting : ByteArray := prog_1_method_26_code
def yX9_meeting : MethodName := ⟨RX9, "meeting", "(I)I"⟩
abbrev cX9_seams : ByteArray := prog_1_method_27_code
def yX9_seams : MethodName := ⟨RX9, "seams", "(I)I"⟩
abbrev cX9_mend : ByteArray := prog_1_method_28_code
def yX9_mend : MethodName := ⟨RX9, "mend", "(IIIIII)I"⟩
abbrev cX9_weavers : ByteArray := prog_1_method_29_code
def yX9_weavers : MethodName := ⟨RX9, "weavers", "(I)I"⟩
abbrev cX9_drawn : ByteArray := prog_1_method_30_code
def yX9_drawn : MethodName := ⟨RX9, "drawn", "(II)I"⟩
abbrev cX9_image : ByteArray := prog_1_method_31_code
def yX9_image : MethodName := ⟨RX9, "image", "(I)I"⟩
abbrev cX9_back : ByteArray := prog_1_method_32_code
def yX9_back : MethodName := ⟨RX9, "back", "(I)I"⟩
abbrev cX9_count : ByteArray := prog_1_method_33_code
def yX9_count : MethodName := ⟨RX9, "count", "(I)I"⟩
abbrev cX9_status : ByteArray := prog_1_method_34_code
def yX9_status : MethodName := ⟨RX9, "status", "()I"⟩
abbrev cX9_isVillage : ByteArray := prog_1_method_35_code
def yX9_isVillage : MethodName := ⟨RX9, "isVillage", "(I)Z"⟩
abbrev cX9_isVillageOrNone : ByteArray := prog_1_method_36_code
def yX9_isVillageOrNone : MethodName := ⟨RX9, "isVillageOrNone", "(I)Z"⟩
abbrev cX9_isCell : ByteArray := prog_1_method_37_code
def yX9_isCell : MethodName := ⟨RX9, "isCell", "(I)Z"⟩
abbrev cX9_isColour : ByteArray := prog_1_method_38_code
def yX9_isColour : MethodName := ⟨RX9, "isColour", "(I)Z"⟩
abbrev cX9_isPicture : ByteArray := prog_1_method_39_code
def yX9_isPicture : MethodName := ⟨RX9, "isPicture", "(I)Z"⟩
abbrev cX9_isKeyhole : ByteArray := prog_1_method_40_code
def yX9_isKeyhole : MethodName := ⟨RX9, "isKeyhole", "(IIII)Z"⟩
abbrev cX9_isStretch : ByteArray := prog_1_method_41_code
def yX9_isStretch : MethodName := ⟨RX9, "isStretch", "(II)Z"⟩
abbrev cX9_allow : ByteArray := prog_1_method_42_code
def yX9_allow : MethodName := ⟨RX9, "allow", "(I)I"⟩
abbrev cX9_changed : ByteArray := prog_1_method_43_code
def yX9_changed : MethodName := ⟨RX9, "changed", "(I)I"⟩
abbrev cX9_refuse : ByteArray := prog_1_method_44_code
def yX9_refuse : MethodName := ⟨RX9, "refuse", "(I)I"⟩
abbrev cX9_weaveIfStale : ByteArray := prog_1_method_45_code
def yX9_weaveIfStale : MethodName := ⟨RX9, "weaveIfStale", "()V"⟩
abbrev cX9_likeness : ByteArray := prog_1_method_46_code
def yX9_likeness : MethodName := ⟨RX9, "likeness", "([I[I)I"⟩
abbrev cX9_same : ByteArray := prog_1_method_47_code
def yX9_same : MethodName := ⟨RX9, "same", "([I[I)Z"⟩
abbrev cX9_seamsOf : ByteArray := prog_1_method_48_code
def yX9_seamsOf : MethodName := ⟨RX9, "seamsOf", "([I)I"⟩
abbrev cX9_seam : ByteArray := prog_1_method_49_code
def yX9_seam : MethodName := ⟨RX9, "seam", "(II)I"⟩
def RX10 : String := "KeyholeWeaveModel"
def TX10 : u_T := fun k => match k with
  | 0 => ("KeyholeWeaveModel", "status", "I", false)
  | 1 => ("KeyholeWeaveModel", "refused", "[I", true)
  | 2 => ("KeyholeWeaveModel", "kept", "[I", true)
  | 3 => ("KeyholeWeaveModel", "images", "[I", true)
  | 4 => ("KeyholeWeaveModel", "hasImage", "[Z", true)
  | 5 => ("KeyholeWeaveModel", "lint0", "I", false)
  | 6 => ("KeyholeWeaveModel", "words", "[B", true)
  | 7 => ("KeyholeWeaveModel", "tape", "[B", true)
  | 8 => ("KeyholeWeaveModel", "five", "[I", true)
  | 9 => ("KeyholeWeaveModel", "taped", "I", false)
  | 10 => ("KeyholeWeaveModel", "fault", "I", false)
  | 11 => ("KeyholeWeaveModel", "code", "[I", true)
  | 12 => ("KeyholeWeaveModel", "value", "[I", true)
  | 13 => ("KeyholeWeaveModel", "placed", "[I", true)
  | 14 => ("KeyholeWeaveModel", "tokens", "I", false)
  | 15 => ("KeyholeWeaveModel", "token", "I", false)
  | 16 => ("KeyholeWeaveModel", "leaves", "I", false)
  | 17 => ("KeyholeWeaveModel", "bad", "I", false)
  | 18 => ("KeyholeWeaveModel", "go", "I", false)
  | 19 => ("KeyholeWeaveModel", "goEnd", "I", false)
  | 20 => ("KeyholeWeaveModel", "broken", "Z", false)
  | 21 => ("KeyholeWeaveModel", "asked", "[I", true)
  | 22 => ("KeyholeWeaveModel", "road", "[I", true)
  | 23 => ("KeyholeWeaveModel", "other", "[I", true)
  | 24 => ("KeyholeWeaveModel", "tried", "[I", true)
  | 25 => ("KeyholeWeaveModel", "drawnRow", "[I", true)
  | 26 => ("KeyholeWeaveModel", "slipMany", "[I", true)
  | 27 => ("KeyholeWeaveModel", "looking", "I", false)
  | 28 => ("KeyholeWeaveModel", "givenTo", "I", false)
  | 29 => ("KeyholeWeaveModel", "given", "I", false)
  | 30 => ("KeyholeWeaveModel", "slipAt", "I", false)
  | 31 => ("KeyholeWeaveModel", "slipColour", "I", false)
  | 32 => ("KeyholeWeaveModel", "draws0", "Z", false)
  | 33 => ("KeyholeWeaveModel", "eaten", "[I", true)
  | 34 => ("KeyholeWeaveModel", "mended", "[I", true)
  | 35 => ("KeyholeWeaveModel", "eatenMany", "I", false)
  | 36 => ("KeyholeWeaveModel", "drawnMany", "I", false)
  | _ => ("KeyholeWeaveModel", "latest", "I", false)
def tyX10 : Nat → FieldType := fun k => match k with
  | 0 => .int
  | 1 => .array .int
  | 2 => .array .int
  | 3 => .array .int
  | 4 => .array .boolean
  | 5 => .int
  | 6 => .array .byte
  | 7 => .array .byte
  | 8 => .array .int
  | 9 => .int
  | 10 => .int
  | 11 => .array .int
  | 12 => .array .int
  | 13 => .array .int
  | 14 => .int
  | 15 => .int
  | 16 => .int
  | 17 => .int
  | 18 => .int
  | 19 => .int
  | 20 => .boolean
  | 21 => .array .int
  | 22 => .array .int
  | 23 => .array .int
  | 24 => .array .int
  | 25 => .array .int
  | 26 => .array .int
  | 27 => .int
  | 28 => .int
  | 29 => .int
  | 30 => .int
  | 31 => .int
  | 32 => .boolean
  | 33 => .array .int
  | 34 => .array .int
  | 35 => .int
  | 36 => .int
  | _ => .int
abbrev wsX100 : List Cond := u_ws RX10 TX10 38
theorem nmX10 : ∀ a, a < 38 → ∀ b, b < 38 → a ≠ b → (TX10 a).2.1 ≠ (TX10 b).2.1 := by decide +kernel
theorem tyX10_ok : ∀ k, k < 38 → parseFieldDescriptor (TX10 k).2.2.1 = some (tyX10 k) := by decide +kernel
abbrev cX10_lies : ByteArray := prog_12_method_1_code
def yX10_lies : MethodName := ⟨RX10, "lies", "(III)Z"⟩
abbrev cX10_refuses : ByteArray := prog_12_method_2_code
def yX10_refuses : MethodName := ⟨RX10, "refuses", "(I)I"⟩
abbrev cX10_good : ByteArray := prog_12_method_3_code
def yX10_good : MethodName := ⟨RX10, "good", "(I)I"⟩
abbrev cX10_ones : ByteArray := prog_12_method_4_code
def yX10_ones : MethodName := ⟨RX10, "ones", "(I)I"⟩
abbrev cX10_init : ByteArray := prog_12_method_5_code
def yX10_init : MethodName := ⟨RX10, "<init>", "()V"⟩
abbrev cX10_image : ByteArray := prog_12_method_6_code
def yX10_image : MethodName := ⟨RX10, "image", "(I)I"⟩
abbrev cX10_back : ByteArray := prog_12_method_7_code
def yX10_back : MethodName := ⟨RX10, "back", "(I)I"⟩
abbrev cX10_villages : ByteArray := prog_12_method_8_code
def yX10_villages : MethodName := ⟨RX10, "villages", "()I"⟩
abbrev cX10_isVillage : ByteArray := prog_12_method_9_code
def yX10_isVillage : MethodName := ⟨RX10, "isVillage", "(I)Z"⟩
abbrev cX10_factOf : ByteArray := prog_12_method_10_code
def yX10_factOf : MethodName := ⟨RX10, "factOf", "(II)I"⟩
abbrev cX10_isHole : ByteArray := prog_12_method_11_code
def yX10_isHole : MethodName := ⟨RX10, "isHole", "(IIII)Z"⟩
abbrev cX10_cuts : ByteArray := prog_12_method_12_code
def yX10_cuts : MethodName := ⟨RX10, "cuts", "(IIIII)V"⟩
abbrev cX10_village : ByteArray := prog_12_method_13_code
def yX10_village : MethodName := ⟨RX10, "village", "(IIII)I"⟩
abbrev cX10_put : ByteArray := prog_12_method_14_code
def yX10_put : MethodName := ⟨RX10, "put", "(III)I"⟩
abbrev cX10_hole : ByteArray := prog_12_method_15_code
def yX10_hole : MethodName := ⟨RX10, "hole", "(IIIII)I"⟩
abbrev cX10_of : ByteArray := prog_12_method_16_code
def yX10_of : MethodName := ⟨RX10, "of", "(II)I"⟩
abbrev cX10_isCell : ByteArray := prog_12_method_17_code
def yX10_isCell : MethodName := ⟨RX10, "isCell", "(I)Z"⟩
abbrev cX10_isColour : ByteArray := prog_12_method_18_code
def yX10_isColour : MethodName := ⟨RX10, "isColour", "(I)Z"⟩
abbrev cX10_paint : ByteArray := prog_12_method_19_code
def yX10_paint : MethodName := ⟨RX10, "paint", "(III)I"⟩
abbrev cX10_told : ByteArray := prog_12_method_20_code
def yX10_told : MethodName := ⟨RX10, "told", "(II)I"⟩
abbrev cX10_price : ByteArray := prog_12_method_21_code
def yX10_price : MethodName := ⟨RX10, "price", "(II)I"⟩
abbrev cX10_terms : ByteArray := prog_12_method_22_code
def yX10_terms : MethodName := ⟨RX10, "terms", "(II)I"⟩
abbrev cX10_row : ByteArray := prog_12_method_23_code
def yX10_row : MethodName := ⟨RX10, "row", "()I"⟩
abbrev cX10_lint : ByteArray := prog_12_method_24_code
def yX10_lint : MethodName := ⟨RX10, "lint", "()I"⟩
abbrev cX10_feed : ByteArray := prog_12_method_25_code
def yX10_feed : MethodName := ⟨RX10, "feed", "(IIIII)I"⟩
abbrev cX10_end : ByteArray := prog_12_method_26_code
def yX10_end : MethodName := ⟨RX10, "end", "(I)I"⟩
abbrev cX10_isSmall : ByteArray := prog_12_method_27_code
def yX10_isSmall : MethodName := ⟨RX10, "isSmall", "(I)Z"⟩
abbrev cX10_isDigit : ByteArray := prog_12_method_28_code
def yX10_isDigit : MethodName := ⟨RX10, "isDigit", "(I)Z"⟩
abbrev cX10_wordOf : ByteArray := prog_12_method_29_code
def yX10_wordOf : MethodName := ⟨RX10, "wordOf", "(II)I"⟩
abbrev cX10_splits : ByteArray := prog_12_method_30_code
def yX10_splits : MethodName := ⟨RX10, "splits", "(I)V"⟩
abbrev cX10_fine : ByteArray := prog_12_method_31_code
def yX10_fine : MethodName := ⟨RX10, "fine", "()Z"⟩
abbrev cX10_faults : ByteArray := prog_12_method_32_code
def yX10_faults : MethodName := ⟨RX10, "faults", "()V"⟩
abbrev cX10_takes0 : ByteArray := prog_12_method_33_code
def yX10_takes0 : MethodName := ⟨RX10, "takes0", "(I)Z"⟩
abbrev cX10_must : ByteArray := prog_12_method_34_code
def yX10_must : MethodName := ⟨RX10, "must", "(I)V"⟩
abbrev cX10_leaf : ByteArray := prog_12_method_35_code
def yX10_leaf : MethodName := ⟨RX10, "leaf", "()V"⟩
abbrev cX10_sign : ByteArray := prog_12_method_36_code
def yX10_sign : MethodName := ⟨RX10, "sign", "(C)I"⟩
abbrev cX10_readClause : ByteArray := prog_12_method_37_code
def yX10_readClause : MethodName := ⟨RX10, "readClause", "()V"⟩
abbrev cX10_readTest : ByteArray := prog_12_method_38_code
def yX10_readTest : MethodName := ⟨RX10, "readTest", "(I)V"⟩
abbrev cX10_readBoth : ByteArray := prog_12_method_39_code
def yX10_readBoth : MethodName := ⟨RX10, "readBoth", "(I)V"⟩
abbrev cX10_readPlain : ByteArray := prog_12_method_40_code
def yX10_readPlain : MethodName := ⟨RX10, "readPlain", "(I)V"⟩
abbrev cX10_readSum : ByteArray := prog_12_method_41_code
def yX10_readSum : MethodName := ⟨RX10, "readSum", "(I)V"⟩
abbrev cX10_readTerm : ByteArray := prog_12_method_42_code
def yX10_readTerm : MethodName := ⟨RX10, "readTerm", "(I)V"⟩
abbrev cX10_readPart : ByteArray := prog_12_method_43_code
def yX10_readPart : MethodName := ⟨RX10, "readPart", "(I)V"⟩
abbrev cX10_reads : ByteArray := prog_12_method_44_code
def yX10_reads : MethodName := ⟨RX10, "reads", "()Z"⟩
abbrev cX10_law : ByteArray := prog_12_method_45_code
def yX10_law : MethodName := ⟨RX10, "law", "()I"⟩
abbrev cX10_fault : ByteArray := prog_12_method_46_code
def yX10_fault : MethodName := ⟨RX10, "fault", "()I"⟩
abbrev cX10_force : ByteArray := prog_12_method_47_code
def yX10_force : MethodName := ⟨RX10, "force", "(I)I"⟩
abbrev cX10_codeAt : ByteArray := prog_12_method_48_code
def yX10_codeAt : MethodName := ⟨RX10, "codeAt", "(I)I"⟩
abbrev cX10_passes0 : ByteArray := prog_12_method_49_code
def yX10_passes0 : MethodName := ⟨RX10, "passes0", "(I)Z"⟩
abbrev cX10_bounded : ByteArray := prog_12_method_50_code
def yX10_bounded : MethodName := ⟨RX10, "bounded", "(JZ)J"⟩
abbrev cX10_sumOf : ByteArray := prog_12_method_51_code
def yX10_sumOf : MethodName := ⟨RX10, "sumOf", "(Z)J"⟩
abbrev cX10_termOf : ByteArray := prog_12_method_52_code
def yX10_termOf : MethodName := ⟨RX10, "termOf", "(Z)J"⟩
abbrev cX10_partOf : ByteArray := prog_12_method_53_code
def yX10_partOf : MethodName := ⟨RX10, "partOf", "(Z)J"⟩
abbrev cX10_testOf : ByteArray := prog_12_method_54_code
def yX10_testOf : MethodName := ⟨RX10, "testOf", "(Z)Z"⟩
abbrev cX10_bothOf : ByteArray := prog_12_method_55_code
def yX10_bothOf : MethodName := ⟨RX10, "bothOf", "(Z)Z"⟩
abbrev cX10_plainOf : ByteArray := prog_12_method_56_code
def yX10_plainOf : MethodName := ⟨RX10, "plainOf", "(Z)Z"⟩
abbrev cX10_positiveOf : ByteArray := prog_12_method_57_code
def yX10_positiveOf : MethodName := ⟨RX10, "positiveOf", "(Z)Z"⟩
abbrev cX10_wishOf : ByteArray := prog_12_method_58_code
def yX10_wishOf : MethodName := ⟨RX10, "wishOf", "(J)J"⟩
abbrev cX10_nearest : ByteArray := prog_12_method_59_code
def yX10_nearest : MethodName := ⟨RX10, "nearest", "(IJ)I"⟩
abbrev cX10_plain : ByteArray := prog_12_method_60_code
def yX10_plain : MethodName := ⟨RX10, "plain", "()V"⟩
abbrev cX10_isSeen : ByteArray := prog_12_method_61_code
def yX10_isSeen : MethodName := ⟨RX10, "isSeen", "(II)Z"⟩
abbrev cX10_weaves : ByteArray := prog_12_method_62_code
def yX10_weaves : MethodName := ⟨RX10, "weaves", "(I[III)V"⟩
abbrev cX10_goes : ByteArray := prog_12_method_63_code
def yX10_goes : MethodName := ⟨RX10, "goes", "([II)V"⟩
abbrev cX10_looks : ByteArray := prog_12_method_64_code
def yX10_looks : MethodName := ⟨RX10, "looks", "()V"⟩
abbrev cX10_looksBack : ByteArray := prog_12_method_65_code
def yX10_looksBack : MethodName := ⟨RX10, "looksBack", "()V"⟩
abbrev cX10_endOf : ByteArray := prog_12_method_66_code
def yX10_endOf : MethodName := ⟨RX10, "endOf", "()I"⟩
abbrev cX10_likeness : ByteArray := prog_12_method_67_code
def yX10_likeness : MethodName := ⟨RX10, "likeness", "([II[II)I"⟩
abbrev cX10_isWay : ByteArray := prog_12_method_68_code
def yX10_isWay : MethodName := ⟨RX10, "isWay", "(II)Z"⟩
abbrev cX10_woven : ByteArray := prog_12_method_69_code
def yX10_woven : MethodName := ⟨RX10, "woven", "(III)I"⟩
abbrev cX10_isOrFirst : ByteArray := prog_12_method_70_code
def yX10_isOrFirst : MethodName := ⟨RX10, "isOrFirst", "(I)Z"⟩
abbrev cX10_like : ByteArray := prog_12_method_71_code
def yX10_like : MethodName := ⟨RX10, "like", "(II)I"⟩
abbrev cX10_costs : ByteArray := prog_12_method_72_code
def yX10_costs : MethodName := ⟨RX10, "costs", "(I)I"⟩
abbrev cX10_turned : ByteArray := prog_12_method_73_code
def yX10_turned : MethodName := ⟨RX10, "turned", "(I)I"⟩
abbrev cX10_tries : ByteArray := prog_12_method_74_code
def yX10_tries : MethodName := ⟨RX10, "tries", "(II)V"⟩
abbrev cX10_lost : ByteArray := prog_12_method_75_code
def yX10_lost : MethodName := ⟨RX10, "lost", "(I)I"⟩
abbrev cX10_could : ByteArray := prog_12_method_76_code
def yX10_could : MethodName := ⟨RX10, "could", "(I)I"⟩
abbrev cX10_look : ByteArray := prog_12_method_77_code
def yX10_look : MethodName := ⟨RX10, "look", "(II)I"⟩
abbrev cX10_gift : ByteArray := prog_12_method_78_code
def yX10_gift : MethodName := ⟨RX10, "gift", "(I)I"⟩
abbrev cX10_slips : ByteArray := prog_12_method_79_code
def yX10_slips : MethodName := ⟨RX10, "slips", "(I)I"⟩
abbrev cX10_meeting : ByteArray := prog_12_method_80_code
def yX10_meeting : MethodName := ⟨RX10, "meeting", "(I)I"⟩
abbrev cX10_seamsOf : ByteArray := prog_12_method_81_code
def yX10_seamsOf : MethodName := ⟨RX10, "seamsOf", "([II)I"⟩
abbrev cX10_seams : ByteArray := prog_12_method_82_code
def yX10_seams : MethodName := ⟨RX10, "seams", "(I)I"⟩
abbrev cX10_eats : ByteArray := prog_12_method_83_code
def yX10_eats : MethodName := ⟨RX10, "eats", "(I)Z"⟩
abbrev cX10_mend : ByteArray := prog_12_method_84_code
def yX10_mend : MethodName := ⟨RX10, "mend", "(IIIIII)I"⟩
abbrev cX10_draws : ByteArray := prog_12_method_85_code
def yX10_draws : MethodName := ⟨RX10, "draws", "(I)I"⟩
abbrev cX10_weavers : ByteArray := prog_12_method_86_code
def yX10_weavers : MethodName := ⟨RX10, "weavers", "(I)I"⟩
abbrev cX10_drawn : ByteArray := prog_12_method_87_code
def yX10_drawn : MethodName := ⟨RX10, "drawn", "(II)I"⟩
abbrev cX10_count : ByteArray := prog_12_method_88_code
def yX10_count : MethodName := ⟨RX10, "count", "(I)I"⟩
abbrev cX10_status : ByteArray := prog_12_method_89_code
def yX10_status : MethodName := ⟨RX10, "status", "()I"⟩
def RJx145de : String := "java/io/Serializable"
def TJx145de : u_T := fun k => match k with
  | _ => ("", "", "", false)
def tyJx145de : Nat → FieldType := fun k => match k with
  | _ => .int
abbrev wsJx145de0 : List Cond := u_ws RJx145de TJx145de 0
theorem nmJx145de : ∀ a, a < 0 → ∀ b, b < 0 → a ≠ b → (TJx145de a).2.1 ≠ (TJx145de b).2.1 := by decide +kernel
theorem tyJx145de_ok : ∀ k, k < 0 → parseFieldDescriptor (TJx145de k).2.2.1 = some (tyJx145de k) := by decide +kernel
def RJx9f9b0 : String := "java/lang/CharSequence"
def TJx9f9b0 : u_T := fun k => match k with
  | _ => ("", "", "", false)
def tyJx9f9b0 : Nat → FieldType := fun k => match k with
  | _ => .int
abbrev wsJx9f9b00 : List Cond := u_ws RJx9f9b0 TJx9f9b0 0
theorem nmJx9f9b0 : ∀ a, a < 0 → ∀ b, b < 0 → a ≠ b → (TJx9f9b0 a).2.1 ≠ (TJx9f9b0 b).2.1 := by decide +kernel
theorem tyJx9f9b0_ok : ∀ k, k < 0 → parseFieldDescriptor (TJx9f9b0 k).2.2.1 = some (tyJx9f9b0 k) := by decide +kernel
def RJx8e188 : String := "java/lang/Cloneable"
def TJx8e188 : u_T := fun k => match k with
  | _ => ("", "", "", false)
def tyJx8e188 : Nat → FieldType := fun k => match k with
  | _ => .int
abbrev wsJx8e1880 : List Cond := u_ws RJx8e188 TJx8e188 0
theorem nmJx8e188 : ∀ a, a < 0 → ∀ b, b < 0 → a ≠ b → (TJx8e188 a).2.1 ≠ (TJx8e188 b).2.1 := by decide +kernel
theorem tyJx8e188_ok : ∀ k, k < 0 → parseFieldDescriptor (TJx8e188 k).2.2.1 = some (tyJx8e188 k) := by decide +kernel
def RJxb160c : String := "java/lang/Comparable"
def TJxb160c : u_T := fun k => match k with
  | _ => ("", "", "", false)
def tyJxb160c : Nat → FieldType := fun k => match k with
  | _ => .int
abbrev wsJxb160c0 : List Cond := u_ws RJxb160c TJxb160c 0
theorem nmJxb160c : ∀ a, a < 0 → ∀ b, b < 0 → a ≠ b → (TJxb160c a).2.1 ≠ (TJxb160c b).2.1 := by decide +kernel
theorem tyJxb160c_ok : ∀ k, k < 0 → parseFieldDescriptor (TJxb160c k).2.2.1 = some (tyJxb160c k) := by decide +kernel
def RJ6 : String := "java/lang/Integer"
def TJ6 : u_T := fun k => match k with
  | _ => ("", "", "", false)
def tyJ6 : Nat → FieldType := fun k => match k with
  | _ => .int
abbrev wsJ60 : List Cond := u_ws RJ6 TJ6 0
theorem nmJ6 : ∀ a, a < 0 → ∀ b, b < 0 → a ≠ b → (TJ6 a).2.1 ≠ (TJ6 b).2.1 := by decide +kernel
theorem tyJ6_ok : ∀ k, k < 0 → parseFieldDescriptor (TJ6 k).2.2.1 = some (tyJ6 k) := by decide +kernel
abbrev cJ6_bitCount_0f7a4 : ByteArray := prog_14_method_49_code
def yJ6_bitCount_0f7a4 : MethodName := ⟨RJ6, "bitCount", "(I)I"⟩
def RJ9 : String := "java/lang/Math"
def TJ9 : u_T := fun k => match k with
  | _ => ("", "", "", false)
def tyJ9 : Nat → FieldType := fun k => match k with
  | _ => .int
abbrev wsJ90 : List Cond := u_ws RJ9 TJ9 0
theorem nmJ9 : ∀ a, a < 0 → ∀ b, b < 0 → a ≠ b → (TJ9 a).2.1 ≠ (TJ9 b).2.1 := by decide +kernel
theorem tyJ9_ok : ∀ k, k < 0 → parseFieldDescriptor (TJ9 k).2.2.1 = some (tyJ9 k) := by decide +kernel
abbrev cJ9_max_7cf53 : ByteArray := prog_15_method_65_code
def yJ9_max_7cf53 : MethodName := ⟨RJ9, "max", "(II)I"⟩
abbrev cJ9_max_f86c9 : ByteArray := prog_15_method_66_code
def yJ9_max_f86c9 : MethodName := ⟨RJ9, "max", "(JJ)J"⟩
abbrev cJ9_min_7cf53 : ByteArray := prog_15_method_69_code
def yJ9_min_7cf53 : MethodName := ⟨RJ9, "min", "(II)I"⟩
abbrev cJ9_min_f86c9 : ByteArray := prog_15_method_70_code
def yJ9_min_f86c9 : MethodName := ⟨RJ9, "min", "(JJ)J"⟩
def RJ0 : String := "java/lang/String"
def TJ0 : u_T := fun k => match k with
  | _ => ("", "", "", false)
def tyJ0 : Nat → FieldType := fun k => match k with
  | _ => .int
abbrev wsJ00 : List Cond := u_ws RJ0 TJ0 0
theorem nmJ0 : ∀ a, a < 0 → ∀ b, b < 0 → a ≠ b → (TJ0 a).2.1 ≠ (TJ0 b).2.1 := by decide +kernel
theorem tyJ0_ok : ∀ k, k < 0 → parseFieldDescriptor (TJ0 k).2.2.1 = some (tyJ0 k) := by decide +kernel
abbrev cJ0_length_8abf5 : ByteArray := prog_16_method_54_code
def yJ0_length_8abf5 : MethodName := ⟨RJ0, "length", "()I"⟩
abbrev cJ0_charAt_5068e : ByteArray := prog_16_method_56_code
def yJ0_charAt_5068e : MethodName := ⟨RJ0, "charAt", "(I)C"⟩
abbrev cJ0_coder_7d493 : ByteArray := prog_16_method_152_code
def yJ0_coder_7d493 : MethodName := ⟨RJ0, "coder", "()B"⟩
abbrev cJ0_isLatin1_aae02 : ByteArray := prog_16_method_154_code
def yJ0_isLatin1_aae02 : MethodName := ⟨RJ0, "isLatin1", "()Z"⟩
abbrev cJ0_checkIndex_df160 : ByteArray := prog_16_method_155_code
def yJ0_checkIndex_df160 : MethodName := ⟨RJ0, "checkIndex", "(II)V"⟩
def RJ1 : String := "java/lang/StringLatin1"
def TJ1 : u_T := fun k => match k with
  | _ => ("", "", "", false)
def tyJ1 : Nat → FieldType := fun k => match k with
  | _ => .int
abbrev wsJ10 : List Cond := u_ws RJ1 TJ1 0
theorem nmJ1 : ∀ a, a < 0 → ∀ b, b < 0 → a ≠ b → (TJ1 a).2.1 ≠ (TJ1 b).2.1 := by decide +kernel
theorem tyJ1_ok : ∀ k, k < 0 → parseFieldDescriptor (TJ1 k).2.2.1 = some (tyJ1 k) := by decide +kernel
abbrev cJ1_charAt_3b067 : ByteArray := prog_17_method_2_code
def yJ1_charAt_3b067 : MethodName := ⟨RJ1, "charAt", "([BI)C"⟩
def RJ2 : String := "java/lang/StringUTF16"
def TJ2 : u_T := fun k => match k with
  | _ => ("", "", "", false)
def tyJ2 : Nat → FieldType := fun k => match k with
  | _ => .int
abbrev wsJ20 : List Cond := u_ws RJ2 TJ2 0
theorem nmJ2 : ∀ a, a < 0 → ∀ b, b < 0 → a ≠ b → (TJ2 a).2.1 ≠ (TJ2 b).2.1 := by decide +kernel
theorem tyJ2_ok : ∀ k, k < 0 → parseFieldDescriptor (TJ2 k).2.2.1 = some (tyJ2 k) := by decide +kernel
abbrev cJ2_getChar_3b067 : ByteArray := prog_18_method_5_code
def yJ2_getChar_3b067 : MethodName := ⟨RJ2, "getChar", "([BI)C"⟩
abbrev cJ2_length_9d52b : ByteArray := prog_18_method_6_code
def yJ2_length_9d52b : MethodName := ⟨RJ2, "length", "([B)I"⟩
abbrev cJ2_charAt_3b067 : ByteArray := prog_18_method_83_code
def yJ2_charAt_3b067 : MethodName := ⟨RJ2, "charAt", "([BI)C"⟩
abbrev cJ2_checkIndex_2214a : ByteArray := prog_18_method_91_code
def yJ2_checkIndex_2214a : MethodName := ⟨RJ2, "checkIndex", "(I[B)V"⟩
def RJ10 : String := "java/lang/System"
def TJ10 : u_T := fun k => match k with
  | _ => ("", "", "", false)
def tyJ10 : Nat → FieldType := fun k => match k with
  | _ => .int
abbrev wsJ100 : List Cond := u_ws RJ10 TJ10 0
theorem nmJ10 : ∀ a, a < 0 → ∀ b, b < 0 → a ≠ b → (TJ10 a).2.1 ≠ (TJ10 b).2.1 := by decide +kernel
theorem tyJ10_ok : ∀ k, k < 0 → parseFieldDescriptor (TJ10 k).2.2.1 = some (tyJ10 k) := by decide +kernel
def RJxfd54e : String := "java/lang/constant/Constable"
def TJxfd54e : u_T := fun k => match k with
  | _ => ("", "", "", false)
def tyJxfd54e : Nat → FieldType := fun k => match k with
  | _ => .int
abbrev wsJxfd54e0 : List Cond := u_ws RJxfd54e TJxfd54e 0
theorem nmJxfd54e : ∀ a, a < 0 → ∀ b, b < 0 → a ≠ b → (TJxfd54e a).2.1 ≠ (TJxfd54e b).2.1 := by decide +kernel
theorem tyJxfd54e_ok : ∀ k, k < 0 → parseFieldDescriptor (TJxfd54e k).2.2.1 = some (tyJxfd54e k) := by decide +kernel
def RJx3cf43 : String := "java/lang/constant/ConstantDesc"
def TJx3cf43 : u_T := fun k => match k with
  | _ => ("", "", "", false)
def tyJx3cf43 : Nat → FieldType := fun k => match k with
  | _ => .int
abbrev wsJx3cf430 : List Cond := u_ws RJx3cf43 TJx3cf43 0
theorem nmJx3cf43 : ∀ a, a < 0 → ∀ b, b < 0 → a ≠ b → (TJx3cf43 a).2.1 ≠ (TJx3cf43 b).2.1 := by decide +kernel
theorem tyJx3cf43_ok : ∀ k, k < 0 → parseFieldDescriptor (TJx3cf43 k).2.2.1 = some (tyJx3cf43 k) := by decide +kernel
def RJ7 : String := "java/util/Arrays"
def TJ7 : u_T := fun k => match k with
  | _ => ("", "", "", false)
def tyJ7 : Nat → FieldType := fun k => match k with
  | _ => .int
abbrev wsJ70 : List Cond := u_ws RJ7 TJ7 0
theorem nmJ7 : ∀ a, a < 0 → ∀ b, b < 0 → a ≠ b → (TJ7 a).2.1 ≠ (TJ7 b).2.1 := by decide +kernel
theorem tyJ7_ok : ∀ k, k < 0 → parseFieldDescriptor (TJ7 k).2.2.1 = some (tyJ7 k) := by decide +kernel
abbrev cJ7_fill_53178 : ByteArray := prog_20_method_103_code
def yJ7_fill_53178 : MethodName := ⟨RJ7, "fill", "([II)V"⟩
abbrev cJ7_copyOf_59c91 : ByteArray := prog_20_method_123_code
def yJ7_copyOf_59c91 : MethodName := ⟨RJ7, "copyOf", "([II)[I"⟩
def RJ3 : String := "jdk/internal/util/Preconditions"
def TJ3 : u_T := fun k => match k with
  | _ => ("", "", "", false)
def tyJ3 : Nat → FieldType := fun k => match k with
  | _ => .int
abbrev wsJ30 : List Cond := u_ws RJ3 TJ3 0
theorem nmJ3 : ∀ a, a < 0 → ∀ b, b < 0 → a ≠ b → (TJ3 a).2.1 ≠ (TJ3 b).2.1 := by decide +kernel
theorem tyJ3_ok : ∀ k, k < 0 → parseFieldDescriptor (TJ3 k).2.2.1 = some (tyJ3 k) := by decide +kernel
abbrev cJ3_checkIndex_8e157 : ByteArray := prog_21_method_11_code
def yJ3_checkIndex_8e157 : MethodName := ⟨RJ3, "checkIndex", "(IILjava/util/function/BiFunction;)I"⟩
def RL : String := "KeyholeWeaveLaw"
abbrev cL_law : ByteArray := code
def yL_law : MethodName := ⟨RL, "law", "([I)Z"⟩
