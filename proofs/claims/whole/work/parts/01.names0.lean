theorem goodIn_r {big : List Cond} (ws : List Cond) (ps : List Nat) (hp : ws = ps.filterMap (fun i => big[i]?)) (h : ws.all goodWord = true) : GoodIn big ws := by
  intro w hw
  have h1 := List.all_eq_true.mp h w hw
  rw [hp] at hw
  obtain ⟨i, -, hi⟩ := List.mem_filterMap.mp hw
  have hm : w ∈ big := by first | exact List.mem_of_getElem? hi | exact List.getElem?_mem hi
  exact ⟨hm, good_of_word h1⟩
theorem goodIn_app {big a b : List Cond} (ha : GoodIn big a) (hb : GoodIn big b) : GoodIn big (a ++ b) := fun w h => (List.mem_append.mp h).elim (ha w) (hb w)
theorem goodIn_ca {big a b : List Cond} {c : Cond} (ha : GoodIn big (c :: a)) (hb : GoodIn big b) : GoodIn big (c :: (a ++ b)) := fun w h => (List.mem_cons.mp h).elim (fun e => ha w (List.mem_cons.mpr (Or.inl e))) (fun h => (List.mem_append.mp h).elim (fun h => ha w (List.mem_cons.mpr (Or.inr h))) (hb w))
theorem goodIn_sub {big ws : List Cond} (hm : ∀ w ∈ ws, w ∈ big) (h : ws.all goodWord = true) : GoodIn big ws := fun w hw => ⟨hm w hw, good_of_word (List.all_eq_true.mp h w hw)⟩

def RX0 : String := "LacePillow$Ground"
def TX0 : u_T := fun k => match k with
  | 0 => ("LacePillow$Ground", "size", "I", false)
  | 1 => ("LacePillow$Ground", "deep", "I", false)
  | 2 => ("LacePillow$Ground", "rows", "[I", true)
  | 3 => ("LacePillow$Ground", "gaps", "[I", true)
  | 4 => ("LacePillow$Ground", "kinds", "[I", true)
  | 5 => ("LacePillow$Ground", "levels", "[I", true)
  | 6 => ("LacePillow$Ground", "before", "[J", true)
  | _ => ("LacePillow$Ground", "wides", "[I", true)
def tyX0 : Nat → FieldType := fun k => match k with
  | 0 => .int
  | 1 => .int
  | 2 => .array .int
  | 3 => .array .int
  | 4 => .array .int
  | 5 => .array .int
  | 6 => .array .long
  | _ => .array .int
abbrev wsX00 : List Cond := u_ws RX0 TX0 8
theorem nmX0 : ∀ a, a < 8 → ∀ b, b < 8 → a ≠ b → (TX0 a).2.1 ≠ (TX0 b).2.1 := by decide +kernel
theorem tyX0_ok : ∀ k, k < 8 → parseFieldDescriptor (TX0 k).2.2.1 = some (tyX0 k) := by decide +kernel
abbrev cX0_init : ByteArray := prog_2_method_1_code
def yX0_init : MethodName := ⟨RX0, "<init>", "()V"⟩
abbrev cX0_gather : ByteArray := prog_2_method_2_code
def yX0_gather : MethodName := ⟨RX0, "gather", "(LLacePillow$Plan;)V"⟩
abbrev cX0_enter : ByteArray := prog_2_method_3_code
def yX0_enter : MethodName := ⟨RX0, "enter", "(III)V"⟩
abbrev cX0_leads : ByteArray := prog_2_method_4_code
def yX0_leads : MethodName := ⟨RX0, "leads", "(II)Z"⟩
abbrev cX0_isFree : ByteArray := prog_2_method_5_code
def yX0_isFree : MethodName := ⟨RX0, "isFree", "(IJ)Z"⟩
abbrev cX0_countFree : ByteArray := prog_2_method_6_code
def yX0_countFree : MethodName := ⟨RX0, "countFree", "(J)I"⟩
abbrev cX0_leastFree : ByteArray := prog_2_method_7_code
def yX0_leastFree : MethodName := ⟨RX0, "leastFree", "(J)I"⟩
abbrev cX0_countBehind : ByteArray := prog_2_method_8_code
def yX0_countBehind : MethodName := ⟨RX0, "countBehind", "(I)I"⟩
abbrev cX0_longestChain : ByteArray := prog_2_method_9_code
def yX0_longestChain : MethodName := ⟨RX0, "longestChain", "()I"⟩
abbrev cX0_widest : ByteArray := prog_2_method_10_code
def yX0_widest : MethodName := ⟨RX0, "widest", "()I"⟩
abbrev cX0_widestLeftOf : ByteArray := prog_2_method_11_code
def yX0_widestLeftOf : MethodName := ⟨RX0, "widestLeftOf", "(I)I"⟩
def RX1 : String := "LacePillow$Heap"
def TX1 : u_T := fun k => match k with
  | 0 => ("LacePillow$Heap", "size", "I", false)
  | 1 => ("LacePillow$Heap", "signs", "[I", true)
  | _ => ("LacePillow$Heap", "tops", "[I", true)
def tyX1 : Nat → FieldType := fun k => match k with
  | 0 => .int
  | 1 => .array .int
  | _ => .array .int
abbrev wsX10 : List Cond := u_ws RX1 TX1 3
theorem nmX1 : ∀ a, a < 3 → ∀ b, b < 3 → a ≠ b → (TX1 a).2.1 ≠ (TX1 b).2.1 := by decide +kernel
theorem tyX1_ok : ∀ k, k < 3 → parseFieldDescriptor (TX1 k).2.2.1 = some (tyX1 k) := by decide +kernel
abbrev cX1_init : ByteArray := prog_3_method_1_code
def yX1_init : MethodName := ⟨RX1, "<init>", "()V"⟩
abbrev cX1_clear : ByteArray := prog_3_method_2_code
def yX1_clear : MethodName := ⟨RX1, "clear", "()V"⟩
abbrev cX1_copyFrom : ByteArray := prog_3_method_3_code
def yX1_copyFrom : MethodName := ⟨RX1, "copyFrom", "(LLacePillow$Heap;)V"⟩
abbrev cX1_add : ByteArray := prog_3_method_4_code
def yX1_add : MethodName := ⟨RX1, "add", "(II)V"⟩
abbrev cX1_takeTop : ByteArray := prog_3_method_5_code
def yX1_takeTop : MethodName := ⟨RX1, "takeTop", "(II)V"⟩
abbrev cX1_signAt : ByteArray := prog_3_method_6_code
def yX1_signAt : MethodName := ⟨RX1, "signAt", "(II)I"⟩
abbrev cX1_countLayers : ByteArray := prog_3_method_7_code
def yX1_countLayers : MethodName := ⟨RX1, "countLayers", "()I"⟩
abbrev cX1_countSign : ByteArray := prog_3_method_8_code
def yX1_countSign : MethodName := ⟨RX1, "countSign", "(I)I"⟩
abbrev cX1_isAs : ByteArray := prog_3_method_9_code
def yX1_isAs : MethodName := ⟨RX1, "isAs", "(LLacePillow$Heap;)Z"⟩
def RX2 : String := "LacePillow$Plan"
def TX2 : u_T := fun k => match k with
  | 0 => ("LacePillow$Plan", "pairs", "I", false)
  | 1 => ("LacePillow$Plan", "cells", "[I", true)
  | 2 => ("LacePillow$Plan", "letters", "[I", true)
  | 3 => ("LacePillow$Plan", "lengths", "[I", true)
  | 4 => ("LacePillow$Plan", "wound", "[I", true)
  | 5 => ("LacePillow$Plan", "work", "[I", true)
  | _ => ("LacePillow$Plan", "worked", "I", false)
def tyX2 : Nat → FieldType := fun k => match k with
  | 0 => .int
  | 1 => .array .int
  | 2 => .array .int
  | 3 => .array .int
  | 4 => .array .int
  | 5 => .array .int
  | _ => .int
abbrev wsX20 : List Cond := u_ws RX2 TX2 7
theorem nmX2 : ∀ a, a < 7 → ∀ b, b < 7 → a ≠ b → (TX2 a).2.1 ≠ (TX2 b).2.1 := by decide +kernel
theorem tyX2_ok : ∀ k, k < 7 → parseFieldDescriptor (TX2 k).2.2.1 = some (tyX2 k) := by decide +kernel
abbrev cX2_init : ByteArray := prog_4_method_1_code
def yX2_init : MethodName := ⟨RX2, "<init>", "()V"⟩
abbrev cX2_firstWord : ByteArray := prog_4_method_2_code
def yX2_firstWord : MethodName := ⟨RX2, "firstWord", "(I)Ljava/lang/String;"⟩
abbrev cX2_copyFrom : ByteArray := prog_4_method_3_code
def yX2_copyFrom : MethodName := ⟨RX2, "copyFrom", "(LLacePillow$Plan;)V"⟩
abbrev cX2_crossingsOf : ByteArray := prog_4_method_4_code
def yX2_crossingsOf : MethodName := ⟨RX2, "crossingsOf", "(I)I"⟩
abbrev cX2_repeatsBy : ByteArray := prog_4_method_5_code
def yX2_repeatsBy : MethodName := ⟨RX2, "repeatsBy", "(II)Z"⟩
abbrev cX2_fits : ByteArray := prog_4_method_6_code
def yX2_fits : MethodName := ⟨RX2, "fits", "(LLacePillow$Sheet;III)Z"⟩
abbrev cX2_fitsCell : ByteArray := prog_4_method_7_code
def yX2_fitsCell : MethodName := ⟨RX2, "fitsCell", "(JI)Z"⟩
def RX3 : String := "LacePillow$Sheet"
def TX3 : u_T := fun k => match k with
  | 0 => ("LacePillow$Sheet", "sort", "I", false)
  | 1 => ("LacePillow$Sheet", "size", "I", false)
  | _ => ("LacePillow$Sheet", "numbers", "[J", true)
def tyX3 : Nat → FieldType := fun k => match k with
  | 0 => .int
  | 1 => .int
  | _ => .array .long
abbrev wsX30 : List Cond := u_ws RX3 TX3 3
theorem nmX3 : ∀ a, a < 3 → ∀ b, b < 3 → a ≠ b → (TX3 a).2.1 ≠ (TX3 b).2.1 := by decide +kernel
theorem tyX3_ok : ∀ k, k < 3 → parseFieldDescriptor (TX3 k).2.2.1 = some (tyX3 k) := by decide +kernel
abbrev cX3_init : ByteArray := prog_5_method_1_code
def yX3_init : MethodName := ⟨RX3, "<init>", "()V"⟩
abbrev cX3_begin : ByteArray := prog_5_method_2_code
def yX3_begin : MethodName := ⟨RX3, "begin", "(II)V"⟩
abbrev cX3_has : ByteArray := prog_5_method_3_code
def yX3_has : MethodName := ⟨RX3, "has", "(I)Z"⟩
abbrev cX3_cut : ByteArray := prog_5_method_4_code
def yX3_cut : MethodName := ⟨RX3, "cut", "(J)J"⟩
def RX4 : String := "LacePillow$Tape"
def TX4 : u_T := fun k => match k with
  | 0 => ("LacePillow$Tape", "bytes", "[I", true)
  | _ => ("LacePillow$Tape", "size", "I", false)
def tyX4 : Nat → FieldType := fun k => match k with
  | 0 => .array .int
  | _ => .int
abbrev wsX40 : List Cond := u_ws RX4 TX4 2
theorem nmX4 : ∀ a, a < 2 → ∀ b, b < 2 → a ≠ b → (TX4 a).2.1 ≠ (TX4 b).2.1 := by decide +kernel
theorem tyX4_ok : ∀ k, k < 2 → parseFieldDescriptor (TX4 k).2.2.1 = some (tyX4 k) := by decide +kernel
abbrev cX4_init : ByteArray := prog_6_method_1_code
def yX4_init : MethodName := ⟨RX4, "<init>", "()V"⟩
abbrev cX4_prickingFault : ByteArray := prog_6_method_2_code
def yX4_prickingFault : MethodName := ⟨RX4, "prickingFault", "(I)I"⟩
abbrev cX4_wordFault : ByteArray := prog_6_method_3_code
def yX4_wordFault : MethodName := ⟨RX4, "wordFault", "()I"⟩
abbrev cX4_prickInto : ByteArray := prog_6_method_4_code
def yX4_prickInto : MethodName := ⟨RX4, "prickInto", "(LLacePillow$Plan;)V"⟩
abbrev cX4_spellInto : ByteArray := prog_6_method_5_code
def yX4_spellInto : MethodName := ⟨RX4, "spellInto", "(LLacePillow$Plan;I)V"⟩
def RX5 : String := "LacePillow$Ways"
def TX5 : u_T := fun k => match k with
  | 0 => ("LacePillow$Ways", "known", "Z", false)
  | 1 => ("LacePillow$Ways", "counts", "[J", true)
  | 2 => ("LacePillow$Ways", "lengths", "[I", true)
  | 3 => ("LacePillow$Ways", "strides", "[I", true)
  | 4 => ("LacePillow$Ways", "stitches", "[I", true)
  | _ => ("LacePillow$Ways", "bits", "[J", true)
def tyX5 : Nat → FieldType := fun k => match k with
  | 0 => .boolean
  | 1 => .array .long
  | 2 => .array .int
  | 3 => .array .int
  | 4 => .array .int
  | _ => .array .long
abbrev wsX50 : List Cond := u_ws RX5 TX5 6
theorem nmX5 : ∀ a, a < 6 → ∀ b, b < 6 → a ≠ b → (TX5 a).2.1 ≠ (TX5 b).2.1 := by decide +kernel
theorem tyX5_ok : ∀ k, k < 6 → parseFieldDescriptor (TX5 k).2.2.1 = some (tyX5 k) := by decide +kernel
abbrev cX5_init : ByteArray := prog_7_method_1_code
def yX5_init : MethodName := ⟨RX5, "<init>", "()V"⟩
abbrev cX5_reckon : ByteArray := prog_7_method_2_code
def yX5_reckon : MethodName := ⟨RX5, "reckon", "(LLacePillow$Ground;)V"⟩
abbrev cX5_sortIntoLines : ByteArray := prog_7_method_3_code
def yX5_sortIntoLines : MethodName := ⟨RX5, "sortIntoLines", "(LLacePillow$Ground;)V"⟩
abbrev cX5_reckonState : ByteArray := prog_7_method_4_code
def yX5_reckonState : MethodName := ⟨RX5, "reckonState", "(LLacePillow$Ground;IIII)V"⟩
abbrev cX5_bitsOf : ByteArray := prog_7_method_5_code
def yX5_bitsOf : MethodName := ⟨RX5, "bitsOf", "(II)J"⟩
abbrev cX5_onward : ByteArray := prog_7_method_6_code
def yX5_onward : MethodName := ⟨RX5, "onward", "(LLacePillow$Ground;IIJI)J"⟩
abbrev cX5_countOf : ByteArray := prog_7_method_7_code
def yX5_countOf : MethodName := ⟨RX5, "countOf", "(I)J"⟩
abbrev cX5_strideOf : ByteArray := prog_7_method_8_code
def yX5_strideOf : MethodName := ⟨RX5, "strideOf", "(LLacePillow$Ground;I)I"⟩
abbrev cX5_stitchOf : ByteArray := prog_7_method_9_code
def yX5_stitchOf : MethodName := ⟨RX5, "stitchOf", "(LLacePillow$Ground;JI)I"⟩
abbrev cX5_numberOf : ByteArray := prog_7_method_10_code
def yX5_numberOf : MethodName := ⟨RX5, "numberOf", "(LLacePillow$Ground;LLacePillow$Sheet;)J"⟩
def RX6 : String := "LacePillow$Weave"
def TX6 : u_T := fun k => match k with
  | 0 => ("LacePillow$Weave", "threads", "[I", true)
  | 1 => ("LacePillow$Weave", "places", "[I", true)
  | 2 => ("LacePillow$Weave", "used", "[I", true)
  | 3 => ("LacePillow$Weave", "overs", "[I", true)
  | 4 => ("LacePillow$Weave", "unders", "[I", true)
  | 5 => ("LacePillow$Weave", "falses", "[I", true)
  | 6 => ("LacePillow$Weave", "sides", "[I", true)
  | 7 => ("LacePillow$Weave", "passes", "[I", true)
  | 8 => ("LacePillow$Weave", "heap", "LLacePillow$Heap;", true)
  | _ => ("LacePillow$Weave", "crossings", "I", false)
def tyX6 : Nat → FieldType := fun k => match k with
  | 0 => .array .int
  | 1 => .array .int
  | 2 => .array .int
  | 3 => .array .int
  | 4 => .array .int
  | 5 => .array .int
  | 6 => .array .int
  | 7 => .array .int
  | 8 => .object "LacePillow$Heap"
  | _ => .int
abbrev wsX60 : List Cond := u_ws RX6 TX6 10
theorem nmX6 : ∀ a, a < 10 → ∀ b, b < 10 → a ≠ b → (TX6 a).2.1 ≠ (TX6 b).2.1 := by decide +kernel
theorem tyX6_ok : ∀ k, k < 10 → parseFieldDescriptor (TX6 k).2.2.1 = some (tyX6 k) := by decide +kernel
abbrev cX6_init : ByteArray := prog_8_method_1_code
def yX6_init : MethodName := ⟨RX6, "<init>", "()V"⟩
abbrev cX6_sendHome : ByteArray := prog_8_method_2_code
def yX6_sendHome : MethodName := ⟨RX6, "sendHome", "()V"⟩
abbrev cX6_clear : ByteArray := prog_8_method_3_code
def yX6_clear : MethodName := ⟨RX6, "clear", "()V"⟩
abbrev cX6_make : ByteArray := prog_8_method_4_code
def yX6_make : MethodName := ⟨RX6, "make", "(LLacePillow$Plan;II)V"⟩
abbrev cX6_cross : ByteArray := prog_8_method_5_code
def yX6_cross : MethodName := ⟨RX6, "cross", "(II)V"⟩
abbrev cX6_pass : ByteArray := prog_8_method_6_code
def yX6_pass : MethodName := ⟨RX6, "pass", "(II)V"⟩
abbrev cX6_noteSide : ByteArray := prog_8_method_7_code
def yX6_noteSide : MethodName := ⟨RX6, "noteSide", "(II)V"⟩
abbrev cX6_haveCrossed : ByteArray := prog_8_method_8_code
def yX6_haveCrossed : MethodName := ⟨RX6, "haveCrossed", "(II)Z"⟩
abbrev cX6_leastLacking : ByteArray := prog_8_method_9_code
def yX6_leastLacking : MethodName := ⟨RX6, "leastLacking", "([I)I"⟩
abbrev cX6_countAtHome : ByteArray := prog_8_method_10_code
def yX6_countAtHome : MethodName := ⟨RX6, "countAtHome", "(I)I"⟩
abbrev cX6_turnsOf : ByteArray := prog_8_method_11_code
def yX6_turnsOf : MethodName := ⟨RX6, "turnsOf", "(I)I"⟩
abbrev cX6_commonTurns : ByteArray := prog_8_method_12_code
def yX6_commonTurns : MethodName := ⟨RX6, "commonTurns", "()J"⟩
abbrev cX6_leastCommonMultiple : ByteArray := prog_8_method_13_code
def yX6_leastCommonMultiple : MethodName := ⟨RX6, "leastCommonMultiple", "(JI)J"⟩
def RX7 : String := "LacePillow"
def TX7 : u_T := fun k => match k with
  | 0 => ("LacePillow", "plan", "LLacePillow$Plan;", true)
  | 1 => ("LacePillow", "kept", "LLacePillow$Plan;", true)
  | 2 => ("LacePillow", "keptHeap", "LLacePillow$Heap;", true)
  | 3 => ("LacePillow", "imaged", "Z", false)
  | 4 => ("LacePillow", "ground", "LLacePillow$Ground;", true)
  | 5 => ("LacePillow", "ways", "LLacePillow$Ways;", true)
  | 6 => ("LacePillow", "done", "LLacePillow$Weave;", true)
  | 7 => ("LacePillow", "thought", "LLacePillow$Weave;", true)
  | 8 => ("LacePillow", "thoughtStitches", "I", false)
  | 9 => ("LacePillow", "workedBits", "J", false)
  | 10 => ("LacePillow", "tape", "LLacePillow$Tape;", true)
  | 11 => ("LacePillow", "sheets", "[LLacePillow$Sheet;", true)
  | _ => ("LacePillow", "errors", "[I", true)
def tyX7 : Nat → FieldType := fun k => match k with
  | 0 => .object "LacePillow$Plan"
  | 1 => .object "LacePillow$Plan"
  | 2 => .object "LacePillow$Heap"
  | 3 => .boolean
  | 4 => .object "LacePillow$Ground"
  | 5 => .object "LacePillow$Ways"
  | 6 => .object "LacePillow$Weave"
  | 7 => .object "LacePillow$Weave"
  | 8 => .int
  | 9 => .long
  | 10 => .object "LacePillow$Tape"
  | 11 => .array (.object "LacePillow$Sheet")
  | _ => .array .int
abbrev wsX70 : List Cond := u_ws RX7 TX7 13
theorem nmX7 : ∀ a, a < 13 → ∀ b, b < 13 → a ≠ b → (TX7 a).2.1 ≠ (TX7 b).2.1 := by decide +kernel
theorem tyX7_ok : ∀ k, k < 13 → parseFieldDescriptor (TX7 k).2.2.1 = some (tyX7 k) := by decide +kernel
abbrev cX7_init : ByteArray := prog_1_method_1_code
def yX7_init : MethodName := ⟨RX7, "<init>", "()V"⟩
abbrev cX7_pairs : ByteArray := prog_1_method_2_code
def yX7_pairs : MethodName := ⟨RX7, "pairs", "(I)I"⟩
abbrev cX7_lay : ByteArray := prog_1_method_3_code
def yX7_lay : MethodName := ⟨RX7, "lay", "(III)I"⟩
abbrev cX7_look : ByteArray := prog_1_method_4_code
def yX7_look : MethodName := ⟨RX7, "look", "(II)I"⟩
abbrev cX7_feed : ByteArray := prog_1_method_5_code
def yX7_feed : MethodName := ⟨RX7, "feed", "(I)I"⟩
abbrev cX7_read : ByteArray := prog_1_method_6_code
def yX7_read : MethodName := ⟨RX7, "read", "()I"⟩
abbrev cX7_spell : ByteArray := prog_1_method_7_code
def yX7_spell : MethodName := ⟨RX7, "spell", "(I)I"⟩
abbrev cX7_word : ByteArray := prog_1_method_8_code
def yX7_word : MethodName := ⟨RX7, "word", "(II)I"⟩
abbrev cX7_letter : ByteArray := prog_1_method_9_code
def yX7_letter : MethodName := ⟨RX7, "letter", "(II)I"⟩
abbrev cX7_stitches : ByteArray := prog_1_method_10_code
def yX7_stitches : MethodName := ⟨RX7, "stitches", "(I)I"⟩
abbrev cX7_stitch : ByteArray := prog_1_method_11_code
def yX7_stitch : MethodName := ⟨RX7, "stitch", "(II)I"⟩
abbrev cX7_ahead : ByteArray := prog_1_method_12_code
def yX7_ahead : MethodName := ⟨RX7, "ahead", "(II)I"⟩
abbrev cX7_orders : ByteArray := prog_1_method_13_code
def yX7_orders : MethodName := ⟨RX7, "orders", "()J"⟩
abbrev cX7_order : ByteArray := prog_1_method_14_code
def yX7_order : MethodName := ⟨RX7, "order", "(JI)I"⟩
abbrev cX7_rank : ByteArray := prog_1_method_15_code
def yX7_rank : MethodName := ⟨RX7, "rank", "(I)J"⟩
abbrev cX7_work : ByteArray := prog_1_method_16_code
def yX7_work : MethodName := ⟨RX7, "work", "(I)I"⟩
abbrev cX7_works : ByteArray := prog_1_method_17_code
def yX7_works : MethodName := ⟨RX7, "works", "(I)I"⟩
abbrev cX7_back : ByteArray := prog_1_method_18_code
def yX7_back : MethodName := ⟨RX7, "back", "()I"⟩
abbrev cX7_worked : ByteArray := prog_1_method_19_code
def yX7_worked : MethodName := ⟨RX7, "worked", "(I)I"⟩
abbrev cX7_at : ByteArray := prog_1_method_20_code
def yX7_at : MethodName := ⟨RX7, "at", "(I)I"⟩
abbrev cX7_wind : ByteArray := prog_1_method_21_code
def yX7_wind : MethodName := ⟨RX7, "wind", "(II)I"⟩
abbrev cX7_thread : ByteArray := prog_1_method_22_code
def yX7_thread : MethodName := ⟨RX7, "thread", "(II)I"⟩
abbrev cX7_place : ByteArray := prog_1_method_23_code
def yX7_place : MethodName := ⟨RX7, "place", "(II)I"⟩
abbrev cX7_rounds : ByteArray := prog_1_method_24_code
def yX7_rounds : MethodName := ⟨RX7, "rounds", "()J"⟩
abbrev cX7_link : ByteArray := prog_1_method_25_code
def yX7_link : MethodName := ⟨RX7, "link", "(II)I"⟩
abbrev cX7_meet : ByteArray := prog_1_method_26_code
def yX7_meet : MethodName := ⟨RX7, "meet", "(II)I"⟩
abbrev cX7_lacks : ByteArray := prog_1_method_27_code
def yX7_lacks : MethodName := ⟨RX7, "lacks", "(I)I"⟩
abbrev cX7_lace : ByteArray := prog_1_method_28_code
def yX7_lace : MethodName := ⟨RX7, "lace", "(II)I"⟩
abbrev cX7_layer : ByteArray := prog_1_method_29_code
def yX7_layer : MethodName := ⟨RX7, "layer", "(III)I"⟩
abbrev cX7_repeat : ByteArray := prog_1_method_30_code
def yX7_repeat : MethodName := ⟨RX7, "repeat", "()I"⟩
abbrev cX7_motif : ByteArray := prog_1_method_31_code
def yX7_motif : MethodName := ⟨RX7, "motif", "(III)I"⟩
abbrev cX7_sheet : ByteArray := prog_1_method_32_code
def yX7_sheet : MethodName := ⟨RX7, "sheet", "(III)I"⟩
abbrev cX7_put : ByteArray := prog_1_method_33_code
def yX7_put : MethodName := ⟨RX7, "put", "(IIJ)I"⟩
abbrev cX7_number : ByteArray := prog_1_method_34_code
def yX7_number : MethodName := ⟨RX7, "number", "(II)J"⟩
abbrev cX7_image : ByteArray := prog_1_method_35_code
def yX7_image : MethodName := ⟨RX7, "image", "()I"⟩
abbrev cX7_restore : ByteArray := prog_1_method_36_code
def yX7_restore : MethodName := ⟨RX7, "restore", "()I"⟩
abbrev cX7_alike : ByteArray := prog_1_method_37_code
def yX7_alike : MethodName := ⟨RX7, "alike", "()I"⟩
abbrev cX7_count : ByteArray := prog_1_method_38_code
def yX7_count : MethodName := ⟨RX7, "count", "(I)I"⟩
abbrev cX7_told : ByteArray := prog_1_method_39_code
def yX7_told : MethodName := ⟨RX7, "told", "(I)I"⟩
abbrev cX7_fail : ByteArray := prog_1_method_40_code
def yX7_fail : MethodName := ⟨RX7, "fail", "(I)I"⟩
abbrev cX7_failLong : ByteArray := prog_1_method_41_code
def yX7_failLong : MethodName := ⟨RX7, "failLong", "(I)J"⟩
abbrev cX7_noneIfBelow0 : ByteArray := prog_1_method_42_code
def yX7_noneIfBelow0 : MethodName := ⟨RX7, "noneIfBelow0", "(I)I"⟩
abbrev cX7_isCell : ByteArray := prog_1_method_43_code
def yX7_isCell : MethodName := ⟨RX7, "isCell", "(II)Z"⟩
abbrev cX7_holds : ByteArray := prog_1_method_44_code
def yX7_holds : MethodName := ⟨RX7, "holds", "(II)Z"⟩
abbrev cX7_isThread : ByteArray := prog_1_method_45_code
def yX7_isThread : MethodName := ⟨RX7, "isThread", "(I)Z"⟩
abbrev cX7_isStitch : ByteArray := prog_1_method_46_code
def yX7_isStitch : MethodName := ⟨RX7, "isStitch", "(J)Z"⟩
abbrev cX7_isKind : ByteArray := prog_1_method_47_code
def yX7_isKind : MethodName := ⟨RX7, "isKind", "(I)Z"⟩
abbrev cX7_isSheet : ByteArray := prog_1_method_48_code
def yX7_isSheet : MethodName := ⟨RX7, "isSheet", "(I)Z"⟩
abbrev cX7_sumOf : ByteArray := prog_1_method_49_code
def yX7_sumOf : MethodName := ⟨RX7, "sumOf", "([II)I"⟩
abbrev cX7_beginAnew : ByteArray := prog_1_method_50_code
def yX7_beginAnew : MethodName := ⟨RX7, "beginAnew", "()V"⟩
abbrev cX7_regard : ByteArray := prog_1_method_51_code
def yX7_regard : MethodName := ⟨RX7, "regard", "()V"⟩
abbrev cX7_replay : ByteArray := prog_1_method_52_code
def yX7_replay : MethodName := ⟨RX7, "replay", "()V"⟩
abbrev cX7_tryStitch : ByteArray := prog_1_method_53_code
def yX7_tryStitch : MethodName := ⟨RX7, "tryStitch", "(J)I"⟩
abbrev cX7_thinkStitches : ByteArray := prog_1_method_54_code
def yX7_thinkStitches : MethodName := ⟨RX7, "thinkStitches", "(I)V"⟩
abbrev cX7_thinkWord : ByteArray := prog_1_method_55_code
def yX7_thinkWord : MethodName := ⟨RX7, "thinkWord", "(I)V"⟩
abbrev cX7_weaveOf : ByteArray := prog_1_method_56_code
def yX7_weaveOf : MethodName := ⟨RX7, "weaveOf", "(I)LLacePillow$Weave;"⟩
def RX8 : String := "LacePillowModel"
def TX8 : u_T := fun k => match k with
  | 0 => ("LacePillowModel", "now", "[I", true)
  | 1 => ("LacePillowModel", "kept", "[I", true)
  | 2 => ("LacePillowModel", "aside", "[I", true)
  | 3 => ("LacePillowModel", "isKept", "Z", false)
  | 4 => ("LacePillowModel", "met", "[I", true)
  | 5 => ("LacePillowModel", "many", "I", false)
  | 6 => ("LacePillowModel", "row", "[I", true)
  | 7 => ("LacePillowModel", "gap", "[I", true)
  | 8 => ("LacePillowModel", "kind", "[I", true)
  | 9 => ("LacePillowModel", "level", "[I", true)
  | 10 => ("LacePillowModel", "ahead", "[J", true)
  | 11 => ("LacePillowModel", "tape", "[I", true)
  | 12 => ("LacePillowModel", "taped", "I", false)
  | 13 => ("LacePillowModel", "at", "[I", true)
  | 14 => ("LacePillowModel", "used", "[I", true)
  | 15 => ("LacePillowModel", "crossings", "I", false)
  | 16 => ("LacePillowModel", "place", "[I", true)
  | 17 => ("LacePillowModel", "sign", "[I", true)
  | 18 => ("LacePillowModel", "over", "[I", true)
  | 19 => ("LacePillowModel", "under", "[I", true)
  | 20 => ("LacePillowModel", "by", "[I", true)
  | 21 => ("LacePillowModel", "left", "I", false)
  | 22 => ("LacePillowModel", "leftPlace", "[I", true)
  | 23 => ("LacePillowModel", "leftSign", "[I", true)
  | 24 => ("LacePillowModel", "layerOf", "[I", true)
  | 25 => ("LacePillowModel", "takenBy", "[I", true)
  | 26 => ("LacePillowModel", "seen", "J", false)
  | 27 => ("LacePillowModel", "setMet", "[I", true)
  | 28 => ("LacePillowModel", "waysMet", "[J", true)
  | 29 => ("LacePillowModel", "sort", "[I", true)
  | 30 => ("LacePillowModel", "size", "[I", true)
  | 31 => ("LacePillowModel", "items", "[J", true)
  | _ => ("LacePillowModel", "shown", "[I", true)
def tyX8 : Nat → FieldType := fun k => match k with
  | 0 => .array .int
  | 1 => .array .int
  | 2 => .array .int
  | 3 => .boolean
  | 4 => .array .int
  | 5 => .int
  | 6 => .array .int
  | 7 => .array .int
  | 8 => .array .int
  | 9 => .array .int
  | 10 => .array .long
  | 11 => .array .int
  | 12 => .int
  | 13 => .array .int
  | 14 => .array .int
  | 15 => .int
  | 16 => .array .int
  | 17 => .array .int
  | 18 => .array .int
  | 19 => .array .int
  | 20 => .array .int
  | 21 => .int
  | 22 => .array .int
  | 23 => .array .int
  | 24 => .array .int
  | 25 => .array .int
  | 26 => .long
  | 27 => .array .int
  | 28 => .array .long
  | 29 => .array .int
  | 30 => .array .int
  | 31 => .array .long
  | _ => .array .int
abbrev wsX80 : List Cond := u_ws RX8 TX8 33
theorem nmX8 : ∀ a, a < 33 → ∀ b, b < 33 → a ≠ b → (TX8 a).2.1 ≠ (TX8 b).2.1 := by decide +kernel
theorem tyX8_ok : ∀ k, k < 33 → parseFieldDescriptor (TX8 k).2.2.1 = some (tyX8 k) := by decide +kernel
abbrev cX8_init : ByteArray := prog_10_method_1_code
def yX8_init : MethodName := ⟨RX8, "<init>", "()V"⟩
abbrev cX8_in : ByteArray := prog_10_method_2_code
def yX8_in : MethodName := ⟨RX8, "in", "(JJJ)Z"⟩
abbrev cX8_errs : ByteArray := prog_10_method_3_code
def yX8_errs : MethodName := ⟨RX8, "errs", "(I)I"⟩
abbrev cX8_errsLong : ByteArray := prog_10_method_4_code
def yX8_errsLong : MethodName := ⟨RX8, "errsLong", "(I)J"⟩
abbrev cX8_copy : ByteArray := prog_10_method_5_code
def yX8_copy : MethodName := ⟨RX8, "copy", "([I[I)V"⟩
abbrev cX8_bits : ByteArray := prog_10_method_6_code
def yX8_bits : MethodName := ⟨RX8, "bits", "(J)I"⟩
abbrev cX8_gaps : ByteArray := prog_10_method_7_code
def yX8_gaps : MethodName := ⟨RX8, "gaps", "()I"⟩
abbrev cX8_threads : ByteArray := prog_10_method_8_code
def yX8_threads : MethodName := ⟨RX8, "threads", "()I"⟩
abbrev cX8_held : ByteArray := prog_10_method_9_code
def yX8_held : MethodName := ⟨RX8, "held", "(II)I"⟩
abbrev cX8_lists : ByteArray := prog_10_method_10_code
def yX8_lists : MethodName := ⟨RX8, "lists", "()V"⟩
abbrev cX8_add : ByteArray := prog_10_method_11_code
def yX8_add : MethodName := ⟨RX8, "add", "(II)V"⟩
abbrev cX8_anew : ByteArray := prog_10_method_12_code
def yX8_anew : MethodName := ⟨RX8, "anew", "()V"⟩
abbrev cX8_workedSet : ByteArray := prog_10_method_13_code
def yX8_workedSet : MethodName := ⟨RX8, "workedSet", "()J"⟩
abbrev cX8_isFree : ByteArray := prog_10_method_14_code
def yX8_isFree : MethodName := ⟨RX8, "isFree", "(I)Z"⟩
abbrev cX8_pairs : ByteArray := prog_10_method_15_code
def yX8_pairs : MethodName := ⟨RX8, "pairs", "(I)I"⟩
abbrev cX8_isPlaceOf : ByteArray := prog_10_method_16_code
def yX8_isPlaceOf : MethodName := ⟨RX8, "isPlaceOf", "(II)Z"⟩
abbrev cX8_lay : ByteArray := prog_10_method_17_code
def yX8_lay : MethodName := ⟨RX8, "lay", "(III)I"⟩
abbrev cX8_look : ByteArray := prog_10_method_18_code
def yX8_look : MethodName := ⟨RX8, "look", "(II)I"⟩
abbrev cX8_feed : ByteArray := prog_10_method_19_code
def yX8_feed : MethodName := ⟨RX8, "feed", "(I)I"⟩
abbrev cX8_prickingFault : ByteArray := prog_10_method_20_code
def yX8_prickingFault : MethodName := ⟨RX8, "prickingFault", "()I"⟩
abbrev cX8_read : ByteArray := prog_10_method_21_code
def yX8_read : MethodName := ⟨RX8, "read", "()I"⟩
abbrev cX8_isTold : ByteArray := prog_10_method_22_code
def yX8_isTold : MethodName := ⟨RX8, "isTold", "(I)Z"⟩
abbrev cX8_spell : ByteArray := prog_10_method_23_code
def yX8_spell : MethodName := ⟨RX8, "spell", "(I)I"⟩
abbrev cX8_letterOf : ByteArray := prog_10_method_24_code
def yX8_letterOf : MethodName := ⟨RX8, "letterOf", "(II)I"⟩
abbrev cX8_letter : ByteArray := prog_10_method_25_code
def yX8_letter : MethodName := ⟨RX8, "letter", "(II)I"⟩
abbrev cX8_begins : ByteArray := prog_10_method_26_code
def yX8_begins : MethodName := ⟨RX8, "begins", "()V"⟩
abbrev cX8_cross : ByteArray := prog_10_method_27_code
def yX8_cross : MethodName := ⟨RX8, "cross", "(III)V"⟩
abbrev cX8_spells : ByteArray := prog_10_method_28_code
def yX8_spells : MethodName := ⟨RX8, "spells", "(III)V"⟩
abbrev cX8_works : ByteArray := prog_10_method_29_code
def yX8_works : MethodName := ⟨RX8, "works", "(IZ)V"⟩
abbrev cX8_theWork : ByteArray := prog_10_method_30_code
def yX8_theWork : MethodName := ⟨RX8, "theWork", "()V"⟩
abbrev cX8_first : ByteArray := prog_10_method_31_code
def yX8_first : MethodName := ⟨RX8, "first", "(I)V"⟩
abbrev cX8_whole : ByteArray := prog_10_method_32_code
def yX8_whole : MethodName := ⟨RX8, "whole", "(I)V"⟩
abbrev cX8_drop : ByteArray := prog_10_method_33_code
def yX8_drop : MethodName := ⟨RX8, "drop", "(I)V"⟩
abbrev cX8_comes : ByteArray := prog_10_method_34_code
def yX8_comes : MethodName := ⟨RX8, "comes", "(II)V"⟩
abbrev cX8_layers : ByteArray := prog_10_method_35_code
def yX8_layers : MethodName := ⟨RX8, "layers", "()I"⟩
abbrev cX8_signIn : ByteArray := prog_10_method_36_code
def yX8_signIn : MethodName := ⟨RX8, "signIn", "(II)I"⟩
abbrev cX8_word : ByteArray := prog_10_method_37_code
def yX8_word : MethodName := ⟨RX8, "word", "(II)I"⟩
abbrev cX8_deep : ByteArray := prog_10_method_38_code
def yX8_deep : MethodName := ⟨RX8, "deep", "()I"⟩
abbrev cX8_chain : ByteArray := prog_10_method_39_code
def yX8_chain : MethodName := ⟨RX8, "chain", "()I"⟩
abbrev cX8_takes : ByteArray := prog_10_method_40_code
def yX8_takes : MethodName := ⟨RX8, "takes", "(I)Z"⟩
abbrev cX8_wide : ByteArray := prog_10_method_41_code
def yX8_wide : MethodName := ⟨RX8, "wide", "()I"⟩
abbrev cX8_leastFree : ByteArray := prog_10_method_42_code
def yX8_leastFree : MethodName := ⟨RX8, "leastFree", "()I"⟩
abbrev cX8_freeMany : ByteArray := prog_10_method_43_code
def yX8_freeMany : MethodName := ⟨RX8, "freeMany", "()I"⟩
abbrev cX8_stitches : ByteArray := prog_10_method_44_code
def yX8_stitches : MethodName := ⟨RX8, "stitches", "(I)I"⟩
abbrev cX8_isStitch : ByteArray := prog_10_method_45_code
def yX8_isStitch : MethodName := ⟨RX8, "isStitch", "(J)Z"⟩
abbrev cX8_behind : ByteArray := prog_10_method_46_code
def yX8_behind : MethodName := ⟨RX8, "behind", "(I)I"⟩
abbrev cX8_stitch : ByteArray := prog_10_method_47_code
def yX8_stitch : MethodName := ⟨RX8, "stitch", "(II)I"⟩
abbrev cX8_ahead : ByteArray := prog_10_method_48_code
def yX8_ahead : MethodName := ⟨RX8, "ahead", "(II)I"⟩
abbrev cX8_forgets : ByteArray := prog_10_method_49_code
def yX8_forgets : MethodName := ⟨RX8, "forgets", "()V"⟩
abbrev cX8_ways : ByteArray := prog_10_method_50_code
def yX8_ways : MethodName := ⟨RX8, "ways", "(I)J"⟩
abbrev cX8_orders : ByteArray := prog_10_method_51_code
def yX8_orders : MethodName := ⟨RX8, "orders", "()J"⟩
abbrev cX8_order : ByteArray := prog_10_method_52_code
def yX8_order : MethodName := ⟨RX8, "order", "(JI)I"⟩
abbrev cX8_rankOf : ByteArray := prog_10_method_53_code
def yX8_rankOf : MethodName := ⟨RX8, "rankOf", "(I)J"⟩
abbrev cX8_rank : ByteArray := prog_10_method_54_code
def yX8_rank : MethodName := ⟨RX8, "rank", "(I)J"⟩
abbrev cX8_wrong : ByteArray := prog_10_method_55_code
def yX8_wrong : MethodName := ⟨RX8, "wrong", "(J)I"⟩
abbrev cX8_doWork : ByteArray := prog_10_method_56_code
def yX8_doWork : MethodName := ⟨RX8, "doWork", "(I)I"⟩
abbrev cX8_work : ByteArray := prog_10_method_57_code
def yX8_work : MethodName := ⟨RX8, "work", "(I)I"⟩
abbrev cX8_works_ : ByteArray := prog_10_method_58_code
def yX8_works_ : MethodName := ⟨RX8, "works", "(I)I"⟩
abbrev cX8_back : ByteArray := prog_10_method_59_code
def yX8_back : MethodName := ⟨RX8, "back", "()I"⟩
abbrev cX8_worked : ByteArray := prog_10_method_60_code
def yX8_worked : MethodName := ⟨RX8, "worked", "(I)I"⟩
abbrev cX8_at : ByteArray := prog_10_method_61_code
def yX8_at : MethodName := ⟨RX8, "at", "(I)I"⟩
abbrev cX8_isThread : ByteArray := prog_10_method_62_code
def yX8_isThread : MethodName := ⟨RX8, "isThread", "(I)Z"⟩
abbrev cX8_wind : ByteArray := prog_10_method_63_code
def yX8_wind : MethodName := ⟨RX8, "wind", "(II)I"⟩
abbrev cX8_placeOf : ByteArray := prog_10_method_64_code
def yX8_placeOf : MethodName := ⟨RX8, "placeOf", "(I)I"⟩
abbrev cX8_roundsOf : ByteArray := prog_10_method_65_code
def yX8_roundsOf : MethodName := ⟨RX8, "roundsOf", "(I)I"⟩
abbrev cX8_overs : ByteArray := prog_10_method_66_code
def yX8_overs : MethodName := ⟨RX8, "overs", "(IZ)I"⟩
abbrev cX8_falseOf : ByteArray := prog_10_method_67_code
def yX8_falseOf : MethodName := ⟨RX8, "falseOf", "(I)I"⟩
abbrev cX8_thread : ByteArray := prog_10_method_68_code
def yX8_thread : MethodName := ⟨RX8, "thread", "(II)I"⟩
abbrev cX8_place : ByteArray := prog_10_method_69_code
def yX8_place : MethodName := ⟨RX8, "place", "(II)I"⟩
abbrev cX8_divisor : ByteArray := prog_10_method_70_code
def yX8_divisor : MethodName := ⟨RX8, "divisor", "(JJ)J"⟩
abbrev cX8_rounds : ByteArray := prog_10_method_71_code
def yX8_rounds : MethodName := ⟨RX8, "rounds", "()J"⟩
abbrev cX8_link : ByteArray := prog_10_method_72_code
def yX8_link : MethodName := ⟨RX8, "link", "(II)I"⟩
abbrev cX8_meet : ByteArray := prog_10_method_73_code
def yX8_meet : MethodName := ⟨RX8, "meet", "(II)I"⟩
abbrev cX8_lacks : ByteArray := prog_10_method_74_code
def yX8_lacks : MethodName := ⟨RX8, "lacks", "(I)I"⟩
abbrev cX8_lace : ByteArray := prog_10_method_75_code
def yX8_lace : MethodName := ⟨RX8, "lace", "(II)I"⟩
abbrev cX8_layer : ByteArray := prog_10_method_76_code
def yX8_layer : MethodName := ⟨RX8, "layer", "(III)I"⟩
abbrev cX8_areRowsAlike : ByteArray := prog_10_method_77_code
def yX8_areRowsAlike : MethodName := ⟨RX8, "areRowsAlike", "(II)Z"⟩
abbrev cX8_repeat : ByteArray := prog_10_method_78_code
def yX8_repeat : MethodName := ⟨RX8, "repeat", "()I"⟩
abbrev cX8_fits : ByteArray := prog_10_method_79_code
def yX8_fits : MethodName := ⟨RX8, "fits", "(JII)Z"⟩
abbrev cX8_isFound : ByteArray := prog_10_method_80_code
def yX8_isFound : MethodName := ⟨RX8, "isFound", "(IIII)Z"⟩
abbrev cX8_motif : ByteArray := prog_10_method_81_code
def yX8_motif : MethodName := ⟨RX8, "motif", "(III)I"⟩
abbrev cX8_isSheet : ByteArray := prog_10_method_82_code
def yX8_isSheet : MethodName := ⟨RX8, "isSheet", "(I)Z"⟩
abbrev cX8_sheet : ByteArray := prog_10_method_83_code
def yX8_sheet : MethodName := ⟨RX8, "sheet", "(III)I"⟩
abbrev cX8_isItem : ByteArray := prog_10_method_84_code
def yX8_isItem : MethodName := ⟨RX8, "isItem", "(II)Z"⟩
abbrev cX8_put : ByteArray := prog_10_method_85_code
def yX8_put : MethodName := ⟨RX8, "put", "(IIJ)I"⟩
abbrev cX8_number : ByteArray := prog_10_method_86_code
def yX8_number : MethodName := ⟨RX8, "number", "(II)J"⟩
abbrev cX8_image : ByteArray := prog_10_method_87_code
def yX8_image : MethodName := ⟨RX8, "image", "()I"⟩
abbrev cX8_restore : ByteArray := prog_10_method_88_code
def yX8_restore : MethodName := ⟨RX8, "restore", "()I"⟩
abbrev cX8_alike : ByteArray := prog_10_method_89_code
def yX8_alike : MethodName := ⟨RX8, "alike", "()I"⟩
abbrev cX8_all : ByteArray := prog_10_method_90_code
def yX8_all : MethodName := ⟨RX8, "all", "(Z)I"⟩
abbrev cX8_atHome : ByteArray := prog_10_method_91_code
def yX8_atHome : MethodName := ⟨RX8, "atHome", "()I"⟩
abbrev cX8_made : ByteArray := prog_10_method_92_code
def yX8_made : MethodName := ⟨RX8, "made", "()I"⟩
abbrev cX8_count : ByteArray := prog_10_method_93_code
def yX8_count : MethodName := ⟨RX8, "count", "(I)I"⟩
abbrev cX8_told : ByteArray := prog_10_method_94_code
def yX8_told : MethodName := ⟨RX8, "told", "(I)I"⟩
def RJx145de : String := "java/io/Serializable"
def TJx145de : u_T := fun k => match k with
  | _ => ("", "", "", false)
def tyJx145de : Nat → FieldType := fun k => match k with
  | _ => .int
abbrev wsJx145de0 : List Cond := u_ws RJx145de TJx145de 0
theorem nmJx145de : ∀ a, a < 0 → ∀ b, b < 0 → a ≠ b → (TJx145de a).2.1 ≠ (TJx145de b).2.1 := by decide +kernel
theorem tyJx145de_ok : ∀ k, k < 0 → parseFieldDescriptor (TJx145de k).2.2.1 = some (tyJx145de k) := by decide +kernel
def RJx9f9b0 : String := "java/lang/CharSequence"
def TJx9f9b0 : u_T := fun k => match k with
  | _ => ("", "", "", false)
def tyJx9f9b0 : Nat → FieldType := fun k => match k with
  | _ => .int
abbrev wsJx9f9b00 : List Cond := u_ws RJx9f9b0 TJx9f9b0 0
theorem nmJx9f9b0 : ∀ a, a < 0 → ∀ b, b < 0 → a ≠ b → (TJx9f9b0 a).2.1 ≠ (TJx9f9b0 b).2.1 := by decide +kernel
theorem tyJx9f9b0_ok : ∀ k, k < 0 → parseFieldDescriptor (TJx9f9b0 k).2.2.1 = some (tyJx9f9b0 k) := by decide +kernel
def RJxb160c : String := "java/lang/Comparable"
def TJxb160c : u_T := fun k => match k with
  | _ => ("", "", "", false)
def tyJxb160c : Nat → FieldType := fun k => match k with
  | _ => .int
abbrev wsJxb160c0 : List Cond := u_ws RJxb160c TJxb160c 0
theorem nmJxb160c : ∀ a, a < 0 → ∀ b, b < 0 → a ≠ b → (TJxb160c a).2.1 ≠ (TJxb160c b).2.1 := by decide +kernel
theorem tyJxb160c_ok : ∀ k, k < 0 → parseFieldDescriptor (TJxb160c k).2.2.1 = some (tyJxb160c k) := by decide +kernel
def RJ13 : String := "java/lang/Long"
def TJ13 : u_T := fun k => match k with
  | _ => ("", "", "", false)
def tyJ13 : Nat → FieldType := fun k => match k with
  | _ => .int
abbrev wsJ130 : List Cond := u_ws RJ13 TJ13 0
theorem nmJ13 : ∀ a, a < 0 → ∀ b, b < 0 → a ≠ b → (TJ13 a).2.1 ≠ (TJ13 b).2.1 := by decide +kernel
theorem tyJ13_ok : ∀ k, k < 0 → parseFieldDescriptor (TJ13 k).2.2.1 = some (tyJ13 k) := by decide +kernel
abbrev cJ13_bitCount_95d88 : ByteArray := prog_11_method_50_code
def yJ13_bitCount_95d88 : MethodName := ⟨RJ13, "bitCount", "(J)I"⟩
def RJ9 : String := "java/lang/Math"
def TJ9 : u_T := fun k => match k with
  | _ => ("", "", "", false)
def tyJ9 : Nat → FieldType := fun k => match k with
  | _ => .int
abbrev wsJ90 : List Cond := u_ws RJ9 TJ9 0
theorem nmJ9 : ∀ a, a < 0 → ∀ b, b < 0 → a ≠ b → (TJ9 a).2.1 ≠ (TJ9 b).2.1 := by decide +kernel
theorem tyJ9_ok : ∀ k, k < 0 → parseFieldDescriptor (TJ9 k).2.2.1 = some (tyJ9 k) := by decide +kernel
abbrev cJ9_abs_0f7a4 : ByteArray := prog_12_method_59_code
def yJ9_abs_0f7a4 : MethodName := ⟨RJ9, "abs", "(I)I"⟩
abbrev cJ9_max_7cf53 : ByteArray := prog_12_method_65_code
def yJ9_max_7cf53 : MethodName := ⟨RJ9, "max", "(II)I"⟩
abbrev cJ9_min_7cf53 : ByteArray := prog_12_method_69_code
def yJ9_min_7cf53 : MethodName := ⟨RJ9, "min", "(II)I"⟩
def RJ0 : String := "java/lang/String"
def TJ0 : u_T := fun k => match k with
  | _ => ("", "", "", false)
def tyJ0 : Nat → FieldType := fun k => match k with
  | _ => .int
abbrev wsJ00 : List Cond := u_ws RJ0 TJ0 0
theorem nmJ0 : ∀ a, a < 0 → ∀ b, b < 0 → a ≠ b → (TJ0 a).2.1 ≠ (TJ0 b).2.1 := by decide +kernel
theorem tyJ0_ok : ∀ k, k < 0 → parseFieldDescriptor (TJ0 k).2.2.1 = some (tyJ0 k) := by decide +kernel
abbrev cJ0_length_8abf5 : ByteArray := prog_13_method_54_code
def yJ0_length_8abf5 : MethodName := ⟨RJ0, "length", "()I"⟩
abbrev cJ0_charAt_5068e : ByteArray := prog_13_method_56_code
def yJ0_charAt_5068e : MethodName := ⟨RJ0, "charAt", "(I)C"⟩
abbrev cJ0_coder_7d493 : ByteArray := prog_13_method_152_code
def yJ0_coder_7d493 : MethodName := ⟨RJ0, "coder", "()B"⟩
abbrev cJ0_isLatin1_aae02 : ByteArray := prog_13_method_154_code
def yJ0_isLatin1_aae02 : MethodName := ⟨RJ0, "isLatin1", "()Z"⟩
abbrev cJ0_checkIndex_df160 : ByteArray := prog_13_method_155_code
def yJ0_checkIndex_df160 : MethodName := ⟨RJ0, "checkIndex", "(II)V"⟩
def RJ1 : String := "java/lang/StringLatin1"
def TJ1 : u_T := fun k => match k with
  | _ => ("", "", "", false)
def tyJ1 : Nat → FieldType := fun k => match k with
  | _ => .int
abbrev wsJ10 : List Cond := u_ws RJ1 TJ1 0
theorem nmJ1 : ∀ a, a < 0 → ∀ b, b < 0 → a ≠ b → (TJ1 a).2.1 ≠ (TJ1 b).2.1 := by decide +kernel
theorem tyJ1_ok : ∀ k, k < 0 → parseFieldDescriptor (TJ1 k).2.2.1 = some (tyJ1 k) := by decide +kernel
abbrev cJ1_charAt_3b067 : ByteArray := prog_14_method_2_code
def yJ1_charAt_3b067 : MethodName := ⟨RJ1, "charAt", "([BI)C"⟩
def RJ2 : String := "java/lang/StringUTF16"
def TJ2 : u_T := fun k => match k with
  | _ => ("", "", "", false)
def tyJ2 : Nat → FieldType := fun k => match k with
  | _ => .int
abbrev wsJ20 : List Cond := u_ws RJ2 TJ2 0
theorem nmJ2 : ∀ a, a < 0 → ∀ b, b < 0 → a ≠ b → (TJ2 a).2.1 ≠ (TJ2 b).2.1 := by decide +kernel
theorem tyJ2_ok : ∀ k, k < 0 → parseFieldDescriptor (TJ2 k).2.2.1 = some (tyJ2 k) := by decide +kernel
abbrev cJ2_getChar_3b067 : ByteArray := prog_15_method_5_code
def yJ2_getChar_3b067 : MethodName := ⟨RJ2, "getChar", "([BI)C"⟩
abbrev cJ2_length_9d52b : ByteArray := prog_15_method_6_code
def yJ2_length_9d52b : MethodName := ⟨RJ2, "length", "([B)I"⟩
abbrev cJ2_charAt_3b067 : ByteArray := prog_15_method_83_code
def yJ2_charAt_3b067 : MethodName := ⟨RJ2, "charAt", "([BI)C"⟩
abbrev cJ2_checkIndex_2214a : ByteArray := prog_15_method_91_code
def yJ2_checkIndex_2214a : MethodName := ⟨RJ2, "checkIndex", "(I[B)V"⟩
def RJ10 : String := "java/lang/System"
def TJ10 : u_T := fun k => match k with
  | _ => ("", "", "", false)
def tyJ10 : Nat → FieldType := fun k => match k with
  | _ => .int
abbrev wsJ100 : List Cond := u_ws RJ10 TJ10 0
theorem nmJ10 : ∀ a, a < 0 → ∀ b, b < 0 → a ≠ b → (TJ10 a).2.1 ≠ (TJ10 b).2.1 := by decide +kernel
theorem tyJ10_ok : ∀ k, k < 0 → parseFieldDescriptor (TJ10 k).2.2.1 = some (tyJ10 k) := by decide +kernel
def RJxfd54e : String := "java/lang/constant/Constable"
def TJxfd54e : u_T := fun k => match k with
  | _ => ("", "", "", false)
def tyJxfd54e : Nat → FieldType := fun k => match k with
  | _ => .int
abbrev wsJxfd54e0 : List Cond := u_ws RJxfd54e TJxfd54e 0
theorem nmJxfd54e : ∀ a, a < 0 → ∀ b, b < 0 → a ≠ b → (TJxfd54e a).2.1 ≠ (TJxfd54e b).2.1 := by decide +kernel
theorem tyJxfd54e_ok : ∀ k, k < 0 → parseFieldDescriptor (TJxfd54e k).2.2.1 = some (tyJxfd54e k) := by decide +kernel
def RJx3cf43 : String := "java/lang/constant/ConstantDesc"
def TJx3cf43 : u_T := fun k => match k with
  | _ => ("", "", "", false)
def tyJx3cf43 : Nat → FieldType := fun k => match k with
  | _ => .int
abbrev wsJx3cf430 : List Cond := u_ws RJx3cf43 TJx3cf43 0
theorem nmJx3cf43 : ∀ a, a < 0 → ∀ b, b < 0 → a ≠ b → (TJx3cf43 a).2.1 ≠ (TJx3cf43 b).2.1 := by decide +kernel
theorem tyJx3cf43_ok : ∀ k, k < 0 → parseFieldDescriptor (TJx3cf43 k).2.2.1 = some (tyJx3cf43 k) := by decide +kernel
def RJ7 : String := "java/util/Arrays"
def TJ7 : u_T := fun k => match k with
  | _ => ("", "", "", false)
def tyJ7 : Nat → FieldType := fun k => match k with
  | _ => .int
abbrev wsJ70 : List Cond := u_ws RJ7 TJ7 0
theorem nmJ7 : ∀ a, a < 0 → ∀ b, b < 0 → a ≠ b → (TJ7 a).2.1 ≠ (TJ7 b).2.1 := by decide +kernel
theorem tyJ7_ok : ∀ k, k < 0 → parseFieldDescriptor (TJ7 k).2.2.1 = some (tyJ7 k) := by decide +kernel
abbrev cJ7_fill_d0a16 : ByteArray := prog_17_method_101_code
def yJ7_fill_d0a16 : MethodName := ⟨RJ7, "fill", "([JJ)V"⟩
abbrev cJ7_fill_53178 : ByteArray := prog_17_method_103_code
def yJ7_fill_53178 : MethodName := ⟨RJ7, "fill", "([II)V"⟩
def RJ3 : String := "jdk/internal/util/Preconditions"
def TJ3 : u_T := fun k => match k with
  | _ => ("", "", "", false)
def tyJ3 : Nat → FieldType := fun k => match k with
  | _ => .int
abbrev wsJ30 : List Cond := u_ws RJ3 TJ3 0
theorem nmJ3 : ∀ a, a < 0 → ∀ b, b < 0 → a ≠ b → (TJ3 a).2.1 ≠ (TJ3 b).2.1 := by decide +kernel
theorem tyJ3_ok : ∀ k, k < 0 → parseFieldDescriptor (TJ3 k).2.2.1 = some (tyJ3 k) := by decide +kernel
abbrev cJ3_checkIndex_8e157 : ByteArray := prog_18_method_11_code
def yJ3_checkIndex_8e157 : MethodName := ⟨RJ3, "checkIndex", "(IILjava/util/function/BiFunction;)I"⟩
def wsX0_init : List Cond := .code yX0_init cX0_init 1 none :: ([.methodLink RX0 3 objectInit, .instanceMethod objectInit, .code objectInit ⟨#[0xb1]⟩ 1 none, .fieldLink RX0 9 "LacePillow$Ground" "size" "I", .fieldLink RX0 15 "LacePillow$Ground" "deep" "I", .arrayClass .int, .fieldLink RX0 18 "LacePillow$Ground" "rows" "[I", .fieldLink RX0 22 "LacePillow$Ground" "gaps" "[I", .fieldLink RX0 25 "LacePillow$Ground" "kinds" "[I", .fieldLink RX0 28 "LacePillow$Ground" "levels" "[I", .arrayClass .long, .fieldLink RX0 31 "LacePillow$Ground" "before" "[J", .fieldLink RX0 35 "LacePillow$Ground" "wides" "[I"] ++ wsX00)
def wsX0_enter : List Cond := .code yX0_enter cX0_enter 6 none :: ([.fieldLink RX0 9 "LacePillow$Ground" "size" "I", .fieldLink RX0 18 "LacePillow$Ground" "rows" "[I", .fieldLink RX0 22 "LacePillow$Ground" "gaps" "[I", .fieldLink RX0 25 "LacePillow$Ground" "kinds" "[I", .fieldLink RX0 28 "LacePillow$Ground" "levels" "[I", .fieldLink RX0 31 "LacePillow$Ground" "before" "[J", .methodLink RX0 50 Lib.Math.abs.name, .static Lib.Math.abs.name, .initialized "java/lang/Math", .code Lib.Math.abs.name Lib.Math.abs.code 1 (some .int), .methodLink RX0 56 Lib.Math.max.name, .static Lib.Math.max.name, .code Lib.Math.max.name Lib.Math.max.code 2 (some .int), .fieldLink RX0 15 "LacePillow$Ground" "deep" "I"] ++ wsX00)
def wsX0_gather : List Cond := .code yX0_gather cX0_gather 5 none :: ([.fieldLink RX0 9 "LacePillow$Ground" "size" "I", .fieldLink RX0 15 "LacePillow$Ground" "deep" "I", .fieldLink RX0 38 "LacePillow$Plan" "pairs" "I", .fieldLink RX0 43 "LacePillow$Plan" "cells" "[I", .methodLink RX0 46 yX0_enter, .instanceMethod yX0_enter, .selects RX0 yX0_enter yX0_enter, .initialized RX0, .code yX0_enter cX0_enter 6 none, .fieldLink RX0 18 "LacePillow$Ground" "rows" "[I", .fieldLink RX0 22 "LacePillow$Ground" "gaps" "[I", .fieldLink RX0 25 "LacePillow$Ground" "kinds" "[I", .fieldLink RX0 28 "LacePillow$Ground" "levels" "[I", .fieldLink RX0 31 "LacePillow$Ground" "before" "[J", .methodLink RX0 50 Lib.Math.abs.name, .static Lib.Math.abs.name, .initialized "java/lang/Math", .code Lib.Math.abs.name Lib.Math.abs.code 1 (some .int), .methodLink RX0 56 Lib.Math.max.name, .static Lib.Math.max.name, .code Lib.Math.max.name Lib.Math.max.code 2 (some .int)] ++ wsX00 ++ wsX20)
def wsX0_leads : List Cond := .code yX0_leads cX0_leads 3 (some .boolean) :: ([.fieldLink RX0 31 "LacePillow$Ground" "before" "[J"] ++ wsX00)
def wsX0_isFree : List Cond := .code yX0_isFree cX0_isFree 4 (some .boolean) :: ([.fieldLink RX0 31 "LacePillow$Ground" "before" "[J", .constantLong RX0 60 (-1)] ++ wsX00)
def wsX0_countFree : List Cond := .code yX0_countFree cX0_countFree 5 (some .int) :: ([.fieldLink RX0 9 "LacePillow$Ground" "size" "I", .methodLink RX0 62 yX0_isFree, .instanceMethod yX0_isFree, .selects RX0 yX0_isFree yX0_isFree, .initialized RX0, .code yX0_isFree cX0_isFree 4 (some .boolean), .fieldLink RX0 31 "LacePillow$Ground" "before" "[J", .constantLong RX0 60 (-1)] ++ wsX00)
def wsX0_leastFree : List Cond := .code yX0_leastFree cX0_leastFree 4 (some .int) :: ([.fieldLink RX0 9 "LacePillow$Ground" "size" "I", .methodLink RX0 62 yX0_isFree, .instanceMethod yX0_isFree, .selects RX0 yX0_isFree yX0_isFree, .initialized RX0, .code yX0_isFree cX0_isFree 4 (some .boolean), .fieldLink RX0 31 "LacePillow$Ground" "before" "[J", .constantLong RX0 60 (-1)] ++ wsX00)
def wsX0_countBehind : List Cond := .code yX0_countBehind cX0_countBehind 4 (some .int) :: ([.fieldLink RX0 9 "LacePillow$Ground" "size" "I", .methodLink RX0 66 yX0_leads, .instanceMethod yX0_leads, .selects RX0 yX0_leads yX0_leads, .initialized RX0, .code yX0_leads cX0_leads 3 (some .boolean), .fieldLink RX0 31 "LacePillow$Ground" "before" "[J"] ++ wsX00)
def wsX0_longestChain : List Cond := .code yX0_longestChain cX0_longestChain 3 (some .int) :: ([.fieldLink RX0 9 "LacePillow$Ground" "size" "I", .fieldLink RX0 28 "LacePillow$Ground" "levels" "[I", .methodLink RX0 56 Lib.Math.max.name, .static Lib.Math.max.name, .initialized "java/lang/Math", .code Lib.Math.max.name Lib.Math.max.code 2 (some .int)] ++ wsX00)
def wsX0_widestLeftOf : List Cond := .code yX0_widestLeftOf cX0_widestLeftOf 4 (some .int) :: ([.fieldLink RX0 9 "LacePillow$Ground" "size" "I", .fieldLink RX0 22 "LacePillow$Ground" "gaps" "[I", .fieldLink RX0 35 "LacePillow$Ground" "wides" "[I", .methodLink RX0 56 Lib.Math.max.name, .static Lib.Math.max.name, .initialized "java/lang/Math", .code Lib.Math.max.name Lib.Math.max.code 2 (some .int), .methodLink RX0 66 yX0_leads, .instanceMethod yX0_leads, .selects RX0 yX0_leads yX0_leads, .initialized RX0, .code yX0_leads cX0_leads 3 (some .boolean), .fieldLink RX0 31 "LacePillow$Ground" "before" "[J"] ++ wsX00)
def wsX0_widest : List Cond := .code yX0_widest cX0_widest 4 (some .int) :: ([.fieldLink RX0 9 "LacePillow$Ground" "size" "I", .fieldLink RX0 22 "LacePillow$Ground" "gaps" "[I", .fieldLink RX0 35 "LacePillow$Ground" "wides" "[I", .methodLink RX0 56 Lib.Math.max.name, .static Lib.Math.max.name, .initialized "java/lang/Math", .code Lib.Math.max.name Lib.Math.max.code 2 (some .int), .methodLink RX0 70 yX0_widestLeftOf, .instanceMethod yX0_widestLeftOf, .selects RX0 yX0_widestLeftOf yX0_widestLeftOf, .initialized RX0, .code yX0_widestLeftOf cX0_widestLeftOf 4 (some .int), .methodLink RX0 66 yX0_leads, .instanceMethod yX0_leads, .selects RX0 yX0_leads yX0_leads, .code yX0_leads cX0_leads 3 (some .boolean), .fieldLink RX0 31 "LacePillow$Ground" "before" "[J"] ++ wsX00)
def wsJ7_fill_53178 : List Cond := .code yJ7_fill_53178 cJ7_fill_53178 4 none :: ([])
def wsX1_init : List Cond := .code yX1_init cX1_init 1 none :: ([.methodLink RX1 3 objectInit, .instanceMethod objectInit, .code objectInit ⟨#[0xb1]⟩ 1 none, .fieldLink RX1 9 "LacePillow$Heap" "size" "I", .arrayClass .int, .fieldLink RX1 15 "LacePillow$Heap" "signs" "[I", .fieldLink RX1 19 "LacePillow$Heap" "tops" "[I", .methodLink RX1 22 yJ7_fill_53178, .static yJ7_fill_53178, .initialized RJ7, .code yJ7_fill_53178 cJ7_fill_53178 4 none] ++ wsX10)
def wsX1_clear : List Cond := .code yX1_clear cX1_clear 1 none :: ([.fieldLink RX1 9 "LacePillow$Heap" "size" "I", .fieldLink RX1 15 "LacePillow$Heap" "signs" "[I", .fieldLink RX1 19 "LacePillow$Heap" "tops" "[I", .methodLink RX1 22 yJ7_fill_53178, .static yJ7_fill_53178, .initialized RJ7, .code yJ7_fill_53178 cJ7_fill_53178 4 none] ++ wsX10)
def wsX1_copyFrom : List Cond := .code yX1_copyFrom cX1_copyFrom 2 none :: ([.fieldLink RX1 9 "LacePillow$Heap" "size" "I", .fieldLink RX1 15 "LacePillow$Heap" "signs" "[I", .methodLink RX1 28 arraycopyName, .native arraycopyName, .static arraycopyName, .initialized "java/lang/System", .fieldLink RX1 19 "LacePillow$Heap" "tops" "[I"] ++ wsX10)
def wsX1_takeTop : List Cond := .code yX1_takeTop cX1_takeTop 4 none :: ([.fieldLink RX1 15 "LacePillow$Heap" "signs" "[I", .fieldLink RX1 9 "LacePillow$Heap" "size" "I", .fieldLink RX1 19 "LacePillow$Heap" "tops" "[I"] ++ wsX10)
def wsX1_add : List Cond := .code yX1_add cX1_add 6 none :: ([.fieldLink RX1 19 "LacePillow$Heap" "tops" "[I", .methodLink RX1 34 Lib.Math.max.name, .static Lib.Math.max.name, .initialized "java/lang/Math", .code Lib.Math.max.name Lib.Math.max.code 2 (some .int), .fieldLink RX1 15 "LacePillow$Heap" "signs" "[I", .fieldLink RX1 9 "LacePillow$Heap" "size" "I", .methodLink RX1 40 yX1_takeTop, .instanceMethod yX1_takeTop, .selects RX1 yX1_takeTop yX1_takeTop, .initialized RX1, .code yX1_takeTop cX1_takeTop 4 none] ++ wsX10)
def wsX1_signAt : List Cond := .code yX1_signAt cX1_signAt 3 (some .int) :: ([.fieldLink RX1 15 "LacePillow$Heap" "signs" "[I"] ++ wsX10)
def wsX1_countLayers : List Cond := .code yX1_countLayers cX1_countLayers 3 (some .int) :: ([.fieldLink RX1 19 "LacePillow$Heap" "tops" "[I", .methodLink RX1 34 Lib.Math.max.name, .static Lib.Math.max.name, .initialized "java/lang/Math", .code Lib.Math.max.name Lib.Math.max.code 2 (some .int)] ++ wsX10)
def wsX1_countSign : List Cond := .code yX1_countSign cX1_countSign 4 (some .int) :: ([.fieldLink RX1 15 "LacePillow$Heap" "signs" "[I"] ++ wsX10)
def wsX1_isAs : List Cond := .code yX1_isAs cX1_isAs 3 (some .boolean) :: ([.fieldLink RX1 15 "LacePillow$Heap" "signs" "[I"] ++ wsX10)
def wsX2_firstWord : List Cond := .code yX2_firstWord cX2_firstWord 1 (some (.object "java/lang/String")) :: ([])
def wsJ0_coder_7d493 : List Cond := .code yJ0_coder_7d493 cJ0_coder_7d493 1 (some .byte) :: ([.fieldLink RJ0 38 "java/lang/String" "COMPACT_STRINGS" "Z", .fieldLink RJ0 15 "java/lang/String" "coder" "B"])
def wsJ0_length_8abf5 : List Cond := .code yJ0_length_8abf5 cJ0_length_8abf5 1 (some .int) :: ([.fieldLink RJ0 9 "java/lang/String" "value" "[B", .methodLink RJ0 335 yJ0_coder_7d493, .instanceMethod yJ0_coder_7d493, .selects RJ0 yJ0_coder_7d493 yJ0_coder_7d493, .initialized RJ0, .code yJ0_coder_7d493 cJ0_coder_7d493 1 (some .byte), .fieldLink RJ0 38 "java/lang/String" "COMPACT_STRINGS" "Z", .fieldLink RJ0 15 "java/lang/String" "coder" "B"])
def wsJ0_isLatin1_aae02 : List Cond := .code yJ0_isLatin1_aae02 cJ0_isLatin1_aae02 1 (some .boolean) :: ([.fieldLink RJ0 38 "java/lang/String" "COMPACT_STRINGS" "Z", .fieldLink RJ0 15 "java/lang/String" "coder" "B"])
def wsJ3_checkIndex_8e157 : List Cond := .code yJ3_checkIndex_8e157 cJ3_checkIndex_8e157 3 (some .int) :: ([])
def wsJ0_checkIndex_df160 : List Cond := .code yJ0_checkIndex_df160 cJ0_checkIndex_df160 2 none :: ([.fieldLink RJ0 1053 "jdk/internal/util/Preconditions" "SIOOBE_FORMATTER" "Ljava/util/function/BiFunction;", .methodLink RJ0 1059 yJ3_checkIndex_8e157, .static yJ3_checkIndex_8e157, .initialized RJ3, .code yJ3_checkIndex_8e157 cJ3_checkIndex_8e157 3 (some .int)])
def wsJ1_charAt_3b067 : List Cond := .code yJ1_charAt_3b067 cJ1_charAt_3b067 2 (some .char) :: ([.methodLink RJ1 9 yJ0_checkIndex_df160, .static yJ0_checkIndex_df160, .initialized RJ0, .code yJ0_checkIndex_df160 cJ0_checkIndex_df160 2 none, .fieldLink RJ0 1053 "jdk/internal/util/Preconditions" "SIOOBE_FORMATTER" "Ljava/util/function/BiFunction;", .methodLink RJ0 1059 yJ3_checkIndex_8e157, .static yJ3_checkIndex_8e157, .initialized RJ3, .code yJ3_checkIndex_8e157 cJ3_checkIndex_8e157 3 (some .int)])
def wsJ2_length_9d52b : List Cond := .code yJ2_length_9d52b cJ2_length_9d52b 1 (some .int) :: ([])
def wsJ2_checkIndex_2214a : List Cond := .code yJ2_checkIndex_2214a cJ2_checkIndex_2214a 2 none :: ([.methodLink RJ2 48 yJ2_length_9d52b, .static yJ2_length_9d52b, .initialized RJ2, .code yJ2_length_9d52b cJ2_length_9d52b 1 (some .int), .methodLink RJ2 414 yJ0_checkIndex_df160, .static yJ0_checkIndex_df160, .initialized RJ0, .code yJ0_checkIndex_df160 cJ0_checkIndex_df160 2 none, .fieldLink RJ0 1053 "jdk/internal/util/Preconditions" "SIOOBE_FORMATTER" "Ljava/util/function/BiFunction;", .methodLink RJ0 1059 yJ3_checkIndex_8e157, .static yJ3_checkIndex_8e157, .initialized RJ3, .code yJ3_checkIndex_8e157 cJ3_checkIndex_8e157 3 (some .int)])
def wsJ2_getChar_3b067 : List Cond := .code yJ2_getChar_3b067 cJ2_getChar_3b067 2 (some .char) :: ([.fieldLink RJ2 44 "java/lang/StringUTF16" "$assertionsDisabled" "Z", .fieldLink RJ2 59 "java/lang/StringUTF16" "HI_BYTE_SHIFT" "I", .fieldLink RJ2 63 "java/lang/StringUTF16" "LO_BYTE_SHIFT" "I", .methodLink RJ2 48 yJ2_length_9d52b, .static yJ2_length_9d52b, .initialized RJ2, .code yJ2_length_9d52b cJ2_length_9d52b 1 (some .int)])
def wsJ2_charAt_3b067 : List Cond := .code yJ2_charAt_3b067 cJ2_charAt_3b067 2 (some .char) :: ([.methodLink RJ2 67 yJ2_checkIndex_2214a, .static yJ2_checkIndex_2214a, .initialized RJ2, .code yJ2_checkIndex_2214a cJ2_checkIndex_2214a 2 none, .methodLink RJ2 48 yJ2_length_9d52b, .static yJ2_length_9d52b, .code yJ2_length_9d52b cJ2_length_9d52b 1 (some .int), .methodLink RJ2 414 yJ0_checkIndex_df160, .static yJ0_checkIndex_df160, .initialized RJ0, .code yJ0_checkIndex_df160 cJ0_checkIndex_df160 2 none, .fieldLink RJ0 1053 "jdk/internal/util/Preconditions" "SIOOBE_FORMATTER" "Ljava/util/function/BiFunction;", .methodLink RJ0 1059 yJ3_checkIndex_8e157, .static yJ3_checkIndex_8e157, .initialized RJ3, .code yJ3_checkIndex_8e157 cJ3_checkIndex_8e157 3 (some .int), .methodLink RJ2 71 yJ2_getChar_3b067, .static yJ2_getChar_3b067, .code yJ2_getChar_3b067 cJ2_getChar_3b067 2 (some .char), .fieldLink RJ2 44 "java/lang/StringUTF16" "$assertionsDisabled" "Z", .fieldLink RJ2 59 "java/lang/StringUTF16" "HI_BYTE_SHIFT" "I", .fieldLink RJ2 63 "java/lang/StringUTF16" "LO_BYTE_SHIFT" "I"])
def wsJ0_charAt_5068e_r1 : List Cond := [Cond.fieldLink RJ0 9 "java/lang/String" "value" "[B", Cond.methodLink RJ0 492 yJ0_isLatin1_aae02, Cond.instanceMethod yJ0_isLatin1_aae02, Cond.selects RJ0 yJ0_isLatin1_aae02 yJ0_isLatin1_aae02, Cond.initialized RJ0, Cond.code yJ0_isLatin1_aae02 cJ0_isLatin1_aae02 1 (some .boolean), Cond.fieldLink RJ0 38 "java/lang/String" "COMPACT_STRINGS" "Z", Cond.fieldLink RJ0 15 "java/lang/String" "coder" "B", Cond.methodLink RJ0 495 yJ1_charAt_3b067, Cond.static yJ1_charAt_3b067, Cond.initialized RJ1, Cond.code yJ1_charAt_3b067 cJ1_charAt_3b067 2 (some .char), Cond.methodLink RJ1 9 yJ0_checkIndex_df160, Cond.static yJ0_checkIndex_df160, Cond.code yJ0_checkIndex_df160 cJ0_checkIndex_df160 2 none, Cond.fieldLink RJ0 1053 "jdk/internal/util/Preconditions" "SIOOBE_FORMATTER" "Ljava/util/function/BiFunction;", Cond.methodLink RJ0 1059 yJ3_checkIndex_8e157, Cond.static yJ3_checkIndex_8e157, Cond.initialized RJ3, Cond.code yJ3_checkIndex_8e157 cJ3_checkIndex_8e157 3 (some .int), Cond.methodLink RJ0 498 yJ2_charAt_3b067, Cond.static yJ2_charAt_3b067, Cond.initialized RJ2, Cond.code yJ2_charAt_3b067 cJ2_charAt_3b067 2 (some .char)]
def wsJ0_charAt_5068e_r2 : List Cond := [Cond.methodLink RJ2 67 yJ2_checkIndex_2214a, Cond.static yJ2_checkIndex_2214a, Cond.code yJ2_checkIndex_2214a cJ2_checkIndex_2214a 2 none, Cond.methodLink RJ2 48 yJ2_length_9d52b, Cond.static yJ2_length_9d52b, Cond.code yJ2_length_9d52b cJ2_length_9d52b 1 (some .int), Cond.methodLink RJ2 414 yJ0_checkIndex_df160, Cond.methodLink RJ2 71 yJ2_getChar_3b067, Cond.static yJ2_getChar_3b067, Cond.code yJ2_getChar_3b067 cJ2_getChar_3b067 2 (some .char), Cond.fieldLink RJ2 44 "java/lang/StringUTF16" "$assertionsDisabled" "Z", Cond.fieldLink RJ2 59 "java/lang/StringUTF16" "HI_BYTE_SHIFT" "I", Cond.fieldLink RJ2 63 "java/lang/StringUTF16" "LO_BYTE_SHIFT" "I"]
def wsJ0_charAt_5068e : List Cond := .code yJ0_charAt_5068e cJ0_charAt_5068e 2 (some .char) :: ((wsJ0_charAt_5068e_r1 ++ wsJ0_charAt_5068e_r2))
def wsX2_init_r1 : List Cond := [Cond.methodLink RX2 3 objectInit, Cond.instanceMethod objectInit, Cond.code objectInit ⟨#[0xb1]⟩ 1 none, Cond.fieldLink RX2 9 "LacePillow$Plan" "pairs" "I", Cond.arrayClass .int, Cond.fieldLink RX2 15 "LacePillow$Plan" "cells" "[I", Cond.fieldLink RX2 19 "LacePillow$Plan" "letters" "[I", Cond.fieldLink RX2 22 "LacePillow$Plan" "lengths" "[I", Cond.fieldLink RX2 25 "LacePillow$Plan" "wound" "[I", Cond.fieldLink RX2 28 "LacePillow$Plan" "work" "[I", Cond.fieldLink RX2 31 "LacePillow$Plan" "worked" "I", Cond.methodLink RX2 34 yJ7_fill_53178, Cond.static yJ7_fill_53178, Cond.initialized RJ7, Cond.code yJ7_fill_53178 cJ7_fill_53178 4 none, Cond.methodLink RX2 40 yX2_firstWord, Cond.static yX2_firstWord, Cond.initialized RX2, Cond.code yX2_firstWord cX2_firstWord 1 (some (.object "java/lang/String")), Cond.methodLink RX2 44 yJ0_length_8abf5, Cond.instanceMethod yJ0_length_8abf5, Cond.selects RJ0 yJ0_length_8abf5 yJ0_length_8abf5, Cond.initialized RJ0, Cond.code yJ0_length_8abf5 cJ0_length_8abf5 1 (some .int)]
def wsX2_init_r2 : List Cond := [Cond.fieldLink RJ0 9 "java/lang/String" "value" "[B", Cond.methodLink RJ0 335 yJ0_coder_7d493, Cond.instanceMethod yJ0_coder_7d493, Cond.selects RJ0 yJ0_coder_7d493 yJ0_coder_7d493, Cond.code yJ0_coder_7d493 cJ0_coder_7d493 1 (some .byte), Cond.fieldLink RJ0 38 "java/lang/String" "COMPACT_STRINGS" "Z", Cond.fieldLink RJ0 15 "java/lang/String" "coder" "B", Cond.methodLink RX2 50 yJ0_charAt_5068e, Cond.instanceMethod yJ0_charAt_5068e, Cond.selects RJ0 yJ0_charAt_5068e yJ0_charAt_5068e, Cond.code yJ0_charAt_5068e cJ0_charAt_5068e 2 (some .char), Cond.methodLink RJ0 492 yJ0_isLatin1_aae02, Cond.instanceMethod yJ0_isLatin1_aae02, Cond.selects RJ0 yJ0_isLatin1_aae02 yJ0_isLatin1_aae02, Cond.code yJ0_isLatin1_aae02 cJ0_isLatin1_aae02 1 (some .boolean), Cond.methodLink RJ0 495 yJ1_charAt_3b067, Cond.static yJ1_charAt_3b067, Cond.initialized RJ1, Cond.code yJ1_charAt_3b067 cJ1_charAt_3b067 2 (some .char), Cond.methodLink RJ1 9 yJ0_checkIndex_df160, Cond.static yJ0_checkIndex_df160, Cond.code yJ0_checkIndex_df160 cJ0_checkIndex_df160 2 none, Cond.fieldLink RJ0 1053 "jdk/internal/util/Preconditions" "SIOOBE_FORMATTER" "Ljava/util/function/BiFunction;", Cond.methodLink RJ0 1059 yJ3_checkIndex_8e157]
def wsX2_init_r3 : List Cond := [Cond.static yJ3_checkIndex_8e157, Cond.initialized RJ3, Cond.code yJ3_checkIndex_8e157 cJ3_checkIndex_8e157 3 (some .int), Cond.methodLink RJ0 498 yJ2_charAt_3b067, Cond.static yJ2_charAt_3b067, Cond.initialized RJ2, Cond.code yJ2_charAt_3b067 cJ2_charAt_3b067 2 (some .char), Cond.methodLink RJ2 67 yJ2_checkIndex_2214a, Cond.static yJ2_checkIndex_2214a, Cond.code yJ2_checkIndex_2214a cJ2_checkIndex_2214a 2 none, Cond.methodLink RJ2 48 yJ2_length_9d52b, Cond.static yJ2_length_9d52b, Cond.code yJ2_length_9d52b cJ2_length_9d52b 1 (some .int), Cond.methodLink RJ2 414 yJ0_checkIndex_df160, Cond.methodLink RJ2 71 yJ2_getChar_3b067, Cond.static yJ2_getChar_3b067, Cond.code yJ2_getChar_3b067 cJ2_getChar_3b067 2 (some .char), Cond.fieldLink RJ2 44 "java/lang/StringUTF16" "$assertionsDisabled" "Z", Cond.fieldLink RJ2 59 "java/lang/StringUTF16" "HI_BYTE_SHIFT" "I", Cond.fieldLink RJ2 63 "java/lang/StringUTF16" "LO_BYTE_SHIFT" "I"]
def wsX2_init : List Cond := .code yX2_init cX2_init 4 none :: ((wsX2_init_r1 ++ (wsX2_init_r2 ++ wsX2_init_r3)) ++ wsX20)
def wsX2_copyFrom : List Cond := .code yX2_copyFrom cX2_copyFrom 2 none :: ([.fieldLink RX2 9 "LacePillow$Plan" "pairs" "I", .fieldLink RX2 15 "LacePillow$Plan" "cells" "[I", .methodLink RX2 66 arraycopyName, .native arraycopyName, .static arraycopyName, .initialized "java/lang/System", .fieldLink RX2 19 "LacePillow$Plan" "letters" "[I", .fieldLink RX2 22 "LacePillow$Plan" "lengths" "[I", .fieldLink RX2 25 "LacePillow$Plan" "wound" "[I", .fieldLink RX2 28 "LacePillow$Plan" "work" "[I", .fieldLink RX2 31 "LacePillow$Plan" "worked" "I"] ++ wsX20)
def wsX2_crossingsOf : List Cond := .code yX2_crossingsOf cX2_crossingsOf 5 (some .int) :: ([.fieldLink RX2 22 "LacePillow$Plan" "lengths" "[I", .fieldLink RX2 19 "LacePillow$Plan" "letters" "[I"] ++ wsX20)
def wsX2_repeatsBy : List Cond := .code yX2_repeatsBy cX2_repeatsBy 5 (some .boolean) :: ([.fieldLink RX2 15 "LacePillow$Plan" "cells" "[I"] ++ wsX20)
def wsX2_fitsCell : List Cond := .code yX2_fitsCell cX2_fitsCell 3 (some .boolean) :: ([.constantLong RX2 85 (-2)])
def wsX2_fits : List Cond := .code yX2_fits cX2_fits 8 (some .boolean) :: ([.fieldLink RX2 9 "LacePillow$Plan" "pairs" "I", .fieldLink RX2 72 "LacePillow$Sheet" "size" "I", .fieldLink RX2 77 "LacePillow$Sheet" "numbers" "[J", .fieldLink RX2 15 "LacePillow$Plan" "cells" "[I", .methodLink RX2 81 yX2_fitsCell, .static yX2_fitsCell, .initialized RX2, .code yX2_fitsCell cX2_fitsCell 3 (some .boolean), .constantLong RX2 85 (-2)] ++ wsX20 ++ wsX30)
def wsX3_init : List Cond := .code yX3_init cX3_init 1 none :: ([.methodLink RX3 3 objectInit, .instanceMethod objectInit, .code objectInit ⟨#[0xb1]⟩ 1 none, .fieldLink RX3 9 "LacePillow$Sheet" "sort" "I", .fieldLink RX3 15 "LacePillow$Sheet" "size" "I", .arrayClass .long, .fieldLink RX3 18 "LacePillow$Sheet" "numbers" "[J"] ++ wsX30)
def wsJ7_fill_d0a16 : List Cond := .code yJ7_fill_d0a16 cJ7_fill_d0a16 5 none :: ([])
def wsX3_begin : List Cond := .code yX3_begin cX3_begin 3 none :: ([.fieldLink RX3 9 "LacePillow$Sheet" "sort" "I", .fieldLink RX3 15 "LacePillow$Sheet" "size" "I", .fieldLink RX3 18 "LacePillow$Sheet" "numbers" "[J", .methodLink RX3 22 yJ7_fill_d0a16, .static yJ7_fill_d0a16, .initialized RJ7, .code yJ7_fill_d0a16 cJ7_fill_d0a16 5 none] ++ wsX30)
def wsX3_has : List Cond := .code yX3_has cX3_has 2 (some .boolean) :: ([.fieldLink RX3 9 "LacePillow$Sheet" "sort" "I", .fieldLink RX3 15 "LacePillow$Sheet" "size" "I"] ++ wsX30)
def wsX3_cut : List Cond := .code yX3_cut cX3_cut 3 (some .long) :: ([.fieldLink RX3 9 "LacePillow$Sheet" "sort" "I"] ++ wsX30)
def wsX4_init : List Cond := .code yX4_init cX4_init 1 none :: ([.methodLink RX4 3 objectInit, .instanceMethod objectInit, .code objectInit ⟨#[0xb1]⟩ 1 none, .arrayClass .int, .fieldLink RX4 9 "LacePillow$Tape" "bytes" "[I", .fieldLink RX4 15 "LacePillow$Tape" "size" "I"] ++ wsX40)
def wsX4_prickingFault : List Cond := .code yX4_prickingFault cX4_prickingFault 8 (some .int) :: ([.fieldLink RX4 15 "LacePillow$Tape" "size" "I", .fieldLink RX4 9 "LacePillow$Tape" "bytes" "[I"] ++ wsX40)
def wsX4_wordFault : List Cond := .code yX4_wordFault cX4_wordFault 3 (some .int) :: ([.fieldLink RX4 15 "LacePillow$Tape" "size" "I", .fieldLink RX4 9 "LacePillow$Tape" "bytes" "[I"] ++ wsX40)
def wsX4_prickInto : List Cond := .code yX4_prickInto cX4_prickInto 5 none :: ([.fieldLink RX4 19 "LacePillow$Plan" "cells" "[I", .fieldLink RX4 15 "LacePillow$Tape" "size" "I", .fieldLink RX4 9 "LacePillow$Tape" "bytes" "[I", .methodLink RX4 24 yJ7_fill_53178, .static yJ7_fill_53178, .initialized RJ7, .code yJ7_fill_53178 cJ7_fill_53178 4 none] ++ wsX20 ++ wsX40)
def wsX4_spellInto : List Cond := .code yX4_spellInto cX4_spellInto 4 none :: ([.fieldLink RX4 15 "LacePillow$Tape" "size" "I", .fieldLink RX4 30 "LacePillow$Plan" "letters" "[I", .fieldLink RX4 9 "LacePillow$Tape" "bytes" "[I", .fieldLink RX4 33 "LacePillow$Plan" "lengths" "[I", .methodLink RX4 36 Lib.Math.min.name, .static Lib.Math.min.name, .initialized "java/lang/Math", .code Lib.Math.min.name Lib.Math.min.code 2 (some .int)] ++ wsX40 ++ wsX20)
def wsX5_init : List Cond := .code yX5_init cX5_init 1 none :: ([.methodLink RX5 3 objectInit, .instanceMethod objectInit, .code objectInit ⟨#[0xb1]⟩ 1 none, .fieldLink RX5 9 "LacePillow$Ways" "known" "Z", .arrayClass .long, .fieldLink RX5 15 "LacePillow$Ways" "counts" "[J", .arrayClass .int, .fieldLink RX5 19 "LacePillow$Ways" "lengths" "[I", .fieldLink RX5 23 "LacePillow$Ways" "strides" "[I", .fieldLink RX5 26 "LacePillow$Ways" "stitches" "[I", .fieldLink RX5 29 "LacePillow$Ways" "bits" "[J"] ++ wsX50)
def wsX5_sortIntoLines : List Cond := .code yX5_sortIntoLines cX5_sortIntoLines 5 none :: ([.fieldLink RX5 19 "LacePillow$Ways" "lengths" "[I", .fieldLink RX5 29 "LacePillow$Ways" "bits" "[J", .fieldLink RX5 49 "LacePillow$Ground" "size" "I", .fieldLink RX5 55 "LacePillow$Ground" "gaps" "[I", .fieldLink RX5 26 "LacePillow$Ways" "stitches" "[I", .fieldLink RX5 23 "LacePillow$Ways" "strides" "[I", .methodLink RX5 40 yJ7_fill_53178, .static yJ7_fill_53178, .initialized RJ7, .code yJ7_fill_53178 cJ7_fill_53178 4 none, .methodLink RX5 46 yJ7_fill_d0a16, .static yJ7_fill_d0a16, .code yJ7_fill_d0a16 cJ7_fill_d0a16 5 none] ++ wsX50 ++ wsX00)
def wsX5_bitsOf : List Cond := .code yX5_bitsOf cX5_bitsOf 3 (some .long) :: ([.fieldLink RX5 29 "LacePillow$Ways" "bits" "[J"] ++ wsX50)
def wsJ13_bitCount_95d88 : List Cond := .code yJ13_bitCount_95d88 cJ13_bitCount_95d88 2 (some .int) :: ([.constantLong RJ13 314 (6148914691236517205), .constantLong RJ13 316 (3689348814741910323), .constantLong RJ13 318 (1085102592571150095)])
def wsX5_countOf : List Cond := .code yX5_countOf cX5_countOf 2 (some .long) :: ([.fieldLink RX5 15 "LacePillow$Ways" "counts" "[J"] ++ wsX50)
def wsX5_onward : List Cond := .code yX5_onward cX5_onward 7 (some .long) :: ([.fieldLink RX5 19 "LacePillow$Ways" "lengths" "[I", .fieldLink RX5 26 "LacePillow$Ways" "stitches" "[I", .fieldLink RX5 23 "LacePillow$Ways" "strides" "[I", .methodLink RX5 72 yX0_isFree, .instanceMethod yX0_isFree, .selects RX0 yX0_isFree yX0_isFree, .initialized RX0, .code yX0_isFree cX0_isFree 4 (some .boolean), .fieldLink RX0 31 "LacePillow$Ground" "before" "[J", .constantLong RX0 60 (-1), .methodLink RX5 76 yX5_countOf, .instanceMethod yX5_countOf, .selects RX5 yX5_countOf yX5_countOf, .initialized RX5, .code yX5_countOf cX5_countOf 2 (some .long), .fieldLink RX5 15 "LacePillow$Ways" "counts" "[J"] ++ wsX50 ++ wsX00)
def wsX5_reckonState_r1 : List Cond := [Cond.fieldLink RX5 23 "LacePillow$Ways" "strides" "[I", Cond.fieldLink RX5 49 "LacePillow$Ground" "size" "I", Cond.fieldLink RX5 15 "LacePillow$Ways" "counts" "[J", Cond.methodLink RX5 58 yX5_bitsOf, Cond.instanceMethod yX5_bitsOf, Cond.selects RX5 yX5_bitsOf yX5_bitsOf, Cond.initialized RX5, Cond.code yX5_bitsOf cX5_bitsOf 3 (some .long), Cond.fieldLink RX5 29 "LacePillow$Ways" "bits" "[J", Cond.methodLink RX5 62 yJ13_bitCount_95d88, Cond.static yJ13_bitCount_95d88, Cond.initialized RJ13, Cond.code yJ13_bitCount_95d88 cJ13_bitCount_95d88 2 (some .int), Cond.constantLong RJ13 314 (6148914691236517205), Cond.constantLong RJ13 316 (3689348814741910323), Cond.constantLong RJ13 318 (1085102592571150095), Cond.methodLink RX5 68 yX5_onward, Cond.instanceMethod yX5_onward, Cond.selects RX5 yX5_onward yX5_onward, Cond.code yX5_onward cX5_onward 7 (some .long), Cond.fieldLink RX5 19 "LacePillow$Ways" "lengths" "[I", Cond.fieldLink RX5 26 "LacePillow$Ways" "stitches" "[I", Cond.methodLink RX5 72 yX0_isFree, Cond.instanceMethod yX0_isFree]
def wsX5_reckonState_r2 : List Cond := [Cond.selects RX0 yX0_isFree yX0_isFree, Cond.initialized RX0, Cond.code yX0_isFree cX0_isFree 4 (some .boolean), Cond.fieldLink RX0 31 "LacePillow$Ground" "before" "[J", Cond.constantLong RX0 60 (-1), Cond.methodLink RX5 76 yX5_countOf, Cond.instanceMethod yX5_countOf, Cond.selects RX5 yX5_countOf yX5_countOf, Cond.code yX5_countOf cX5_countOf 2 (some .long)]
def wsX5_reckonState : List Cond := .code yX5_reckonState cX5_reckonState 9 none :: ((wsX5_reckonState_r1 ++ wsX5_reckonState_r2) ++ wsX50 ++ wsX00)
def wsX5_reckon_r1 : List Cond := [Cond.fieldLink RX5 9 "LacePillow$Ways" "known" "Z", Cond.fieldLink RX5 19 "LacePillow$Ways" "lengths" "[I", Cond.methodLink RX5 32 yX5_sortIntoLines, Cond.instanceMethod yX5_sortIntoLines, Cond.selects RX5 yX5_sortIntoLines yX5_sortIntoLines, Cond.initialized RX5, Cond.code yX5_sortIntoLines cX5_sortIntoLines 5 none, Cond.fieldLink RX5 29 "LacePillow$Ways" "bits" "[J", Cond.fieldLink RX5 49 "LacePillow$Ground" "size" "I", Cond.fieldLink RX5 55 "LacePillow$Ground" "gaps" "[I", Cond.fieldLink RX5 26 "LacePillow$Ways" "stitches" "[I", Cond.fieldLink RX5 23 "LacePillow$Ways" "strides" "[I", Cond.methodLink RX5 40 yJ7_fill_53178, Cond.static yJ7_fill_53178, Cond.initialized RJ7, Cond.code yJ7_fill_53178 cJ7_fill_53178 4 none, Cond.methodLink RX5 46 yJ7_fill_d0a16, Cond.static yJ7_fill_d0a16, Cond.code yJ7_fill_d0a16 cJ7_fill_d0a16 5 none, Cond.methodLink RX5 36 yX5_reckonState, Cond.instanceMethod yX5_reckonState, Cond.selects RX5 yX5_reckonState yX5_reckonState, Cond.code yX5_reckonState cX5_reckonState 9 none, Cond.fieldLink RX5 15 "LacePillow$Ways" "counts" "[J"]
def wsX5_reckon_r2 : List Cond := [Cond.methodLink RX5 58 yX5_bitsOf, Cond.instanceMethod yX5_bitsOf, Cond.selects RX5 yX5_bitsOf yX5_bitsOf, Cond.code yX5_bitsOf cX5_bitsOf 3 (some .long), Cond.methodLink RX5 62 yJ13_bitCount_95d88, Cond.static yJ13_bitCount_95d88, Cond.initialized RJ13, Cond.code yJ13_bitCount_95d88 cJ13_bitCount_95d88 2 (some .int), Cond.constantLong RJ13 314 (6148914691236517205), Cond.constantLong RJ13 316 (3689348814741910323), Cond.constantLong RJ13 318 (1085102592571150095), Cond.methodLink RX5 68 yX5_onward, Cond.instanceMethod yX5_onward, Cond.selects RX5 yX5_onward yX5_onward, Cond.code yX5_onward cX5_onward 7 (some .long), Cond.methodLink RX5 72 yX0_isFree, Cond.instanceMethod yX0_isFree, Cond.selects RX0 yX0_isFree yX0_isFree, Cond.initialized RX0, Cond.code yX0_isFree cX0_isFree 4 (some .boolean), Cond.fieldLink RX0 31 "LacePillow$Ground" "before" "[J", Cond.constantLong RX0 60 (-1), Cond.methodLink RX5 76 yX5_countOf, Cond.instanceMethod yX5_countOf]
def wsX5_reckon_r3 : List Cond := [Cond.selects RX5 yX5_countOf yX5_countOf, Cond.code yX5_countOf cX5_countOf 2 (some .long)]
def wsX5_reckon : List Cond := .code yX5_reckon cX5_reckon 6 none :: ((wsX5_reckon_r1 ++ (wsX5_reckon_r2 ++ wsX5_reckon_r3)) ++ wsX50 ++ wsX00)
def wsX5_strideOf : List Cond := .code yX5_strideOf cX5_strideOf 3 (some .int) :: ([.fieldLink RX5 23 "LacePillow$Ways" "strides" "[I", .fieldLink RX5 55 "LacePillow$Ground" "gaps" "[I"] ++ wsX50 ++ wsX00)
def wsX5_stitchOf : List Cond := .code yX5_stitchOf cX5_stitchOf 15 (some .int) :: ([.fieldLink RX5 49 "LacePillow$Ground" "size" "I", .methodLink RX5 72 yX0_isFree, .instanceMethod yX0_isFree, .selects RX0 yX0_isFree yX0_isFree, .initialized RX0, .code yX0_isFree cX0_isFree 4 (some .boolean), .fieldLink RX0 31 "LacePillow$Ground" "before" "[J", .constantLong RX0 60 (-1), .methodLink RX5 80 yX5_strideOf, .instanceMethod yX5_strideOf, .selects RX5 yX5_strideOf yX5_strideOf, .initialized RX5, .code yX5_strideOf cX5_strideOf 3 (some .int), .fieldLink RX5 23 "LacePillow$Ways" "strides" "[I", .fieldLink RX5 55 "LacePillow$Ground" "gaps" "[I", .methodLink RX5 76 yX5_countOf, .instanceMethod yX5_countOf, .selects RX5 yX5_countOf yX5_countOf, .code yX5_countOf cX5_countOf 2 (some .long), .fieldLink RX5 15 "LacePillow$Ways" "counts" "[J"] ++ wsX00 ++ wsX50)
def wsX5_numberOf : List Cond := .code yX5_numberOf cX5_numberOf 13 (some .long) :: ([.fieldLink RX5 84 "LacePillow$Sheet" "size" "I", .fieldLink RX5 49 "LacePillow$Ground" "size" "I", .constantLong RX5 87 (-1), .fieldLink RX5 89 "LacePillow$Sheet" "numbers" "[J", .methodLink RX5 72 yX0_isFree, .instanceMethod yX0_isFree, .selects RX0 yX0_isFree yX0_isFree, .initialized RX0, .code yX0_isFree cX0_isFree 4 (some .boolean), .fieldLink RX0 31 "LacePillow$Ground" "before" "[J", .constantLong RX0 60 (-1), .methodLink RX5 80 yX5_strideOf, .instanceMethod yX5_strideOf, .selects RX5 yX5_strideOf yX5_strideOf, .initialized RX5, .code yX5_strideOf cX5_strideOf 3 (some .int), .fieldLink RX5 23 "LacePillow$Ways" "strides" "[I", .fieldLink RX5 55 "LacePillow$Ground" "gaps" "[I", .methodLink RX5 76 yX5_countOf, .instanceMethod yX5_countOf, .selects RX5 yX5_countOf yX5_countOf, .code yX5_countOf cX5_countOf 2 (some .long), .fieldLink RX5 15 "LacePillow$Ways" "counts" "[J"] ++ wsX30 ++ wsX00 ++ wsX50)
def wsX6_sendHome : List Cond := .code yX6_sendHome cX6_sendHome 2 none :: ([.fieldLink RX6 9 "LacePillow$Weave" "threads" "[I", .fieldLink RX6 15 "LacePillow$Weave" "places" "[I"] ++ wsX60)
def wsX6_init_r1 : List Cond := [Cond.methodLink RX6 3 objectInit, Cond.instanceMethod objectInit, Cond.code objectInit ⟨#[0xb1]⟩ 1 none, Cond.arrayClass .int, Cond.fieldLink RX6 9 "LacePillow$Weave" "threads" "[I", Cond.fieldLink RX6 15 "LacePillow$Weave" "places" "[I", Cond.fieldLink RX6 18 "LacePillow$Weave" "used" "[I", Cond.fieldLink RX6 21 "LacePillow$Weave" "overs" "[I", Cond.fieldLink RX6 24 "LacePillow$Weave" "unders" "[I", Cond.fieldLink RX6 27 "LacePillow$Weave" "falses" "[I", Cond.fieldLink RX6 30 "LacePillow$Weave" "sides" "[I", Cond.fieldLink RX6 33 "LacePillow$Weave" "passes" "[I", Cond.classLink RX6 36 RX1, Cond.instantiable RX1 3, Cond.initialized RX1, Cond.fieldLink RX6 39 "LacePillow$Weave" "heap" "LLacePillow$Heap;", Cond.fieldLink RX6 43 "LacePillow$Weave" "crossings" "I", Cond.methodLink RX6 38 yX1_init, Cond.instanceMethod yX1_init, Cond.code yX1_init cX1_init 1 none, Cond.methodLink RX1 3 objectInit, Cond.fieldLink RX1 9 "LacePillow$Heap" "size" "I", Cond.fieldLink RX1 15 "LacePillow$Heap" "signs" "[I", Cond.fieldLink RX1 19 "LacePillow$Heap" "tops" "[I"]
def wsX6_init_r2 : List Cond := [Cond.methodLink RX1 22 yJ7_fill_53178, Cond.static yJ7_fill_53178, Cond.initialized RJ7, Cond.code yJ7_fill_53178 cJ7_fill_53178 4 none, Cond.methodLink RX6 47 yX6_sendHome, Cond.instanceMethod yX6_sendHome, Cond.selects RX6 yX6_sendHome yX6_sendHome, Cond.initialized RX6, Cond.code yX6_sendHome cX6_sendHome 2 none, Cond.methodLink RX6 50 yJ7_fill_53178]
def wsX6_init : List Cond := .code yX6_init cX6_init 1 none :: ((wsX6_init_r1 ++ wsX6_init_r2) ++ wsX60 ++ wsX10)
def wsX6_clear_r1 : List Cond := [Cond.fieldLink RX6 18 "LacePillow$Weave" "used" "[I", Cond.fieldLink RX6 21 "LacePillow$Weave" "overs" "[I", Cond.fieldLink RX6 24 "LacePillow$Weave" "unders" "[I", Cond.fieldLink RX6 27 "LacePillow$Weave" "falses" "[I", Cond.fieldLink RX6 30 "LacePillow$Weave" "sides" "[I", Cond.fieldLink RX6 33 "LacePillow$Weave" "passes" "[I", Cond.fieldLink RX6 39 "LacePillow$Weave" "heap" "LLacePillow$Heap;", Cond.fieldLink RX6 43 "LacePillow$Weave" "crossings" "I", Cond.methodLink RX6 47 yX6_sendHome, Cond.instanceMethod yX6_sendHome, Cond.selects RX6 yX6_sendHome yX6_sendHome, Cond.initialized RX6, Cond.code yX6_sendHome cX6_sendHome 2 none, Cond.fieldLink RX6 9 "LacePillow$Weave" "threads" "[I", Cond.fieldLink RX6 15 "LacePillow$Weave" "places" "[I", Cond.methodLink RX6 50 yJ7_fill_53178, Cond.static yJ7_fill_53178, Cond.initialized RJ7, Cond.code yJ7_fill_53178 cJ7_fill_53178 4 none, Cond.methodLink RX6 56 yX1_clear, Cond.instanceMethod yX1_clear, Cond.selects RX1 yX1_clear yX1_clear, Cond.initialized RX1, Cond.code yX1_clear cX1_clear 1 none]
def wsX6_clear_r2 : List Cond := [Cond.fieldLink RX1 9 "LacePillow$Heap" "size" "I", Cond.fieldLink RX1 15 "LacePillow$Heap" "signs" "[I", Cond.fieldLink RX1 19 "LacePillow$Heap" "tops" "[I", Cond.methodLink RX1 22 yJ7_fill_53178]
def wsX6_clear : List Cond := .code yX6_clear cX6_clear 1 none :: ((wsX6_clear_r1 ++ wsX6_clear_r2) ++ wsX60 ++ wsX10)
def wsX6_noteSide : List Cond := .code yX6_noteSide cX6_noteSide 3 none :: ([.fieldLink RX6 30 "LacePillow$Weave" "sides" "[I", .fieldLink RX6 27 "LacePillow$Weave" "falses" "[I", .fieldLink RX6 21 "LacePillow$Weave" "overs" "[I", .fieldLink RX6 24 "LacePillow$Weave" "unders" "[I"] ++ wsX60)
def wsX6_pass : List Cond := .code yX6_pass cX6_pass 3 none :: ([.fieldLink RX6 21 "LacePillow$Weave" "overs" "[I", .fieldLink RX6 24 "LacePillow$Weave" "unders" "[I", .fieldLink RX6 18 "LacePillow$Weave" "used" "[I", .fieldLink RX6 33 "LacePillow$Weave" "passes" "[I", .methodLink RX6 77 yX6_noteSide, .instanceMethod yX6_noteSide, .selects RX6 yX6_noteSide yX6_noteSide, .initialized RX6, .code yX6_noteSide cX6_noteSide 3 none, .fieldLink RX6 30 "LacePillow$Weave" "sides" "[I", .fieldLink RX6 27 "LacePillow$Weave" "falses" "[I"] ++ wsX60)
def wsX6_cross_r1 : List Cond := [Cond.fieldLink RX6 9 "LacePillow$Weave" "threads" "[I", Cond.fieldLink RX6 15 "LacePillow$Weave" "places" "[I", Cond.fieldLink RX6 39 "LacePillow$Weave" "heap" "LLacePillow$Heap;", Cond.fieldLink RX6 43 "LacePillow$Weave" "crossings" "I", Cond.methodLink RX6 71 yX6_pass, Cond.instanceMethod yX6_pass, Cond.selects RX6 yX6_pass yX6_pass, Cond.initialized RX6, Cond.code yX6_pass cX6_pass 3 none, Cond.fieldLink RX6 21 "LacePillow$Weave" "overs" "[I", Cond.fieldLink RX6 24 "LacePillow$Weave" "unders" "[I", Cond.fieldLink RX6 18 "LacePillow$Weave" "used" "[I", Cond.fieldLink RX6 33 "LacePillow$Weave" "passes" "[I", Cond.methodLink RX6 77 yX6_noteSide, Cond.instanceMethod yX6_noteSide, Cond.selects RX6 yX6_noteSide yX6_noteSide, Cond.code yX6_noteSide cX6_noteSide 3 none, Cond.fieldLink RX6 30 "LacePillow$Weave" "sides" "[I", Cond.fieldLink RX6 27 "LacePillow$Weave" "falses" "[I", Cond.methodLink RX6 74 yX1_add, Cond.instanceMethod yX1_add, Cond.selects RX1 yX1_add yX1_add, Cond.initialized RX1, Cond.code yX1_add cX1_add 6 none]
def wsX6_cross_r2 : List Cond := [Cond.fieldLink RX1 19 "LacePillow$Heap" "tops" "[I", Cond.methodLink RX1 34 Lib.Math.max.name, Cond.static Lib.Math.max.name, Cond.initialized "java/lang/Math", Cond.code Lib.Math.max.name Lib.Math.max.code 2 (some .int), Cond.fieldLink RX1 15 "LacePillow$Heap" "signs" "[I", Cond.fieldLink RX1 9 "LacePillow$Heap" "size" "I", Cond.methodLink RX1 40 yX1_takeTop, Cond.instanceMethod yX1_takeTop, Cond.selects RX1 yX1_takeTop yX1_takeTop, Cond.code yX1_takeTop cX1_takeTop 4 none]
def wsX6_cross : List Cond := .code yX6_cross cX6_cross 5 none :: ((wsX6_cross_r1 ++ wsX6_cross_r2) ++ wsX60 ++ wsX10)
def wsX6_make_r1 : List Cond := [Cond.fieldLink RX6 18 "LacePillow$Weave" "used" "[I", Cond.fieldLink RX6 9 "LacePillow$Weave" "threads" "[I", Cond.fieldLink RX6 59 "LacePillow$Plan" "lengths" "[I", Cond.fieldLink RX6 64 "LacePillow$Plan" "letters" "[I", Cond.methodLink RX6 67 yX6_cross, Cond.instanceMethod yX6_cross, Cond.selects RX6 yX6_cross yX6_cross, Cond.initialized RX6, Cond.code yX6_cross cX6_cross 5 none, Cond.fieldLink RX6 15 "LacePillow$Weave" "places" "[I", Cond.fieldLink RX6 39 "LacePillow$Weave" "heap" "LLacePillow$Heap;", Cond.fieldLink RX6 43 "LacePillow$Weave" "crossings" "I", Cond.methodLink RX6 71 yX6_pass, Cond.instanceMethod yX6_pass, Cond.selects RX6 yX6_pass yX6_pass, Cond.code yX6_pass cX6_pass 3 none, Cond.fieldLink RX6 21 "LacePillow$Weave" "overs" "[I", Cond.fieldLink RX6 24 "LacePillow$Weave" "unders" "[I", Cond.fieldLink RX6 33 "LacePillow$Weave" "passes" "[I", Cond.methodLink RX6 77 yX6_noteSide, Cond.instanceMethod yX6_noteSide, Cond.selects RX6 yX6_noteSide yX6_noteSide, Cond.code yX6_noteSide cX6_noteSide 3 none, Cond.fieldLink RX6 30 "LacePillow$Weave" "sides" "[I"]
def wsX6_make_r2 : List Cond := [Cond.fieldLink RX6 27 "LacePillow$Weave" "falses" "[I", Cond.methodLink RX6 74 yX1_add, Cond.instanceMethod yX1_add, Cond.selects RX1 yX1_add yX1_add, Cond.initialized RX1, Cond.code yX1_add cX1_add 6 none, Cond.fieldLink RX1 19 "LacePillow$Heap" "tops" "[I", Cond.methodLink RX1 34 Lib.Math.max.name, Cond.static Lib.Math.max.name, Cond.initialized "java/lang/Math", Cond.code Lib.Math.max.name Lib.Math.max.code 2 (some .int), Cond.fieldLink RX1 15 "LacePillow$Heap" "signs" "[I", Cond.fieldLink RX1 9 "LacePillow$Heap" "size" "I", Cond.methodLink RX1 40 yX1_takeTop, Cond.instanceMethod yX1_takeTop, Cond.selects RX1 yX1_takeTop yX1_takeTop, Cond.code yX1_takeTop cX1_takeTop 4 none]
def wsX6_make : List Cond := .code yX6_make cX6_make 7 none :: ((wsX6_make_r1 ++ wsX6_make_r2) ++ wsX60 ++ wsX20 ++ wsX10)
def wsX6_haveCrossed : List Cond := .code yX6_haveCrossed cX6_haveCrossed 3 (some .boolean) :: ([.fieldLink RX6 33 "LacePillow$Weave" "passes" "[I"] ++ wsX60)
def wsX6_leastLacking : List Cond := .code yX6_leastLacking cX6_leastLacking 3 (some .int) :: ([.fieldLink RX6 18 "LacePillow$Weave" "used" "[I"] ++ wsX60)
def wsX6_countAtHome : List Cond := .code yX6_countAtHome cX6_countAtHome 4 (some .int) :: ([.fieldLink RX6 15 "LacePillow$Weave" "places" "[I"] ++ wsX60)
def wsX6_turnsOf : List Cond := .code yX6_turnsOf cX6_turnsOf 4 (some .int) :: ([.fieldLink RX6 15 "LacePillow$Weave" "places" "[I"] ++ wsX60)
def wsX6_leastCommonMultiple : List Cond := .code yX6_leastCommonMultiple cX6_leastCommonMultiple 4 (some .long) :: ([])
def wsX6_commonTurns : List Cond := .code yX6_commonTurns cX6_commonTurns 4 (some .long) :: ([.methodLink RX6 80 yX6_turnsOf, .instanceMethod yX6_turnsOf, .selects RX6 yX6_turnsOf yX6_turnsOf, .initialized RX6, .code yX6_turnsOf cX6_turnsOf 4 (some .int), .fieldLink RX6 15 "LacePillow$Weave" "places" "[I", .methodLink RX6 84 yX6_leastCommonMultiple, .static yX6_leastCommonMultiple, .code yX6_leastCommonMultiple cX6_leastCommonMultiple 4 (some .long)] ++ wsX60)
def wsX7_init_r1 : List Cond := [Cond.methodLink RX7 3 objectInit, Cond.instanceMethod objectInit, Cond.code objectInit ⟨#[0xb1]⟩ 1 none, Cond.classLink RX7 9 RX2, Cond.instantiable RX2 7, Cond.initialized RX2, Cond.fieldLink RX7 12 "LacePillow" "plan" "LLacePillow$Plan;", Cond.fieldLink RX7 16 "LacePillow" "kept" "LLacePillow$Plan;", Cond.classLink RX7 19 RX1, Cond.instantiable RX1 3, Cond.initialized RX1, Cond.fieldLink RX7 22 "LacePillow" "keptHeap" "LLacePillow$Heap;", Cond.fieldLink RX7 26 "LacePillow" "imaged" "Z", Cond.classLink RX7 30 RX0, Cond.instantiable RX0 8, Cond.initialized RX0, Cond.fieldLink RX7 33 "LacePillow" "ground" "LLacePillow$Ground;", Cond.classLink RX7 37 RX5, Cond.instantiable RX5 6, Cond.initialized RX5, Cond.fieldLink RX7 40 "LacePillow" "ways" "LLacePillow$Ways;", Cond.classLink RX7 44 RX6, Cond.instantiable RX6 10, Cond.initialized RX6]
def wsX7_init_r2 : List Cond := [Cond.fieldLink RX7 47 "LacePillow" "done" "LLacePillow$Weave;", Cond.fieldLink RX7 51 "LacePillow" "thought" "LLacePillow$Weave;", Cond.fieldLink RX7 54 "LacePillow" "thoughtStitches" "I", Cond.fieldLink RX7 58 "LacePillow" "workedBits" "J", Cond.classLink RX7 62 RX4, Cond.instantiable RX4 2, Cond.initialized RX4, Cond.fieldLink RX7 65 "LacePillow" "tape" "LLacePillow$Tape;", Cond.classLink RX7 69 RX3, Cond.fieldLink RX7 71 "LacePillow" "sheets" "[LLacePillow$Sheet;", Cond.arrayClass .int, Cond.fieldLink RX7 75 "LacePillow" "errors" "[I", Cond.instantiable RX3 3, Cond.initialized RX3, Cond.methodLink RX7 11 yX2_init, Cond.instanceMethod yX2_init, Cond.code yX2_init cX2_init 4 none, Cond.methodLink RX2 3 objectInit, Cond.fieldLink RX2 9 "LacePillow$Plan" "pairs" "I", Cond.fieldLink RX2 15 "LacePillow$Plan" "cells" "[I", Cond.fieldLink RX2 19 "LacePillow$Plan" "letters" "[I", Cond.fieldLink RX2 22 "LacePillow$Plan" "lengths" "[I", Cond.fieldLink RX2 25 "LacePillow$Plan" "wound" "[I", Cond.fieldLink RX2 28 "LacePillow$Plan" "work" "[I"]
def wsX7_init_r3 : List Cond := [Cond.fieldLink RX2 31 "LacePillow$Plan" "worked" "I", Cond.methodLink RX2 34 yJ7_fill_53178, Cond.static yJ7_fill_53178, Cond.initialized RJ7, Cond.code yJ7_fill_53178 cJ7_fill_53178 4 none, Cond.methodLink RX2 40 yX2_firstWord, Cond.static yX2_firstWord, Cond.code yX2_firstWord cX2_firstWord 1 (some (.object "java/lang/String")), Cond.methodLink RX2 44 yJ0_length_8abf5, Cond.instanceMethod yJ0_length_8abf5, Cond.selects RJ0 yJ0_length_8abf5 yJ0_length_8abf5, Cond.initialized RJ0, Cond.code yJ0_length_8abf5 cJ0_length_8abf5 1 (some .int), Cond.fieldLink RJ0 9 "java/lang/String" "value" "[B", Cond.methodLink RJ0 335 yJ0_coder_7d493, Cond.instanceMethod yJ0_coder_7d493, Cond.selects RJ0 yJ0_coder_7d493 yJ0_coder_7d493, Cond.code yJ0_coder_7d493 cJ0_coder_7d493 1 (some .byte), Cond.fieldLink RJ0 38 "java/lang/String" "COMPACT_STRINGS" "Z", Cond.fieldLink RJ0 15 "java/lang/String" "coder" "B", Cond.methodLink RX2 50 yJ0_charAt_5068e, Cond.instanceMethod yJ0_charAt_5068e, Cond.selects RJ0 yJ0_charAt_5068e yJ0_charAt_5068e, Cond.code yJ0_charAt_5068e cJ0_charAt_5068e 2 (some .char)]
def wsX7_init_r4 : List Cond := [Cond.methodLink RJ0 492 yJ0_isLatin1_aae02, Cond.instanceMethod yJ0_isLatin1_aae02, Cond.selects RJ0 yJ0_isLatin1_aae02 yJ0_isLatin1_aae02, Cond.code yJ0_isLatin1_aae02 cJ0_isLatin1_aae02 1 (some .boolean), Cond.methodLink RJ0 495 yJ1_charAt_3b067, Cond.static yJ1_charAt_3b067, Cond.initialized RJ1, Cond.code yJ1_charAt_3b067 cJ1_charAt_3b067 2 (some .char), Cond.methodLink RJ1 9 yJ0_checkIndex_df160, Cond.static yJ0_checkIndex_df160, Cond.code yJ0_checkIndex_df160 cJ0_checkIndex_df160 2 none, Cond.fieldLink RJ0 1053 "jdk/internal/util/Preconditions" "SIOOBE_FORMATTER" "Ljava/util/function/BiFunction;", Cond.methodLink RJ0 1059 yJ3_checkIndex_8e157, Cond.static yJ3_checkIndex_8e157, Cond.initialized RJ3, Cond.code yJ3_checkIndex_8e157 cJ3_checkIndex_8e157 3 (some .int), Cond.methodLink RJ0 498 yJ2_charAt_3b067, Cond.static yJ2_charAt_3b067, Cond.initialized RJ2, Cond.code yJ2_charAt_3b067 cJ2_charAt_3b067 2 (some .char), Cond.methodLink RJ2 67 yJ2_checkIndex_2214a, Cond.static yJ2_checkIndex_2214a, Cond.code yJ2_checkIndex_2214a cJ2_checkIndex_2214a 2 none, Cond.methodLink RJ2 48 yJ2_length_9d52b]
def wsX7_init_r5 : List Cond := [Cond.static yJ2_length_9d52b, Cond.code yJ2_length_9d52b cJ2_length_9d52b 1 (some .int), Cond.methodLink RJ2 414 yJ0_checkIndex_df160, Cond.methodLink RJ2 71 yJ2_getChar_3b067, Cond.static yJ2_getChar_3b067, Cond.code yJ2_getChar_3b067 cJ2_getChar_3b067 2 (some .char), Cond.fieldLink RJ2 44 "java/lang/StringUTF16" "$assertionsDisabled" "Z", Cond.fieldLink RJ2 59 "java/lang/StringUTF16" "HI_BYTE_SHIFT" "I", Cond.fieldLink RJ2 63 "java/lang/StringUTF16" "LO_BYTE_SHIFT" "I", Cond.methodLink RX7 21 yX1_init, Cond.instanceMethod yX1_init, Cond.code yX1_init cX1_init 1 none, Cond.methodLink RX1 3 objectInit, Cond.fieldLink RX1 9 "LacePillow$Heap" "size" "I", Cond.fieldLink RX1 15 "LacePillow$Heap" "signs" "[I", Cond.fieldLink RX1 19 "LacePillow$Heap" "tops" "[I", Cond.methodLink RX1 22 yJ7_fill_53178, Cond.instanceMethod yX0_init, Cond.code yX0_init cX0_init 1 none, Cond.methodLink RX0 3 objectInit, Cond.fieldLink RX0 9 "LacePillow$Ground" "size" "I", Cond.fieldLink RX0 15 "LacePillow$Ground" "deep" "I", Cond.fieldLink RX0 18 "LacePillow$Ground" "rows" "[I", Cond.fieldLink RX0 22 "LacePillow$Ground" "gaps" "[I"]
def wsX7_init_r6 : List Cond := [Cond.fieldLink RX0 25 "LacePillow$Ground" "kinds" "[I", Cond.fieldLink RX0 28 "LacePillow$Ground" "levels" "[I", Cond.arrayClass .long, Cond.fieldLink RX0 31 "LacePillow$Ground" "before" "[J", Cond.fieldLink RX0 35 "LacePillow$Ground" "wides" "[I", Cond.instanceMethod yX5_init, Cond.code yX5_init cX5_init 1 none, Cond.methodLink RX5 3 objectInit, Cond.fieldLink RX5 9 "LacePillow$Ways" "known" "Z", Cond.fieldLink RX5 15 "LacePillow$Ways" "counts" "[J", Cond.fieldLink RX5 19 "LacePillow$Ways" "lengths" "[I", Cond.fieldLink RX5 23 "LacePillow$Ways" "strides" "[I", Cond.fieldLink RX5 26 "LacePillow$Ways" "stitches" "[I", Cond.fieldLink RX5 29 "LacePillow$Ways" "bits" "[J", Cond.methodLink RX7 46 yX6_init, Cond.instanceMethod yX6_init, Cond.code yX6_init cX6_init 1 none, Cond.methodLink RX6 3 objectInit, Cond.fieldLink RX6 9 "LacePillow$Weave" "threads" "[I", Cond.fieldLink RX6 15 "LacePillow$Weave" "places" "[I", Cond.fieldLink RX6 18 "LacePillow$Weave" "used" "[I", Cond.fieldLink RX6 21 "LacePillow$Weave" "overs" "[I", Cond.fieldLink RX6 24 "LacePillow$Weave" "unders" "[I", Cond.fieldLink RX6 27 "LacePillow$Weave" "falses" "[I"]
def wsX7_init_r7 : List Cond := [Cond.fieldLink RX6 30 "LacePillow$Weave" "sides" "[I", Cond.fieldLink RX6 33 "LacePillow$Weave" "passes" "[I", Cond.classLink RX6 36 RX1, Cond.fieldLink RX6 39 "LacePillow$Weave" "heap" "LLacePillow$Heap;", Cond.fieldLink RX6 43 "LacePillow$Weave" "crossings" "I", Cond.methodLink RX6 38 yX1_init, Cond.methodLink RX6 47 yX6_sendHome, Cond.instanceMethod yX6_sendHome, Cond.selects RX6 yX6_sendHome yX6_sendHome, Cond.code yX6_sendHome cX6_sendHome 2 none, Cond.methodLink RX6 50 yJ7_fill_53178, Cond.instanceMethod yX4_init, Cond.code yX4_init cX4_init 1 none, Cond.methodLink RX4 3 objectInit, Cond.fieldLink RX4 9 "LacePillow$Tape" "bytes" "[I", Cond.fieldLink RX4 15 "LacePillow$Tape" "size" "I", Cond.instanceMethod yX3_init, Cond.code yX3_init cX3_init 1 none, Cond.methodLink RX3 3 objectInit, Cond.fieldLink RX3 9 "LacePillow$Sheet" "sort" "I", Cond.fieldLink RX3 15 "LacePillow$Sheet" "size" "I", Cond.fieldLink RX3 18 "LacePillow$Sheet" "numbers" "[J"]
def wsX7_init : List Cond := .code yX7_init cX7_init 2 none :: ((wsX7_init_r1 ++ (wsX7_init_r2 ++ (wsX7_init_r3 ++ (wsX7_init_r4 ++ (wsX7_init_r5 ++ (wsX7_init_r6 ++ wsX7_init_r7)))))) ++ wsX20 ++ wsX70 ++ wsX10 ++ wsX00 ++ wsX50 ++ wsX60 ++ wsX40 ++ wsX30)
def wsX7_fail : List Cond := .code yX7_fail cX7_fail 2 (some .int) :: ([.fieldLink RX7 75 "LacePillow" "errors" "[I", .constant RX7 343 (-1000000000)] ++ wsX70)
def wsX7_regard_r1 : List Cond := [Cond.fieldLink RX7 33 "LacePillow" "ground" "LLacePillow$Ground;", Cond.fieldLink RX7 12 "LacePillow" "plan" "LLacePillow$Plan;", Cond.fieldLink RX7 40 "LacePillow" "ways" "LLacePillow$Ways;", Cond.fieldLink RX7 352 "LacePillow$Ways" "known" "Z", Cond.fieldLink RX7 54 "LacePillow" "thoughtStitches" "I", Cond.methodLink RX7 349 yX0_gather, Cond.instanceMethod yX0_gather, Cond.selects RX0 yX0_gather yX0_gather, Cond.initialized RX0, Cond.code yX0_gather cX0_gather 5 none, Cond.fieldLink RX0 9 "LacePillow$Ground" "size" "I", Cond.fieldLink RX0 15 "LacePillow$Ground" "deep" "I", Cond.fieldLink RX0 38 "LacePillow$Plan" "pairs" "I", Cond.fieldLink RX0 43 "LacePillow$Plan" "cells" "[I", Cond.methodLink RX0 46 yX0_enter, Cond.instanceMethod yX0_enter, Cond.selects RX0 yX0_enter yX0_enter, Cond.code yX0_enter cX0_enter 6 none, Cond.fieldLink RX0 18 "LacePillow$Ground" "rows" "[I", Cond.fieldLink RX0 22 "LacePillow$Ground" "gaps" "[I", Cond.fieldLink RX0 25 "LacePillow$Ground" "kinds" "[I", Cond.fieldLink RX0 28 "LacePillow$Ground" "levels" "[I", Cond.fieldLink RX0 31 "LacePillow$Ground" "before" "[J", Cond.methodLink RX0 50 Lib.Math.abs.name]
def wsX7_regard_r2 : List Cond := [Cond.static Lib.Math.abs.name, Cond.initialized "java/lang/Math", Cond.code Lib.Math.abs.name Lib.Math.abs.code 1 (some .int), Cond.methodLink RX0 56 Lib.Math.max.name, Cond.static Lib.Math.max.name, Cond.code Lib.Math.max.name Lib.Math.max.code 2 (some .int)]
def wsX7_regard : List Cond := .code yX7_regard cX7_regard 1 none :: ((wsX7_regard_r1 ++ wsX7_regard_r2) ++ wsX70 ++ wsX50 ++ wsX00 ++ wsX20)
def wsX7_beginAnew_r1 : List Cond := [Cond.fieldLink RX7 12 "LacePillow" "plan" "LLacePillow$Plan;", Cond.fieldLink RX7 169 "LacePillow$Plan" "worked" "I", Cond.fieldLink RX7 47 "LacePillow" "done" "LLacePillow$Weave;", Cond.fieldLink RX7 58 "LacePillow" "workedBits" "J", Cond.methodLink RX7 346 yX6_clear, Cond.instanceMethod yX6_clear, Cond.selects RX6 yX6_clear yX6_clear, Cond.initialized RX6, Cond.code yX6_clear cX6_clear 1 none, Cond.fieldLink RX6 18 "LacePillow$Weave" "used" "[I", Cond.fieldLink RX6 21 "LacePillow$Weave" "overs" "[I", Cond.fieldLink RX6 24 "LacePillow$Weave" "unders" "[I", Cond.fieldLink RX6 27 "LacePillow$Weave" "falses" "[I", Cond.fieldLink RX6 30 "LacePillow$Weave" "sides" "[I", Cond.fieldLink RX6 33 "LacePillow$Weave" "passes" "[I", Cond.fieldLink RX6 39 "LacePillow$Weave" "heap" "LLacePillow$Heap;", Cond.fieldLink RX6 43 "LacePillow$Weave" "crossings" "I", Cond.methodLink RX6 47 yX6_sendHome, Cond.instanceMethod yX6_sendHome, Cond.selects RX6 yX6_sendHome yX6_sendHome, Cond.code yX6_sendHome cX6_sendHome 2 none, Cond.fieldLink RX6 9 "LacePillow$Weave" "threads" "[I", Cond.fieldLink RX6 15 "LacePillow$Weave" "places" "[I", Cond.methodLink RX6 50 yJ7_fill_53178]
def wsX7_beginAnew_r2 : List Cond := [Cond.static yJ7_fill_53178, Cond.initialized RJ7, Cond.code yJ7_fill_53178 cJ7_fill_53178 4 none, Cond.methodLink RX6 56 yX1_clear, Cond.instanceMethod yX1_clear, Cond.selects RX1 yX1_clear yX1_clear, Cond.initialized RX1, Cond.code yX1_clear cX1_clear 1 none, Cond.fieldLink RX1 9 "LacePillow$Heap" "size" "I", Cond.fieldLink RX1 15 "LacePillow$Heap" "signs" "[I", Cond.fieldLink RX1 19 "LacePillow$Heap" "tops" "[I", Cond.methodLink RX1 22 yJ7_fill_53178, Cond.methodLink RX7 329 yX7_regard, Cond.instanceMethod yX7_regard, Cond.selects RX7 yX7_regard yX7_regard, Cond.initialized RX7, Cond.code yX7_regard cX7_regard 1 none, Cond.fieldLink RX7 33 "LacePillow" "ground" "LLacePillow$Ground;", Cond.fieldLink RX7 40 "LacePillow" "ways" "LLacePillow$Ways;", Cond.fieldLink RX7 352 "LacePillow$Ways" "known" "Z", Cond.fieldLink RX7 54 "LacePillow" "thoughtStitches" "I", Cond.methodLink RX7 349 yX0_gather, Cond.instanceMethod yX0_gather, Cond.selects RX0 yX0_gather yX0_gather]
def wsX7_beginAnew_r3 : List Cond := [Cond.initialized RX0, Cond.code yX0_gather cX0_gather 5 none, Cond.fieldLink RX0 9 "LacePillow$Ground" "size" "I", Cond.fieldLink RX0 15 "LacePillow$Ground" "deep" "I", Cond.fieldLink RX0 38 "LacePillow$Plan" "pairs" "I", Cond.fieldLink RX0 43 "LacePillow$Plan" "cells" "[I", Cond.methodLink RX0 46 yX0_enter, Cond.instanceMethod yX0_enter, Cond.selects RX0 yX0_enter yX0_enter, Cond.code yX0_enter cX0_enter 6 none, Cond.fieldLink RX0 18 "LacePillow$Ground" "rows" "[I", Cond.fieldLink RX0 22 "LacePillow$Ground" "gaps" "[I", Cond.fieldLink RX0 25 "LacePillow$Ground" "kinds" "[I", Cond.fieldLink RX0 28 "LacePillow$Ground" "levels" "[I", Cond.fieldLink RX0 31 "LacePillow$Ground" "before" "[J", Cond.methodLink RX0 50 Lib.Math.abs.name, Cond.static Lib.Math.abs.name, Cond.initialized "java/lang/Math", Cond.code Lib.Math.abs.name Lib.Math.abs.code 1 (some .int), Cond.methodLink RX0 56 Lib.Math.max.name, Cond.static Lib.Math.max.name, Cond.code Lib.Math.max.name Lib.Math.max.code 2 (some .int)]
def wsX7_beginAnew : List Cond := .code yX7_beginAnew cX7_beginAnew 1 none :: ((wsX7_beginAnew_r1 ++ (wsX7_beginAnew_r2 ++ wsX7_beginAnew_r3)) ++ wsX70 ++ wsX20 ++ wsX60 ++ wsX10 ++ wsX50 ++ wsX00)
def wsX7_pairs_r1 : List Cond := [Cond.fieldLink RX7 12 "LacePillow" "plan" "LLacePillow$Plan;", Cond.fieldLink RX7 84 "LacePillow$Plan" "pairs" "I", Cond.fieldLink RX7 87 "LacePillow$Plan" "cells" "[I", Cond.methodLink RX7 80 yX7_fail, Cond.instanceMethod yX7_fail, Cond.selects RX7 yX7_fail yX7_fail, Cond.initialized RX7, Cond.code yX7_fail cX7_fail 2 (some .int), Cond.fieldLink RX7 75 "LacePillow" "errors" "[I", Cond.constant RX7 343 (-1000000000), Cond.methodLink RX7 90 yJ7_fill_53178, Cond.static yJ7_fill_53178, Cond.initialized RJ7, Cond.code yJ7_fill_53178 cJ7_fill_53178 4 none, Cond.methodLink RX7 96 yX7_beginAnew, Cond.instanceMethod yX7_beginAnew, Cond.selects RX7 yX7_beginAnew yX7_beginAnew, Cond.code yX7_beginAnew cX7_beginAnew 1 none, Cond.fieldLink RX7 169 "LacePillow$Plan" "worked" "I", Cond.fieldLink RX7 47 "LacePillow" "done" "LLacePillow$Weave;", Cond.fieldLink RX7 58 "LacePillow" "workedBits" "J", Cond.methodLink RX7 346 yX6_clear, Cond.instanceMethod yX6_clear, Cond.selects RX6 yX6_clear yX6_clear]
def wsX7_pairs_r2 : List Cond := [Cond.initialized RX6, Cond.code yX6_clear cX6_clear 1 none, Cond.fieldLink RX6 18 "LacePillow$Weave" "used" "[I", Cond.fieldLink RX6 21 "LacePillow$Weave" "overs" "[I", Cond.fieldLink RX6 24 "LacePillow$Weave" "unders" "[I", Cond.fieldLink RX6 27 "LacePillow$Weave" "falses" "[I", Cond.fieldLink RX6 30 "LacePillow$Weave" "sides" "[I", Cond.fieldLink RX6 33 "LacePillow$Weave" "passes" "[I", Cond.fieldLink RX6 39 "LacePillow$Weave" "heap" "LLacePillow$Heap;", Cond.fieldLink RX6 43 "LacePillow$Weave" "crossings" "I", Cond.methodLink RX6 47 yX6_sendHome, Cond.instanceMethod yX6_sendHome, Cond.selects RX6 yX6_sendHome yX6_sendHome, Cond.code yX6_sendHome cX6_sendHome 2 none, Cond.fieldLink RX6 9 "LacePillow$Weave" "threads" "[I", Cond.fieldLink RX6 15 "LacePillow$Weave" "places" "[I", Cond.methodLink RX6 50 yJ7_fill_53178, Cond.methodLink RX6 56 yX1_clear, Cond.instanceMethod yX1_clear, Cond.selects RX1 yX1_clear yX1_clear, Cond.initialized RX1, Cond.code yX1_clear cX1_clear 1 none, Cond.fieldLink RX1 9 "LacePillow$Heap" "size" "I", Cond.fieldLink RX1 15 "LacePillow$Heap" "signs" "[I"]
def wsX7_pairs_r3 : List Cond := [Cond.fieldLink RX1 19 "LacePillow$Heap" "tops" "[I", Cond.methodLink RX1 22 yJ7_fill_53178, Cond.methodLink RX7 329 yX7_regard, Cond.instanceMethod yX7_regard, Cond.selects RX7 yX7_regard yX7_regard, Cond.code yX7_regard cX7_regard 1 none, Cond.fieldLink RX7 33 "LacePillow" "ground" "LLacePillow$Ground;", Cond.fieldLink RX7 40 "LacePillow" "ways" "LLacePillow$Ways;", Cond.fieldLink RX7 352 "LacePillow$Ways" "known" "Z", Cond.fieldLink RX7 54 "LacePillow" "thoughtStitches" "I", Cond.methodLink RX7 349 yX0_gather, Cond.instanceMethod yX0_gather, Cond.selects RX0 yX0_gather yX0_gather, Cond.initialized RX0, Cond.code yX0_gather cX0_gather 5 none, Cond.fieldLink RX0 9 "LacePillow$Ground" "size" "I", Cond.fieldLink RX0 15 "LacePillow$Ground" "deep" "I", Cond.fieldLink RX0 38 "LacePillow$Plan" "pairs" "I", Cond.fieldLink RX0 43 "LacePillow$Plan" "cells" "[I", Cond.methodLink RX0 46 yX0_enter, Cond.instanceMethod yX0_enter, Cond.selects RX0 yX0_enter yX0_enter, Cond.code yX0_enter cX0_enter 6 none, Cond.fieldLink RX0 18 "LacePillow$Ground" "rows" "[I"]
def wsX7_pairs_r4 : List Cond := [Cond.fieldLink RX0 22 "LacePillow$Ground" "gaps" "[I", Cond.fieldLink RX0 25 "LacePillow$Ground" "kinds" "[I", Cond.fieldLink RX0 28 "LacePillow$Ground" "levels" "[I", Cond.fieldLink RX0 31 "LacePillow$Ground" "before" "[J", Cond.methodLink RX0 50 Lib.Math.abs.name, Cond.static Lib.Math.abs.name, Cond.initialized "java/lang/Math", Cond.code Lib.Math.abs.name Lib.Math.abs.code 1 (some .int), Cond.methodLink RX0 56 Lib.Math.max.name, Cond.static Lib.Math.max.name, Cond.code Lib.Math.max.name Lib.Math.max.code 2 (some .int)]
def wsX7_pairs : List Cond := .code yX7_pairs cX7_pairs 3 (some .int) :: ((wsX7_pairs_r1 ++ (wsX7_pairs_r2 ++ (wsX7_pairs_r3 ++ wsX7_pairs_r4))) ++ wsX70 ++ wsX20 ++ wsX60 ++ wsX10 ++ wsX50 ++ wsX00)
def wsX7_isCell : List Cond := .code yX7_isCell cX7_isCell 3 (some .boolean) :: ([.fieldLink RX7 12 "LacePillow" "plan" "LLacePillow$Plan;", .fieldLink RX7 84 "LacePillow$Plan" "pairs" "I"] ++ wsX70 ++ wsX20)
def wsX7_holds : List Cond := .code yX7_holds cX7_holds 3 (some .boolean) :: ([.fieldLink RX7 12 "LacePillow" "plan" "LLacePillow$Plan;", .fieldLink RX7 87 "LacePillow$Plan" "cells" "[I", .methodLink RX7 99 yX7_isCell, .instanceMethod yX7_isCell, .selects RX7 yX7_isCell yX7_isCell, .initialized RX7, .code yX7_isCell cX7_isCell 3 (some .boolean), .fieldLink RX7 84 "LacePillow$Plan" "pairs" "I"] ++ wsX70 ++ wsX20)
def wsX7_lay_r1 : List Cond := [Cond.fieldLink RX7 12 "LacePillow" "plan" "LLacePillow$Plan;", Cond.fieldLink RX7 87 "LacePillow$Plan" "cells" "[I", Cond.methodLink RX7 99 yX7_isCell, Cond.instanceMethod yX7_isCell, Cond.selects RX7 yX7_isCell yX7_isCell, Cond.initialized RX7, Cond.code yX7_isCell cX7_isCell 3 (some .boolean), Cond.fieldLink RX7 84 "LacePillow$Plan" "pairs" "I", Cond.methodLink RX7 80 yX7_fail, Cond.instanceMethod yX7_fail, Cond.selects RX7 yX7_fail yX7_fail, Cond.code yX7_fail cX7_fail 2 (some .int), Cond.fieldLink RX7 75 "LacePillow" "errors" "[I", Cond.constant RX7 343 (-1000000000), Cond.methodLink RX7 103 yX7_holds, Cond.instanceMethod yX7_holds, Cond.selects RX7 yX7_holds yX7_holds, Cond.code yX7_holds cX7_holds 3 (some .boolean), Cond.methodLink RX7 96 yX7_beginAnew, Cond.instanceMethod yX7_beginAnew, Cond.selects RX7 yX7_beginAnew yX7_beginAnew, Cond.code yX7_beginAnew cX7_beginAnew 1 none, Cond.fieldLink RX7 169 "LacePillow$Plan" "worked" "I", Cond.fieldLink RX7 47 "LacePillow" "done" "LLacePillow$Weave;"]
def wsX7_lay_r2 : List Cond := [Cond.fieldLink RX7 58 "LacePillow" "workedBits" "J", Cond.methodLink RX7 346 yX6_clear, Cond.instanceMethod yX6_clear, Cond.selects RX6 yX6_clear yX6_clear, Cond.initialized RX6, Cond.code yX6_clear cX6_clear 1 none, Cond.fieldLink RX6 18 "LacePillow$Weave" "used" "[I", Cond.fieldLink RX6 21 "LacePillow$Weave" "overs" "[I", Cond.fieldLink RX6 24 "LacePillow$Weave" "unders" "[I", Cond.fieldLink RX6 27 "LacePillow$Weave" "falses" "[I", Cond.fieldLink RX6 30 "LacePillow$Weave" "sides" "[I", Cond.fieldLink RX6 33 "LacePillow$Weave" "passes" "[I", Cond.fieldLink RX6 39 "LacePillow$Weave" "heap" "LLacePillow$Heap;", Cond.fieldLink RX6 43 "LacePillow$Weave" "crossings" "I", Cond.methodLink RX6 47 yX6_sendHome, Cond.instanceMethod yX6_sendHome, Cond.selects RX6 yX6_sendHome yX6_sendHome, Cond.code yX6_sendHome cX6_sendHome 2 none, Cond.fieldLink RX6 9 "LacePillow$Weave" "threads" "[I", Cond.fieldLink RX6 15 "LacePillow$Weave" "places" "[I", Cond.methodLink RX6 50 yJ7_fill_53178, Cond.static yJ7_fill_53178, Cond.initialized RJ7, Cond.code yJ7_fill_53178 cJ7_fill_53178 4 none]
def wsX7_lay_r3 : List Cond := [Cond.methodLink RX6 56 yX1_clear, Cond.instanceMethod yX1_clear, Cond.selects RX1 yX1_clear yX1_clear, Cond.initialized RX1, Cond.code yX1_clear cX1_clear 1 none, Cond.fieldLink RX1 9 "LacePillow$Heap" "size" "I", Cond.fieldLink RX1 15 "LacePillow$Heap" "signs" "[I", Cond.fieldLink RX1 19 "LacePillow$Heap" "tops" "[I", Cond.methodLink RX1 22 yJ7_fill_53178, Cond.methodLink RX7 329 yX7_regard, Cond.instanceMethod yX7_regard, Cond.selects RX7 yX7_regard yX7_regard, Cond.code yX7_regard cX7_regard 1 none, Cond.fieldLink RX7 33 "LacePillow" "ground" "LLacePillow$Ground;", Cond.fieldLink RX7 40 "LacePillow" "ways" "LLacePillow$Ways;", Cond.fieldLink RX7 352 "LacePillow$Ways" "known" "Z", Cond.fieldLink RX7 54 "LacePillow" "thoughtStitches" "I", Cond.methodLink RX7 349 yX0_gather, Cond.instanceMethod yX0_gather, Cond.selects RX0 yX0_gather yX0_gather, Cond.initialized RX0, Cond.code yX0_gather cX0_gather 5 none, Cond.fieldLink RX0 9 "LacePillow$Ground" "size" "I", Cond.fieldLink RX0 15 "LacePillow$Ground" "deep" "I"]
def wsX7_lay_r4 : List Cond := [Cond.fieldLink RX0 38 "LacePillow$Plan" "pairs" "I", Cond.fieldLink RX0 43 "LacePillow$Plan" "cells" "[I", Cond.methodLink RX0 46 yX0_enter, Cond.instanceMethod yX0_enter, Cond.selects RX0 yX0_enter yX0_enter, Cond.code yX0_enter cX0_enter 6 none, Cond.fieldLink RX0 18 "LacePillow$Ground" "rows" "[I", Cond.fieldLink RX0 22 "LacePillow$Ground" "gaps" "[I", Cond.fieldLink RX0 25 "LacePillow$Ground" "kinds" "[I", Cond.fieldLink RX0 28 "LacePillow$Ground" "levels" "[I", Cond.fieldLink RX0 31 "LacePillow$Ground" "before" "[J", Cond.methodLink RX0 50 Lib.Math.abs.name, Cond.static Lib.Math.abs.name, Cond.initialized "java/lang/Math", Cond.code Lib.Math.abs.name Lib.Math.abs.code 1 (some .int), Cond.methodLink RX0 56 Lib.Math.max.name, Cond.static Lib.Math.max.name, Cond.code Lib.Math.max.name Lib.Math.max.code 2 (some .int)]
def wsX7_lay : List Cond := .code yX7_lay cX7_lay 5 (some .int) :: ((wsX7_lay_r1 ++ (wsX7_lay_r2 ++ (wsX7_lay_r3 ++ wsX7_lay_r4))) ++ wsX70 ++ wsX20 ++ wsX60 ++ wsX10 ++ wsX50 ++ wsX00)
def wsX7_look : List Cond := .code yX7_look cX7_look 3 (some .int) :: ([.fieldLink RX7 12 "LacePillow" "plan" "LLacePillow$Plan;", .fieldLink RX7 87 "LacePillow$Plan" "cells" "[I", .methodLink RX7 99 yX7_isCell, .instanceMethod yX7_isCell, .selects RX7 yX7_isCell yX7_isCell, .initialized RX7, .code yX7_isCell cX7_isCell 3 (some .boolean), .fieldLink RX7 84 "LacePillow$Plan" "pairs" "I", .methodLink RX7 80 yX7_fail, .instanceMethod yX7_fail, .selects RX7 yX7_fail yX7_fail, .code yX7_fail cX7_fail 2 (some .int), .fieldLink RX7 75 "LacePillow" "errors" "[I", .constant RX7 343 (-1000000000)] ++ wsX70 ++ wsX20)
def wsX7_feed : List Cond := .code yX7_feed cX7_feed 2 (some .int) :: ([.fieldLink RX7 65 "LacePillow" "tape" "LLacePillow$Tape;", .fieldLink RX7 106 "LacePillow$Tape" "size" "I", .fieldLink RX7 109 "LacePillow$Tape" "bytes" "[I", .methodLink RX7 80 yX7_fail, .instanceMethod yX7_fail, .selects RX7 yX7_fail yX7_fail, .initialized RX7, .code yX7_fail cX7_fail 2 (some .int), .fieldLink RX7 75 "LacePillow" "errors" "[I", .constant RX7 343 (-1000000000)] ++ wsX70 ++ wsX40)
def wsX7_read_r1 : List Cond := [Cond.fieldLink RX7 65 "LacePillow" "tape" "LLacePillow$Tape;", Cond.fieldLink RX7 12 "LacePillow" "plan" "LLacePillow$Plan;", Cond.fieldLink RX7 84 "LacePillow$Plan" "pairs" "I", Cond.fieldLink RX7 106 "LacePillow$Tape" "size" "I", Cond.fieldLink RX7 33 "LacePillow" "ground" "LLacePillow$Ground;", Cond.fieldLink RX7 119 "LacePillow$Ground" "size" "I", Cond.methodLink RX7 112 yX4_prickingFault, Cond.instanceMethod yX4_prickingFault, Cond.selects RX4 yX4_prickingFault yX4_prickingFault, Cond.initialized RX4, Cond.code yX4_prickingFault cX4_prickingFault 8 (some .int), Cond.fieldLink RX4 15 "LacePillow$Tape" "size" "I", Cond.fieldLink RX4 9 "LacePillow$Tape" "bytes" "[I", Cond.methodLink RX7 115 yX4_prickInto, Cond.instanceMethod yX4_prickInto, Cond.selects RX4 yX4_prickInto yX4_prickInto, Cond.code yX4_prickInto cX4_prickInto 5 none, Cond.fieldLink RX4 19 "LacePillow$Plan" "cells" "[I", Cond.methodLink RX4 24 yJ7_fill_53178, Cond.static yJ7_fill_53178, Cond.initialized RJ7, Cond.code yJ7_fill_53178 cJ7_fill_53178 4 none, Cond.methodLink RX7 96 yX7_beginAnew, Cond.instanceMethod yX7_beginAnew]
def wsX7_read_r2 : List Cond := [Cond.selects RX7 yX7_beginAnew yX7_beginAnew, Cond.initialized RX7, Cond.code yX7_beginAnew cX7_beginAnew 1 none, Cond.fieldLink RX7 169 "LacePillow$Plan" "worked" "I", Cond.fieldLink RX7 47 "LacePillow" "done" "LLacePillow$Weave;", Cond.fieldLink RX7 58 "LacePillow" "workedBits" "J", Cond.methodLink RX7 346 yX6_clear, Cond.instanceMethod yX6_clear, Cond.selects RX6 yX6_clear yX6_clear, Cond.initialized RX6, Cond.code yX6_clear cX6_clear 1 none, Cond.fieldLink RX6 18 "LacePillow$Weave" "used" "[I", Cond.fieldLink RX6 21 "LacePillow$Weave" "overs" "[I", Cond.fieldLink RX6 24 "LacePillow$Weave" "unders" "[I", Cond.fieldLink RX6 27 "LacePillow$Weave" "falses" "[I", Cond.fieldLink RX6 30 "LacePillow$Weave" "sides" "[I", Cond.fieldLink RX6 33 "LacePillow$Weave" "passes" "[I", Cond.fieldLink RX6 39 "LacePillow$Weave" "heap" "LLacePillow$Heap;", Cond.fieldLink RX6 43 "LacePillow$Weave" "crossings" "I", Cond.methodLink RX6 47 yX6_sendHome, Cond.instanceMethod yX6_sendHome, Cond.selects RX6 yX6_sendHome yX6_sendHome, Cond.code yX6_sendHome cX6_sendHome 2 none, Cond.fieldLink RX6 9 "LacePillow$Weave" "threads" "[I"]
def wsX7_read_r3 : List Cond := [Cond.fieldLink RX6 15 "LacePillow$Weave" "places" "[I", Cond.methodLink RX6 50 yJ7_fill_53178, Cond.methodLink RX6 56 yX1_clear, Cond.instanceMethod yX1_clear, Cond.selects RX1 yX1_clear yX1_clear, Cond.initialized RX1, Cond.code yX1_clear cX1_clear 1 none, Cond.fieldLink RX1 9 "LacePillow$Heap" "size" "I", Cond.fieldLink RX1 15 "LacePillow$Heap" "signs" "[I", Cond.fieldLink RX1 19 "LacePillow$Heap" "tops" "[I", Cond.methodLink RX1 22 yJ7_fill_53178, Cond.methodLink RX7 329 yX7_regard, Cond.instanceMethod yX7_regard, Cond.selects RX7 yX7_regard yX7_regard, Cond.code yX7_regard cX7_regard 1 none, Cond.fieldLink RX7 40 "LacePillow" "ways" "LLacePillow$Ways;", Cond.fieldLink RX7 352 "LacePillow$Ways" "known" "Z", Cond.fieldLink RX7 54 "LacePillow" "thoughtStitches" "I", Cond.methodLink RX7 349 yX0_gather, Cond.instanceMethod yX0_gather, Cond.selects RX0 yX0_gather yX0_gather, Cond.initialized RX0, Cond.code yX0_gather cX0_gather 5 none, Cond.fieldLink RX0 9 "LacePillow$Ground" "size" "I"]
def wsX7_read_r4 : List Cond := [Cond.fieldLink RX0 15 "LacePillow$Ground" "deep" "I", Cond.fieldLink RX0 38 "LacePillow$Plan" "pairs" "I", Cond.fieldLink RX0 43 "LacePillow$Plan" "cells" "[I", Cond.methodLink RX0 46 yX0_enter, Cond.instanceMethod yX0_enter, Cond.selects RX0 yX0_enter yX0_enter, Cond.code yX0_enter cX0_enter 6 none, Cond.fieldLink RX0 18 "LacePillow$Ground" "rows" "[I", Cond.fieldLink RX0 22 "LacePillow$Ground" "gaps" "[I", Cond.fieldLink RX0 25 "LacePillow$Ground" "kinds" "[I", Cond.fieldLink RX0 28 "LacePillow$Ground" "levels" "[I", Cond.fieldLink RX0 31 "LacePillow$Ground" "before" "[J", Cond.methodLink RX0 50 Lib.Math.abs.name, Cond.static Lib.Math.abs.name, Cond.initialized "java/lang/Math", Cond.code Lib.Math.abs.name Lib.Math.abs.code 1 (some .int), Cond.methodLink RX0 56 Lib.Math.max.name, Cond.static Lib.Math.max.name, Cond.code Lib.Math.max.name Lib.Math.max.code 2 (some .int)]
def wsX7_read : List Cond := .code yX7_read cX7_read 2 (some .int) :: ((wsX7_read_r1 ++ (wsX7_read_r2 ++ (wsX7_read_r3 ++ wsX7_read_r4))) ++ wsX70 ++ wsX20 ++ wsX40 ++ wsX00 ++ wsX60 ++ wsX10 ++ wsX50)
def wsX7_isKind : List Cond := .code yX7_isKind cX7_isKind 1 (some .boolean) :: ([])
def wsX7_spell_r1 : List Cond := [Cond.fieldLink RX7 65 "LacePillow" "tape" "LLacePillow$Tape;", Cond.fieldLink RX7 12 "LacePillow" "plan" "LLacePillow$Plan;", Cond.fieldLink RX7 106 "LacePillow$Tape" "size" "I", Cond.fieldLink RX7 132 "LacePillow$Plan" "lengths" "[I", Cond.methodLink RX7 120 yX7_isKind, Cond.static yX7_isKind, Cond.initialized RX7, Cond.code yX7_isKind cX7_isKind 1 (some .boolean), Cond.methodLink RX7 80 yX7_fail, Cond.instanceMethod yX7_fail, Cond.selects RX7 yX7_fail yX7_fail, Cond.code yX7_fail cX7_fail 2 (some .int), Cond.fieldLink RX7 75 "LacePillow" "errors" "[I", Cond.constant RX7 343 (-1000000000), Cond.methodLink RX7 124 yX4_wordFault, Cond.instanceMethod yX4_wordFault, Cond.selects RX4 yX4_wordFault yX4_wordFault, Cond.initialized RX4, Cond.code yX4_wordFault cX4_wordFault 3 (some .int), Cond.fieldLink RX4 15 "LacePillow$Tape" "size" "I", Cond.fieldLink RX4 9 "LacePillow$Tape" "bytes" "[I", Cond.methodLink RX7 128 yX4_spellInto, Cond.instanceMethod yX4_spellInto, Cond.selects RX4 yX4_spellInto yX4_spellInto]
def wsX7_spell_r2 : List Cond := [Cond.code yX4_spellInto cX4_spellInto 4 none, Cond.fieldLink RX4 30 "LacePillow$Plan" "letters" "[I", Cond.fieldLink RX4 33 "LacePillow$Plan" "lengths" "[I", Cond.methodLink RX4 36 Lib.Math.min.name, Cond.static Lib.Math.min.name, Cond.initialized "java/lang/Math", Cond.code Lib.Math.min.name Lib.Math.min.code 2 (some .int), Cond.methodLink RX7 96 yX7_beginAnew, Cond.instanceMethod yX7_beginAnew, Cond.selects RX7 yX7_beginAnew yX7_beginAnew, Cond.code yX7_beginAnew cX7_beginAnew 1 none, Cond.fieldLink RX7 169 "LacePillow$Plan" "worked" "I", Cond.fieldLink RX7 47 "LacePillow" "done" "LLacePillow$Weave;", Cond.fieldLink RX7 58 "LacePillow" "workedBits" "J", Cond.methodLink RX7 346 yX6_clear, Cond.instanceMethod yX6_clear, Cond.selects RX6 yX6_clear yX6_clear, Cond.initialized RX6, Cond.code yX6_clear cX6_clear 1 none, Cond.fieldLink RX6 18 "LacePillow$Weave" "used" "[I", Cond.fieldLink RX6 21 "LacePillow$Weave" "overs" "[I", Cond.fieldLink RX6 24 "LacePillow$Weave" "unders" "[I", Cond.fieldLink RX6 27 "LacePillow$Weave" "falses" "[I", Cond.fieldLink RX6 30 "LacePillow$Weave" "sides" "[I"]
def wsX7_spell_r3 : List Cond := [Cond.fieldLink RX6 33 "LacePillow$Weave" "passes" "[I", Cond.fieldLink RX6 39 "LacePillow$Weave" "heap" "LLacePillow$Heap;", Cond.fieldLink RX6 43 "LacePillow$Weave" "crossings" "I", Cond.methodLink RX6 47 yX6_sendHome, Cond.instanceMethod yX6_sendHome, Cond.selects RX6 yX6_sendHome yX6_sendHome, Cond.code yX6_sendHome cX6_sendHome 2 none, Cond.fieldLink RX6 9 "LacePillow$Weave" "threads" "[I", Cond.fieldLink RX6 15 "LacePillow$Weave" "places" "[I", Cond.methodLink RX6 50 yJ7_fill_53178, Cond.static yJ7_fill_53178, Cond.initialized RJ7, Cond.code yJ7_fill_53178 cJ7_fill_53178 4 none, Cond.methodLink RX6 56 yX1_clear, Cond.instanceMethod yX1_clear, Cond.selects RX1 yX1_clear yX1_clear, Cond.initialized RX1, Cond.code yX1_clear cX1_clear 1 none, Cond.fieldLink RX1 9 "LacePillow$Heap" "size" "I", Cond.fieldLink RX1 15 "LacePillow$Heap" "signs" "[I", Cond.fieldLink RX1 19 "LacePillow$Heap" "tops" "[I", Cond.methodLink RX1 22 yJ7_fill_53178, Cond.methodLink RX7 329 yX7_regard, Cond.instanceMethod yX7_regard]
def wsX7_spell_r4 : List Cond := [Cond.selects RX7 yX7_regard yX7_regard, Cond.code yX7_regard cX7_regard 1 none, Cond.fieldLink RX7 33 "LacePillow" "ground" "LLacePillow$Ground;", Cond.fieldLink RX7 40 "LacePillow" "ways" "LLacePillow$Ways;", Cond.fieldLink RX7 352 "LacePillow$Ways" "known" "Z", Cond.fieldLink RX7 54 "LacePillow" "thoughtStitches" "I", Cond.methodLink RX7 349 yX0_gather, Cond.instanceMethod yX0_gather, Cond.selects RX0 yX0_gather yX0_gather, Cond.initialized RX0, Cond.code yX0_gather cX0_gather 5 none, Cond.fieldLink RX0 9 "LacePillow$Ground" "size" "I", Cond.fieldLink RX0 15 "LacePillow$Ground" "deep" "I", Cond.fieldLink RX0 38 "LacePillow$Plan" "pairs" "I", Cond.fieldLink RX0 43 "LacePillow$Plan" "cells" "[I", Cond.methodLink RX0 46 yX0_enter, Cond.instanceMethod yX0_enter, Cond.selects RX0 yX0_enter yX0_enter, Cond.code yX0_enter cX0_enter 6 none, Cond.fieldLink RX0 18 "LacePillow$Ground" "rows" "[I", Cond.fieldLink RX0 22 "LacePillow$Ground" "gaps" "[I", Cond.fieldLink RX0 25 "LacePillow$Ground" "kinds" "[I", Cond.fieldLink RX0 28 "LacePillow$Ground" "levels" "[I", Cond.fieldLink RX0 31 "LacePillow$Ground" "before" "[J"]
def wsX7_spell_r5 : List Cond := [Cond.methodLink RX0 50 Lib.Math.abs.name, Cond.static Lib.Math.abs.name, Cond.code Lib.Math.abs.name Lib.Math.abs.code 1 (some .int), Cond.methodLink RX0 56 Lib.Math.max.name, Cond.static Lib.Math.max.name, Cond.code Lib.Math.max.name Lib.Math.max.code 2 (some .int)]
def wsX7_spell : List Cond := .code yX7_spell cX7_spell 3 (some .int) :: ((wsX7_spell_r1 ++ (wsX7_spell_r2 ++ (wsX7_spell_r3 ++ (wsX7_spell_r4 ++ wsX7_spell_r5)))) ++ wsX70 ++ wsX40 ++ wsX20 ++ wsX60 ++ wsX10 ++ wsX50 ++ wsX00)
def wsX7_thinkWord_r1 : List Cond := [Cond.fieldLink RX7 51 "LacePillow" "thought" "LLacePillow$Weave;", Cond.fieldLink RX7 12 "LacePillow" "plan" "LLacePillow$Plan;", Cond.fieldLink RX7 54 "LacePillow" "thoughtStitches" "I", Cond.methodLink RX7 346 yX6_clear, Cond.instanceMethod yX6_clear, Cond.selects RX6 yX6_clear yX6_clear, Cond.initialized RX6, Cond.code yX6_clear cX6_clear 1 none, Cond.fieldLink RX6 18 "LacePillow$Weave" "used" "[I", Cond.fieldLink RX6 21 "LacePillow$Weave" "overs" "[I", Cond.fieldLink RX6 24 "LacePillow$Weave" "unders" "[I", Cond.fieldLink RX6 27 "LacePillow$Weave" "falses" "[I", Cond.fieldLink RX6 30 "LacePillow$Weave" "sides" "[I", Cond.fieldLink RX6 33 "LacePillow$Weave" "passes" "[I", Cond.fieldLink RX6 39 "LacePillow$Weave" "heap" "LLacePillow$Heap;", Cond.fieldLink RX6 43 "LacePillow$Weave" "crossings" "I", Cond.methodLink RX6 47 yX6_sendHome, Cond.instanceMethod yX6_sendHome, Cond.selects RX6 yX6_sendHome yX6_sendHome, Cond.code yX6_sendHome cX6_sendHome 2 none, Cond.fieldLink RX6 9 "LacePillow$Weave" "threads" "[I", Cond.fieldLink RX6 15 "LacePillow$Weave" "places" "[I", Cond.methodLink RX6 50 yJ7_fill_53178, Cond.static yJ7_fill_53178]
def wsX7_thinkWord_r2 : List Cond := [Cond.initialized RJ7, Cond.code yJ7_fill_53178 cJ7_fill_53178 4 none, Cond.methodLink RX6 56 yX1_clear, Cond.instanceMethod yX1_clear, Cond.selects RX1 yX1_clear yX1_clear, Cond.initialized RX1, Cond.code yX1_clear cX1_clear 1 none, Cond.fieldLink RX1 9 "LacePillow$Heap" "size" "I", Cond.fieldLink RX1 15 "LacePillow$Heap" "signs" "[I", Cond.fieldLink RX1 19 "LacePillow$Heap" "tops" "[I", Cond.methodLink RX1 22 yJ7_fill_53178, Cond.methodLink RX7 355 yX6_make, Cond.instanceMethod yX6_make, Cond.selects RX6 yX6_make yX6_make, Cond.code yX6_make cX6_make 7 none, Cond.fieldLink RX6 59 "LacePillow$Plan" "lengths" "[I", Cond.fieldLink RX6 64 "LacePillow$Plan" "letters" "[I", Cond.methodLink RX6 67 yX6_cross, Cond.instanceMethod yX6_cross, Cond.selects RX6 yX6_cross yX6_cross, Cond.code yX6_cross cX6_cross 5 none, Cond.methodLink RX6 71 yX6_pass, Cond.instanceMethod yX6_pass, Cond.selects RX6 yX6_pass yX6_pass]
def wsX7_thinkWord_r3 : List Cond := [Cond.code yX6_pass cX6_pass 3 none, Cond.methodLink RX6 77 yX6_noteSide, Cond.instanceMethod yX6_noteSide, Cond.selects RX6 yX6_noteSide yX6_noteSide, Cond.code yX6_noteSide cX6_noteSide 3 none, Cond.methodLink RX6 74 yX1_add, Cond.instanceMethod yX1_add, Cond.selects RX1 yX1_add yX1_add, Cond.code yX1_add cX1_add 6 none, Cond.methodLink RX1 34 Lib.Math.max.name, Cond.static Lib.Math.max.name, Cond.initialized "java/lang/Math", Cond.code Lib.Math.max.name Lib.Math.max.code 2 (some .int), Cond.methodLink RX1 40 yX1_takeTop, Cond.instanceMethod yX1_takeTop, Cond.selects RX1 yX1_takeTop yX1_takeTop, Cond.code yX1_takeTop cX1_takeTop 4 none]
def wsX7_thinkWord : List Cond := .code yX7_thinkWord cX7_thinkWord 2 none :: ((wsX7_thinkWord_r1 ++ (wsX7_thinkWord_r2 ++ wsX7_thinkWord_r3)) ++ wsX70 ++ wsX60 ++ wsX10 ++ wsX20)
def wsX7_word_r1 : List Cond := [Cond.fieldLink RX7 12 "LacePillow" "plan" "LLacePillow$Plan;", Cond.fieldLink RX7 132 "LacePillow$Plan" "lengths" "[I", Cond.fieldLink RX7 51 "LacePillow" "thought" "LLacePillow$Weave;", Cond.fieldLink RX7 139 "LacePillow$Weave" "crossings" "I", Cond.fieldLink RX7 142 "LacePillow$Weave" "heap" "LLacePillow$Heap;", Cond.fieldLink RX7 145 "LacePillow$Heap" "size" "I", Cond.fieldLink RX7 150 "LacePillow$Weave" "places" "[I", Cond.methodLink RX7 120 yX7_isKind, Cond.static yX7_isKind, Cond.initialized RX7, Cond.code yX7_isKind cX7_isKind 1 (some .boolean), Cond.methodLink RX7 80 yX7_fail, Cond.instanceMethod yX7_fail, Cond.selects RX7 yX7_fail yX7_fail, Cond.code yX7_fail cX7_fail 2 (some .int), Cond.fieldLink RX7 75 "LacePillow" "errors" "[I", Cond.constant RX7 343 (-1000000000), Cond.methodLink RX7 135 yX7_thinkWord, Cond.instanceMethod yX7_thinkWord, Cond.selects RX7 yX7_thinkWord yX7_thinkWord, Cond.code yX7_thinkWord cX7_thinkWord 2 none, Cond.fieldLink RX7 54 "LacePillow" "thoughtStitches" "I", Cond.methodLink RX7 346 yX6_clear, Cond.instanceMethod yX6_clear]
def wsX7_word_r2 : List Cond := [Cond.selects RX6 yX6_clear yX6_clear, Cond.initialized RX6, Cond.code yX6_clear cX6_clear 1 none, Cond.fieldLink RX6 18 "LacePillow$Weave" "used" "[I", Cond.fieldLink RX6 21 "LacePillow$Weave" "overs" "[I", Cond.fieldLink RX6 24 "LacePillow$Weave" "unders" "[I", Cond.fieldLink RX6 27 "LacePillow$Weave" "falses" "[I", Cond.fieldLink RX6 30 "LacePillow$Weave" "sides" "[I", Cond.fieldLink RX6 33 "LacePillow$Weave" "passes" "[I", Cond.fieldLink RX6 39 "LacePillow$Weave" "heap" "LLacePillow$Heap;", Cond.fieldLink RX6 43 "LacePillow$Weave" "crossings" "I", Cond.methodLink RX6 47 yX6_sendHome, Cond.instanceMethod yX6_sendHome, Cond.selects RX6 yX6_sendHome yX6_sendHome, Cond.code yX6_sendHome cX6_sendHome 2 none, Cond.fieldLink RX6 9 "LacePillow$Weave" "threads" "[I", Cond.fieldLink RX6 15 "LacePillow$Weave" "places" "[I", Cond.methodLink RX6 50 yJ7_fill_53178, Cond.static yJ7_fill_53178, Cond.initialized RJ7, Cond.code yJ7_fill_53178 cJ7_fill_53178 4 none, Cond.methodLink RX6 56 yX1_clear, Cond.instanceMethod yX1_clear, Cond.selects RX1 yX1_clear yX1_clear]
def wsX7_word_r3 : List Cond := [Cond.initialized RX1, Cond.code yX1_clear cX1_clear 1 none, Cond.fieldLink RX1 9 "LacePillow$Heap" "size" "I", Cond.fieldLink RX1 15 "LacePillow$Heap" "signs" "[I", Cond.fieldLink RX1 19 "LacePillow$Heap" "tops" "[I", Cond.methodLink RX1 22 yJ7_fill_53178, Cond.methodLink RX7 355 yX6_make, Cond.instanceMethod yX6_make, Cond.selects RX6 yX6_make yX6_make, Cond.code yX6_make cX6_make 7 none, Cond.fieldLink RX6 59 "LacePillow$Plan" "lengths" "[I", Cond.fieldLink RX6 64 "LacePillow$Plan" "letters" "[I", Cond.methodLink RX6 67 yX6_cross, Cond.instanceMethod yX6_cross, Cond.selects RX6 yX6_cross yX6_cross, Cond.code yX6_cross cX6_cross 5 none, Cond.methodLink RX6 71 yX6_pass, Cond.instanceMethod yX6_pass, Cond.selects RX6 yX6_pass yX6_pass, Cond.code yX6_pass cX6_pass 3 none, Cond.methodLink RX6 77 yX6_noteSide, Cond.instanceMethod yX6_noteSide, Cond.selects RX6 yX6_noteSide yX6_noteSide, Cond.code yX6_noteSide cX6_noteSide 3 none]
def wsX7_word_r4 : List Cond := [Cond.methodLink RX6 74 yX1_add, Cond.instanceMethod yX1_add, Cond.selects RX1 yX1_add yX1_add, Cond.code yX1_add cX1_add 6 none, Cond.methodLink RX1 34 Lib.Math.max.name, Cond.static Lib.Math.max.name, Cond.initialized "java/lang/Math", Cond.code Lib.Math.max.name Lib.Math.max.code 2 (some .int), Cond.methodLink RX1 40 yX1_takeTop, Cond.instanceMethod yX1_takeTop, Cond.selects RX1 yX1_takeTop yX1_takeTop, Cond.code yX1_takeTop cX1_takeTop 4 none, Cond.methodLink RX7 146 yX6_commonTurns, Cond.instanceMethod yX6_commonTurns, Cond.selects RX6 yX6_commonTurns yX6_commonTurns, Cond.code yX6_commonTurns cX6_commonTurns 4 (some .long), Cond.methodLink RX6 80 yX6_turnsOf, Cond.instanceMethod yX6_turnsOf, Cond.selects RX6 yX6_turnsOf yX6_turnsOf, Cond.code yX6_turnsOf cX6_turnsOf 4 (some .int), Cond.methodLink RX6 84 yX6_leastCommonMultiple, Cond.static yX6_leastCommonMultiple, Cond.code yX6_leastCommonMultiple cX6_leastCommonMultiple 4 (some .long)]
def wsX7_word : List Cond := .code yX7_word cX7_word 3 (some .int) :: ((wsX7_word_r1 ++ (wsX7_word_r2 ++ (wsX7_word_r3 ++ wsX7_word_r4))) ++ wsX70 ++ wsX20 ++ wsX60 ++ wsX10)
def wsX7_letter : List Cond := .code yX7_letter cX7_letter 3 (some .int) :: ([.fieldLink RX7 12 "LacePillow" "plan" "LLacePillow$Plan;", .fieldLink RX7 132 "LacePillow$Plan" "lengths" "[I", .fieldLink RX7 153 "LacePillow$Plan" "letters" "[I", .methodLink RX7 120 yX7_isKind, .static yX7_isKind, .initialized RX7, .code yX7_isKind cX7_isKind 1 (some .boolean), .methodLink RX7 80 yX7_fail, .instanceMethod yX7_fail, .selects RX7 yX7_fail yX7_fail, .code yX7_fail cX7_fail 2 (some .int), .fieldLink RX7 75 "LacePillow" "errors" "[I", .constant RX7 343 (-1000000000)] ++ wsX70 ++ wsX20)
def wsX7_noneIfBelow0 : List Cond := .code yX7_noneIfBelow0 cX7_noneIfBelow0 2 (some .int) :: ([.methodLink RX7 80 yX7_fail, .instanceMethod yX7_fail, .selects RX7 yX7_fail yX7_fail, .initialized RX7, .code yX7_fail cX7_fail 2 (some .int), .fieldLink RX7 75 "LacePillow" "errors" "[I", .constant RX7 343 (-1000000000)] ++ wsX70)
def wsX7_stitches_r1 : List Cond := [Cond.fieldLink RX7 33 "LacePillow" "ground" "LLacePillow$Ground;", Cond.fieldLink RX7 119 "LacePillow$Ground" "size" "I", Cond.fieldLink RX7 156 "LacePillow$Ground" "deep" "I", Cond.fieldLink RX7 58 "LacePillow" "workedBits" "J", Cond.fieldLink RX7 12 "LacePillow" "plan" "LLacePillow$Plan;", Cond.fieldLink RX7 169 "LacePillow$Plan" "worked" "I", Cond.methodLink RX7 159 yX0_longestChain, Cond.instanceMethod yX0_longestChain, Cond.selects RX0 yX0_longestChain yX0_longestChain, Cond.initialized RX0, Cond.code yX0_longestChain cX0_longestChain 3 (some .int), Cond.fieldLink RX0 9 "LacePillow$Ground" "size" "I", Cond.fieldLink RX0 28 "LacePillow$Ground" "levels" "[I", Cond.methodLink RX0 56 Lib.Math.max.name, Cond.static Lib.Math.max.name, Cond.initialized "java/lang/Math", Cond.code Lib.Math.max.name Lib.Math.max.code 2 (some .int), Cond.methodLink RX7 162 yX0_widest, Cond.instanceMethod yX0_widest, Cond.selects RX0 yX0_widest yX0_widest, Cond.code yX0_widest cX0_widest 4 (some .int), Cond.fieldLink RX0 22 "LacePillow$Ground" "gaps" "[I", Cond.fieldLink RX0 35 "LacePillow$Ground" "wides" "[I", Cond.methodLink RX0 70 yX0_widestLeftOf]
def wsX7_stitches_r2 : List Cond := [Cond.instanceMethod yX0_widestLeftOf, Cond.selects RX0 yX0_widestLeftOf yX0_widestLeftOf, Cond.code yX0_widestLeftOf cX0_widestLeftOf 4 (some .int), Cond.methodLink RX0 66 yX0_leads, Cond.instanceMethod yX0_leads, Cond.selects RX0 yX0_leads yX0_leads, Cond.code yX0_leads cX0_leads 3 (some .boolean), Cond.fieldLink RX0 31 "LacePillow$Ground" "before" "[J", Cond.methodLink RX7 165 yX0_countFree, Cond.instanceMethod yX0_countFree, Cond.selects RX0 yX0_countFree yX0_countFree, Cond.code yX0_countFree cX0_countFree 5 (some .int), Cond.methodLink RX0 62 yX0_isFree, Cond.instanceMethod yX0_isFree, Cond.selects RX0 yX0_isFree yX0_isFree, Cond.code yX0_isFree cX0_isFree 4 (some .boolean), Cond.constantLong RX0 60 (-1), Cond.methodLink RX7 172 yX0_leastFree, Cond.instanceMethod yX0_leastFree, Cond.selects RX0 yX0_leastFree yX0_leastFree, Cond.code yX0_leastFree cX0_leastFree 4 (some .int), Cond.methodLink RX7 175 yX7_noneIfBelow0, Cond.instanceMethod yX7_noneIfBelow0, Cond.selects RX7 yX7_noneIfBelow0 yX7_noneIfBelow0]
def wsX7_stitches_r3 : List Cond := [Cond.initialized RX7, Cond.code yX7_noneIfBelow0 cX7_noneIfBelow0 2 (some .int), Cond.methodLink RX7 80 yX7_fail, Cond.instanceMethod yX7_fail, Cond.selects RX7 yX7_fail yX7_fail, Cond.code yX7_fail cX7_fail 2 (some .int), Cond.fieldLink RX7 75 "LacePillow" "errors" "[I", Cond.constant RX7 343 (-1000000000)]
def wsX7_stitches : List Cond := .code yX7_stitches cX7_stitches 2 (some .int) :: ((wsX7_stitches_r1 ++ (wsX7_stitches_r2 ++ wsX7_stitches_r3)) ++ wsX70 ++ wsX00 ++ wsX20)
def wsX7_isStitch : List Cond := .code yX7_isStitch cX7_isStitch 3 (some .boolean) :: ([.fieldLink RX7 33 "LacePillow" "ground" "LLacePillow$Ground;", .fieldLink RX7 119 "LacePillow$Ground" "size" "I"] ++ wsX70 ++ wsX00)
def wsX7_stitch_r1 : List Cond := [Cond.fieldLink RX7 33 "LacePillow" "ground" "LLacePillow$Ground;", Cond.fieldLink RX7 182 "LacePillow$Ground" "rows" "[I", Cond.fieldLink RX7 185 "LacePillow$Ground" "gaps" "[I", Cond.fieldLink RX7 188 "LacePillow$Ground" "kinds" "[I", Cond.fieldLink RX7 191 "LacePillow$Ground" "levels" "[I", Cond.fieldLink RX7 194 "LacePillow$Ground" "before" "[J", Cond.fieldLink RX7 58 "LacePillow" "workedBits" "J", Cond.methodLink RX7 178 yX7_isStitch, Cond.instanceMethod yX7_isStitch, Cond.selects RX7 yX7_isStitch yX7_isStitch, Cond.initialized RX7, Cond.code yX7_isStitch cX7_isStitch 3 (some .boolean), Cond.fieldLink RX7 119 "LacePillow$Ground" "size" "I", Cond.methodLink RX7 80 yX7_fail, Cond.instanceMethod yX7_fail, Cond.selects RX7 yX7_fail yX7_fail, Cond.code yX7_fail cX7_fail 2 (some .int), Cond.fieldLink RX7 75 "LacePillow" "errors" "[I", Cond.constant RX7 343 (-1000000000), Cond.methodLink RX7 198 yJ13_bitCount_95d88, Cond.static yJ13_bitCount_95d88, Cond.initialized RJ13, Cond.code yJ13_bitCount_95d88 cJ13_bitCount_95d88 2 (some .int), Cond.constantLong RJ13 314 (6148914691236517205)]
def wsX7_stitch_r2 : List Cond := [Cond.constantLong RJ13 316 (3689348814741910323), Cond.constantLong RJ13 318 (1085102592571150095), Cond.methodLink RX7 203 yX0_countBehind, Cond.instanceMethod yX0_countBehind, Cond.selects RX0 yX0_countBehind yX0_countBehind, Cond.initialized RX0, Cond.code yX0_countBehind cX0_countBehind 4 (some .int), Cond.fieldLink RX0 9 "LacePillow$Ground" "size" "I", Cond.methodLink RX0 66 yX0_leads, Cond.instanceMethod yX0_leads, Cond.selects RX0 yX0_leads yX0_leads, Cond.code yX0_leads cX0_leads 3 (some .boolean), Cond.fieldLink RX0 31 "LacePillow$Ground" "before" "[J", Cond.methodLink RX7 206 yX0_isFree, Cond.instanceMethod yX0_isFree, Cond.selects RX0 yX0_isFree yX0_isFree, Cond.code yX0_isFree cX0_isFree 4 (some .boolean), Cond.constantLong RX0 60 (-1)]
def wsX7_stitch : List Cond := .code yX7_stitch cX7_stitch 3 (some .int) :: ((wsX7_stitch_r1 ++ wsX7_stitch_r2) ++ wsX70 ++ wsX00)
def wsX7_ahead : List Cond := .code yX7_ahead cX7_ahead 3 (some .int) :: ([.fieldLink RX7 33 "LacePillow" "ground" "LLacePillow$Ground;", .methodLink RX7 178 yX7_isStitch, .instanceMethod yX7_isStitch, .selects RX7 yX7_isStitch yX7_isStitch, .initialized RX7, .code yX7_isStitch cX7_isStitch 3 (some .boolean), .fieldLink RX7 119 "LacePillow$Ground" "size" "I", .methodLink RX7 80 yX7_fail, .instanceMethod yX7_fail, .selects RX7 yX7_fail yX7_fail, .code yX7_fail cX7_fail 2 (some .int), .fieldLink RX7 75 "LacePillow" "errors" "[I", .constant RX7 343 (-1000000000), .methodLink RX7 210 yX0_leads, .instanceMethod yX0_leads, .selects RX0 yX0_leads yX0_leads, .initialized RX0, .code yX0_leads cX0_leads 3 (some .boolean), .fieldLink RX0 31 "LacePillow$Ground" "before" "[J"] ++ wsX70 ++ wsX00)
def wsX7_failLong : List Cond := .code yX7_failLong cX7_failLong 2 (some .long) :: ([.fieldLink RX7 75 "LacePillow" "errors" "[I", .constantLong RX7 344 (-9000000000000000000)] ++ wsX70)
def wsX7_orders_r1 : List Cond := [Cond.fieldLink RX7 33 "LacePillow" "ground" "LLacePillow$Ground;", Cond.fieldLink RX7 119 "LacePillow$Ground" "size" "I", Cond.fieldLink RX7 40 "LacePillow" "ways" "LLacePillow$Ways;", Cond.fieldLink RX7 221 "LacePillow$Ways" "counts" "[J", Cond.methodLink RX7 213 yX7_failLong, Cond.instanceMethod yX7_failLong, Cond.selects RX7 yX7_failLong yX7_failLong, Cond.initialized RX7, Cond.code yX7_failLong cX7_failLong 2 (some .long), Cond.fieldLink RX7 75 "LacePillow" "errors" "[I", Cond.constantLong RX7 344 (-9000000000000000000), Cond.methodLink RX7 217 yX5_reckon, Cond.instanceMethod yX5_reckon, Cond.selects RX5 yX5_reckon yX5_reckon, Cond.initialized RX5, Cond.code yX5_reckon cX5_reckon 6 none, Cond.fieldLink RX5 9 "LacePillow$Ways" "known" "Z", Cond.fieldLink RX5 19 "LacePillow$Ways" "lengths" "[I", Cond.methodLink RX5 32 yX5_sortIntoLines, Cond.instanceMethod yX5_sortIntoLines, Cond.selects RX5 yX5_sortIntoLines yX5_sortIntoLines, Cond.code yX5_sortIntoLines cX5_sortIntoLines 5 none, Cond.fieldLink RX5 29 "LacePillow$Ways" "bits" "[J", Cond.fieldLink RX5 49 "LacePillow$Ground" "size" "I"]
def wsX7_orders_r2 : List Cond := [Cond.fieldLink RX5 55 "LacePillow$Ground" "gaps" "[I", Cond.fieldLink RX5 26 "LacePillow$Ways" "stitches" "[I", Cond.fieldLink RX5 23 "LacePillow$Ways" "strides" "[I", Cond.methodLink RX5 40 yJ7_fill_53178, Cond.static yJ7_fill_53178, Cond.initialized RJ7, Cond.code yJ7_fill_53178 cJ7_fill_53178 4 none, Cond.methodLink RX5 46 yJ7_fill_d0a16, Cond.static yJ7_fill_d0a16, Cond.code yJ7_fill_d0a16 cJ7_fill_d0a16 5 none, Cond.methodLink RX5 36 yX5_reckonState, Cond.instanceMethod yX5_reckonState, Cond.selects RX5 yX5_reckonState yX5_reckonState, Cond.code yX5_reckonState cX5_reckonState 9 none, Cond.fieldLink RX5 15 "LacePillow$Ways" "counts" "[J", Cond.methodLink RX5 58 yX5_bitsOf, Cond.instanceMethod yX5_bitsOf, Cond.selects RX5 yX5_bitsOf yX5_bitsOf, Cond.code yX5_bitsOf cX5_bitsOf 3 (some .long), Cond.methodLink RX5 62 yJ13_bitCount_95d88, Cond.static yJ13_bitCount_95d88, Cond.initialized RJ13, Cond.code yJ13_bitCount_95d88 cJ13_bitCount_95d88 2 (some .int), Cond.constantLong RJ13 314 (6148914691236517205)]
def wsX7_orders_r3 : List Cond := [Cond.constantLong RJ13 316 (3689348814741910323), Cond.constantLong RJ13 318 (1085102592571150095), Cond.methodLink RX5 68 yX5_onward, Cond.instanceMethod yX5_onward, Cond.selects RX5 yX5_onward yX5_onward, Cond.code yX5_onward cX5_onward 7 (some .long), Cond.methodLink RX5 72 yX0_isFree, Cond.instanceMethod yX0_isFree, Cond.selects RX0 yX0_isFree yX0_isFree, Cond.initialized RX0, Cond.code yX0_isFree cX0_isFree 4 (some .boolean), Cond.fieldLink RX0 31 "LacePillow$Ground" "before" "[J", Cond.constantLong RX0 60 (-1), Cond.methodLink RX5 76 yX5_countOf, Cond.instanceMethod yX5_countOf, Cond.selects RX5 yX5_countOf yX5_countOf, Cond.code yX5_countOf cX5_countOf 2 (some .long)]
def wsX7_orders : List Cond := .code yX7_orders cX7_orders 1 (some .long) :: ((wsX7_orders_r1 ++ (wsX7_orders_r2 ++ wsX7_orders_r3)) ++ wsX70 ++ wsX00 ++ wsX50)
def wsX7_order_r1 : List Cond := [Cond.fieldLink RX7 33 "LacePillow" "ground" "LLacePillow$Ground;", Cond.fieldLink RX7 119 "LacePillow$Ground" "size" "I", Cond.fieldLink RX7 40 "LacePillow" "ways" "LLacePillow$Ways;", Cond.fieldLink RX7 221 "LacePillow$Ways" "counts" "[J", Cond.methodLink RX7 178 yX7_isStitch, Cond.instanceMethod yX7_isStitch, Cond.selects RX7 yX7_isStitch yX7_isStitch, Cond.initialized RX7, Cond.code yX7_isStitch cX7_isStitch 3 (some .boolean), Cond.methodLink RX7 80 yX7_fail, Cond.instanceMethod yX7_fail, Cond.selects RX7 yX7_fail yX7_fail, Cond.code yX7_fail cX7_fail 2 (some .int), Cond.fieldLink RX7 75 "LacePillow" "errors" "[I", Cond.constant RX7 343 (-1000000000), Cond.methodLink RX7 217 yX5_reckon, Cond.instanceMethod yX5_reckon, Cond.selects RX5 yX5_reckon yX5_reckon, Cond.initialized RX5, Cond.code yX5_reckon cX5_reckon 6 none, Cond.fieldLink RX5 9 "LacePillow$Ways" "known" "Z", Cond.fieldLink RX5 19 "LacePillow$Ways" "lengths" "[I", Cond.methodLink RX5 32 yX5_sortIntoLines, Cond.instanceMethod yX5_sortIntoLines]
def wsX7_order_r2 : List Cond := [Cond.selects RX5 yX5_sortIntoLines yX5_sortIntoLines, Cond.code yX5_sortIntoLines cX5_sortIntoLines 5 none, Cond.fieldLink RX5 29 "LacePillow$Ways" "bits" "[J", Cond.fieldLink RX5 49 "LacePillow$Ground" "size" "I", Cond.fieldLink RX5 55 "LacePillow$Ground" "gaps" "[I", Cond.fieldLink RX5 26 "LacePillow$Ways" "stitches" "[I", Cond.fieldLink RX5 23 "LacePillow$Ways" "strides" "[I", Cond.methodLink RX5 40 yJ7_fill_53178, Cond.static yJ7_fill_53178, Cond.initialized RJ7, Cond.code yJ7_fill_53178 cJ7_fill_53178 4 none, Cond.methodLink RX5 46 yJ7_fill_d0a16, Cond.static yJ7_fill_d0a16, Cond.code yJ7_fill_d0a16 cJ7_fill_d0a16 5 none, Cond.methodLink RX5 36 yX5_reckonState, Cond.instanceMethod yX5_reckonState, Cond.selects RX5 yX5_reckonState yX5_reckonState, Cond.code yX5_reckonState cX5_reckonState 9 none, Cond.fieldLink RX5 15 "LacePillow$Ways" "counts" "[J", Cond.methodLink RX5 58 yX5_bitsOf, Cond.instanceMethod yX5_bitsOf, Cond.selects RX5 yX5_bitsOf yX5_bitsOf, Cond.code yX5_bitsOf cX5_bitsOf 3 (some .long), Cond.methodLink RX5 62 yJ13_bitCount_95d88]
def wsX7_order_r3 : List Cond := [Cond.static yJ13_bitCount_95d88, Cond.initialized RJ13, Cond.code yJ13_bitCount_95d88 cJ13_bitCount_95d88 2 (some .int), Cond.constantLong RJ13 314 (6148914691236517205), Cond.constantLong RJ13 316 (3689348814741910323), Cond.constantLong RJ13 318 (1085102592571150095), Cond.methodLink RX5 68 yX5_onward, Cond.instanceMethod yX5_onward, Cond.selects RX5 yX5_onward yX5_onward, Cond.code yX5_onward cX5_onward 7 (some .long), Cond.methodLink RX5 72 yX0_isFree, Cond.instanceMethod yX0_isFree, Cond.selects RX0 yX0_isFree yX0_isFree, Cond.initialized RX0, Cond.code yX0_isFree cX0_isFree 4 (some .boolean), Cond.fieldLink RX0 31 "LacePillow$Ground" "before" "[J", Cond.constantLong RX0 60 (-1), Cond.methodLink RX5 76 yX5_countOf, Cond.instanceMethod yX5_countOf, Cond.selects RX5 yX5_countOf yX5_countOf, Cond.code yX5_countOf cX5_countOf 2 (some .long), Cond.methodLink RX7 224 yX5_stitchOf, Cond.instanceMethod yX5_stitchOf, Cond.selects RX5 yX5_stitchOf yX5_stitchOf]
def wsX7_order_r4 : List Cond := [Cond.code yX5_stitchOf cX5_stitchOf 15 (some .int), Cond.methodLink RX5 80 yX5_strideOf, Cond.instanceMethod yX5_strideOf, Cond.selects RX5 yX5_strideOf yX5_strideOf, Cond.code yX5_strideOf cX5_strideOf 3 (some .int)]
def wsX7_order : List Cond := .code yX7_order cX7_order 4 (some .int) :: ((wsX7_order_r1 ++ (wsX7_order_r2 ++ (wsX7_order_r3 ++ wsX7_order_r4))) ++ wsX70 ++ wsX00 ++ wsX50)
def wsX7_isSheet : List Cond := .code yX7_isSheet cX7_isSheet 1 (some .boolean) :: ([])
def wsX7_rank_r1 : List Cond := [Cond.fieldLink RX7 33 "LacePillow" "ground" "LLacePillow$Ground;", Cond.fieldLink RX7 119 "LacePillow$Ground" "size" "I", Cond.fieldLink RX7 71 "LacePillow" "sheets" "[LLacePillow$Sheet;", Cond.fieldLink RX7 231 "LacePillow$Sheet" "sort" "I", Cond.fieldLink RX7 40 "LacePillow" "ways" "LLacePillow$Ways;", Cond.methodLink RX7 228 yX7_isSheet, Cond.static yX7_isSheet, Cond.initialized RX7, Cond.code yX7_isSheet cX7_isSheet 1 (some .boolean), Cond.methodLink RX7 213 yX7_failLong, Cond.instanceMethod yX7_failLong, Cond.selects RX7 yX7_failLong yX7_failLong, Cond.code yX7_failLong cX7_failLong 2 (some .long), Cond.fieldLink RX7 75 "LacePillow" "errors" "[I", Cond.constantLong RX7 344 (-9000000000000000000), Cond.methodLink RX7 217 yX5_reckon, Cond.instanceMethod yX5_reckon, Cond.selects RX5 yX5_reckon yX5_reckon, Cond.initialized RX5, Cond.code yX5_reckon cX5_reckon 6 none, Cond.fieldLink RX5 9 "LacePillow$Ways" "known" "Z", Cond.fieldLink RX5 19 "LacePillow$Ways" "lengths" "[I", Cond.methodLink RX5 32 yX5_sortIntoLines, Cond.instanceMethod yX5_sortIntoLines]
def wsX7_rank_r2 : List Cond := [Cond.selects RX5 yX5_sortIntoLines yX5_sortIntoLines, Cond.code yX5_sortIntoLines cX5_sortIntoLines 5 none, Cond.fieldLink RX5 29 "LacePillow$Ways" "bits" "[J", Cond.fieldLink RX5 49 "LacePillow$Ground" "size" "I", Cond.fieldLink RX5 55 "LacePillow$Ground" "gaps" "[I", Cond.fieldLink RX5 26 "LacePillow$Ways" "stitches" "[I", Cond.fieldLink RX5 23 "LacePillow$Ways" "strides" "[I", Cond.methodLink RX5 40 yJ7_fill_53178, Cond.static yJ7_fill_53178, Cond.initialized RJ7, Cond.code yJ7_fill_53178 cJ7_fill_53178 4 none, Cond.methodLink RX5 46 yJ7_fill_d0a16, Cond.static yJ7_fill_d0a16, Cond.code yJ7_fill_d0a16 cJ7_fill_d0a16 5 none, Cond.methodLink RX5 36 yX5_reckonState, Cond.instanceMethod yX5_reckonState, Cond.selects RX5 yX5_reckonState yX5_reckonState, Cond.code yX5_reckonState cX5_reckonState 9 none, Cond.fieldLink RX5 15 "LacePillow$Ways" "counts" "[J", Cond.methodLink RX5 58 yX5_bitsOf, Cond.instanceMethod yX5_bitsOf, Cond.selects RX5 yX5_bitsOf yX5_bitsOf, Cond.code yX5_bitsOf cX5_bitsOf 3 (some .long), Cond.methodLink RX5 62 yJ13_bitCount_95d88]
def wsX7_rank_r3 : List Cond := [Cond.static yJ13_bitCount_95d88, Cond.initialized RJ13, Cond.code yJ13_bitCount_95d88 cJ13_bitCount_95d88 2 (some .int), Cond.constantLong RJ13 314 (6148914691236517205), Cond.constantLong RJ13 316 (3689348814741910323), Cond.constantLong RJ13 318 (1085102592571150095), Cond.methodLink RX5 68 yX5_onward, Cond.instanceMethod yX5_onward, Cond.selects RX5 yX5_onward yX5_onward, Cond.code yX5_onward cX5_onward 7 (some .long), Cond.methodLink RX5 72 yX0_isFree, Cond.instanceMethod yX0_isFree, Cond.selects RX0 yX0_isFree yX0_isFree, Cond.initialized RX0, Cond.code yX0_isFree cX0_isFree 4 (some .boolean), Cond.fieldLink RX0 31 "LacePillow$Ground" "before" "[J", Cond.constantLong RX0 60 (-1), Cond.methodLink RX5 76 yX5_countOf, Cond.instanceMethod yX5_countOf, Cond.selects RX5 yX5_countOf yX5_countOf, Cond.code yX5_countOf cX5_countOf 2 (some .long), Cond.methodLink RX7 234 yX5_numberOf, Cond.instanceMethod yX5_numberOf, Cond.selects RX5 yX5_numberOf yX5_numberOf]
def wsX7_rank_r4 : List Cond := [Cond.code yX5_numberOf cX5_numberOf 13 (some .long), Cond.fieldLink RX5 84 "LacePillow$Sheet" "size" "I", Cond.constantLong RX5 87 (-1), Cond.fieldLink RX5 89 "LacePillow$Sheet" "numbers" "[J", Cond.methodLink RX5 80 yX5_strideOf, Cond.instanceMethod yX5_strideOf, Cond.selects RX5 yX5_strideOf yX5_strideOf, Cond.code yX5_strideOf cX5_strideOf 3 (some .int)]
def wsX7_rank : List Cond := .code yX7_rank cX7_rank 4 (some .long) :: ((wsX7_rank_r1 ++ (wsX7_rank_r2 ++ (wsX7_rank_r3 ++ wsX7_rank_r4))) ++ wsX70 ++ wsX00 ++ wsX30 ++ wsX50)
def wsX7_replay_r1 : List Cond := [Cond.fieldLink RX7 47 "LacePillow" "done" "LLacePillow$Weave;", Cond.fieldLink RX7 58 "LacePillow" "workedBits" "J", Cond.fieldLink RX7 12 "LacePillow" "plan" "LLacePillow$Plan;", Cond.fieldLink RX7 169 "LacePillow$Plan" "worked" "I", Cond.fieldLink RX7 251 "LacePillow$Plan" "work" "[I", Cond.fieldLink RX7 33 "LacePillow" "ground" "LLacePillow$Ground;", Cond.fieldLink RX7 188 "LacePillow$Ground" "kinds" "[I", Cond.fieldLink RX7 185 "LacePillow$Ground" "gaps" "[I", Cond.methodLink RX7 346 yX6_clear, Cond.instanceMethod yX6_clear, Cond.selects RX6 yX6_clear yX6_clear, Cond.initialized RX6, Cond.code yX6_clear cX6_clear 1 none, Cond.fieldLink RX6 18 "LacePillow$Weave" "used" "[I", Cond.fieldLink RX6 21 "LacePillow$Weave" "overs" "[I", Cond.fieldLink RX6 24 "LacePillow$Weave" "unders" "[I", Cond.fieldLink RX6 27 "LacePillow$Weave" "falses" "[I", Cond.fieldLink RX6 30 "LacePillow$Weave" "sides" "[I", Cond.fieldLink RX6 33 "LacePillow$Weave" "passes" "[I", Cond.fieldLink RX6 39 "LacePillow$Weave" "heap" "LLacePillow$Heap;", Cond.fieldLink RX6 43 "LacePillow$Weave" "crossings" "I", Cond.methodLink RX6 47 yX6_sendHome, Cond.instanceMethod yX6_sendHome, Cond.selects RX6 yX6_sendHome yX6_sendHome]
def wsX7_replay_r2 : List Cond := [Cond.code yX6_sendHome cX6_sendHome 2 none, Cond.fieldLink RX6 9 "LacePillow$Weave" "threads" "[I", Cond.fieldLink RX6 15 "LacePillow$Weave" "places" "[I", Cond.methodLink RX6 50 yJ7_fill_53178, Cond.static yJ7_fill_53178, Cond.initialized RJ7, Cond.code yJ7_fill_53178 cJ7_fill_53178 4 none, Cond.methodLink RX6 56 yX1_clear, Cond.instanceMethod yX1_clear, Cond.selects RX1 yX1_clear yX1_clear, Cond.initialized RX1, Cond.code yX1_clear cX1_clear 1 none, Cond.fieldLink RX1 9 "LacePillow$Heap" "size" "I", Cond.fieldLink RX1 15 "LacePillow$Heap" "signs" "[I", Cond.fieldLink RX1 19 "LacePillow$Heap" "tops" "[I", Cond.methodLink RX1 22 yJ7_fill_53178, Cond.methodLink RX7 355 yX6_make, Cond.instanceMethod yX6_make, Cond.selects RX6 yX6_make yX6_make, Cond.code yX6_make cX6_make 7 none, Cond.fieldLink RX6 59 "LacePillow$Plan" "lengths" "[I", Cond.fieldLink RX6 64 "LacePillow$Plan" "letters" "[I", Cond.methodLink RX6 67 yX6_cross, Cond.instanceMethod yX6_cross]
def wsX7_replay_r3 : List Cond := [Cond.selects RX6 yX6_cross yX6_cross, Cond.code yX6_cross cX6_cross 5 none, Cond.methodLink RX6 71 yX6_pass, Cond.instanceMethod yX6_pass, Cond.selects RX6 yX6_pass yX6_pass, Cond.code yX6_pass cX6_pass 3 none, Cond.methodLink RX6 77 yX6_noteSide, Cond.instanceMethod yX6_noteSide, Cond.selects RX6 yX6_noteSide yX6_noteSide, Cond.code yX6_noteSide cX6_noteSide 3 none, Cond.methodLink RX6 74 yX1_add, Cond.instanceMethod yX1_add, Cond.selects RX1 yX1_add yX1_add, Cond.code yX1_add cX1_add 6 none, Cond.methodLink RX1 34 Lib.Math.max.name, Cond.static Lib.Math.max.name, Cond.initialized "java/lang/Math", Cond.code Lib.Math.max.name Lib.Math.max.code 2 (some .int), Cond.methodLink RX1 40 yX1_takeTop, Cond.instanceMethod yX1_takeTop, Cond.selects RX1 yX1_takeTop yX1_takeTop, Cond.code yX1_takeTop cX1_takeTop 4 none]
def wsX7_replay : List Cond := .code yX7_replay cX7_replay 3 none :: ((wsX7_replay_r1 ++ (wsX7_replay_r2 ++ wsX7_replay_r3)) ++ wsX70 ++ wsX20 ++ wsX00 ++ wsX60 ++ wsX10)
def wsX7_tryStitch_r1 : List Cond := [Cond.fieldLink RX7 33 "LacePillow" "ground" "LLacePillow$Ground;", Cond.fieldLink RX7 58 "LacePillow" "workedBits" "J", Cond.fieldLink RX7 47 "LacePillow" "done" "LLacePillow$Weave;", Cond.fieldLink RX7 12 "LacePillow" "plan" "LLacePillow$Plan;", Cond.fieldLink RX7 188 "LacePillow$Ground" "kinds" "[I", Cond.fieldLink RX7 185 "LacePillow$Ground" "gaps" "[I", Cond.fieldLink RX7 263 "LacePillow$Plan" "wound" "[I", Cond.fieldLink RX7 251 "LacePillow$Plan" "work" "[I", Cond.fieldLink RX7 169 "LacePillow$Plan" "worked" "I", Cond.methodLink RX7 178 yX7_isStitch, Cond.instanceMethod yX7_isStitch, Cond.selects RX7 yX7_isStitch yX7_isStitch, Cond.initialized RX7, Cond.code yX7_isStitch cX7_isStitch 3 (some .boolean), Cond.fieldLink RX7 119 "LacePillow$Ground" "size" "I", Cond.methodLink RX7 206 yX0_isFree, Cond.instanceMethod yX0_isFree, Cond.selects RX0 yX0_isFree yX0_isFree, Cond.initialized RX0, Cond.code yX0_isFree cX0_isFree 4 (some .boolean), Cond.fieldLink RX0 31 "LacePillow$Ground" "before" "[J", Cond.constantLong RX0 60 (-1), Cond.methodLink RX7 355 yX6_make, Cond.instanceMethod yX6_make]
def wsX7_tryStitch_r2 : List Cond := [Cond.selects RX6 yX6_make yX6_make, Cond.initialized RX6, Cond.code yX6_make cX6_make 7 none, Cond.fieldLink RX6 18 "LacePillow$Weave" "used" "[I", Cond.fieldLink RX6 9 "LacePillow$Weave" "threads" "[I", Cond.fieldLink RX6 59 "LacePillow$Plan" "lengths" "[I", Cond.fieldLink RX6 64 "LacePillow$Plan" "letters" "[I", Cond.methodLink RX6 67 yX6_cross, Cond.instanceMethod yX6_cross, Cond.selects RX6 yX6_cross yX6_cross, Cond.code yX6_cross cX6_cross 5 none, Cond.fieldLink RX6 15 "LacePillow$Weave" "places" "[I", Cond.fieldLink RX6 39 "LacePillow$Weave" "heap" "LLacePillow$Heap;", Cond.fieldLink RX6 43 "LacePillow$Weave" "crossings" "I", Cond.methodLink RX6 71 yX6_pass, Cond.instanceMethod yX6_pass, Cond.selects RX6 yX6_pass yX6_pass, Cond.code yX6_pass cX6_pass 3 none, Cond.fieldLink RX6 21 "LacePillow$Weave" "overs" "[I", Cond.fieldLink RX6 24 "LacePillow$Weave" "unders" "[I", Cond.fieldLink RX6 33 "LacePillow$Weave" "passes" "[I", Cond.methodLink RX6 77 yX6_noteSide, Cond.instanceMethod yX6_noteSide, Cond.selects RX6 yX6_noteSide yX6_noteSide]
def wsX7_tryStitch_r3 : List Cond := [Cond.code yX6_noteSide cX6_noteSide 3 none, Cond.fieldLink RX6 30 "LacePillow$Weave" "sides" "[I", Cond.fieldLink RX6 27 "LacePillow$Weave" "falses" "[I", Cond.methodLink RX6 74 yX1_add, Cond.instanceMethod yX1_add, Cond.selects RX1 yX1_add yX1_add, Cond.initialized RX1, Cond.code yX1_add cX1_add 6 none, Cond.fieldLink RX1 19 "LacePillow$Heap" "tops" "[I", Cond.methodLink RX1 34 Lib.Math.max.name, Cond.static Lib.Math.max.name, Cond.initialized "java/lang/Math", Cond.code Lib.Math.max.name Lib.Math.max.code 2 (some .int), Cond.fieldLink RX1 15 "LacePillow$Heap" "signs" "[I", Cond.fieldLink RX1 9 "LacePillow$Heap" "size" "I", Cond.methodLink RX1 40 yX1_takeTop, Cond.instanceMethod yX1_takeTop, Cond.selects RX1 yX1_takeTop yX1_takeTop, Cond.code yX1_takeTop cX1_takeTop 4 none, Cond.methodLink RX7 287 yX6_leastLacking, Cond.instanceMethod yX6_leastLacking, Cond.selects RX6 yX6_leastLacking yX6_leastLacking, Cond.code yX6_leastLacking cX6_leastLacking 3 (some .int), Cond.methodLink RX7 248 yX7_replay]
def wsX7_tryStitch_r4 : List Cond := [Cond.instanceMethod yX7_replay, Cond.selects RX7 yX7_replay yX7_replay, Cond.code yX7_replay cX7_replay 3 none, Cond.methodLink RX7 346 yX6_clear, Cond.instanceMethod yX6_clear, Cond.selects RX6 yX6_clear yX6_clear, Cond.code yX6_clear cX6_clear 1 none, Cond.methodLink RX6 47 yX6_sendHome, Cond.instanceMethod yX6_sendHome, Cond.selects RX6 yX6_sendHome yX6_sendHome, Cond.code yX6_sendHome cX6_sendHome 2 none, Cond.methodLink RX6 50 yJ7_fill_53178, Cond.static yJ7_fill_53178, Cond.initialized RJ7, Cond.code yJ7_fill_53178 cJ7_fill_53178 4 none, Cond.methodLink RX6 56 yX1_clear, Cond.instanceMethod yX1_clear, Cond.selects RX1 yX1_clear yX1_clear, Cond.code yX1_clear cX1_clear 1 none, Cond.methodLink RX1 22 yJ7_fill_53178]
def wsX7_tryStitch : List Cond := .code yX7_tryStitch cX7_tryStitch 4 (some .int) :: ((wsX7_tryStitch_r1 ++ (wsX7_tryStitch_r2 ++ (wsX7_tryStitch_r3 ++ wsX7_tryStitch_r4))) ++ wsX70 ++ wsX00 ++ wsX20 ++ wsX60 ++ wsX10)
def wsX7_work_r1 : List Cond := [Cond.fieldLink RX7 12 "LacePillow" "plan" "LLacePillow$Plan;", Cond.fieldLink RX7 33 "LacePillow" "ground" "LLacePillow$Ground;", Cond.fieldLink RX7 188 "LacePillow$Ground" "kinds" "[I", Cond.methodLink RX7 238 yX7_tryStitch, Cond.instanceMethod yX7_tryStitch, Cond.selects RX7 yX7_tryStitch yX7_tryStitch, Cond.initialized RX7, Cond.code yX7_tryStitch cX7_tryStitch 4 (some .int), Cond.fieldLink RX7 58 "LacePillow" "workedBits" "J", Cond.fieldLink RX7 47 "LacePillow" "done" "LLacePillow$Weave;", Cond.fieldLink RX7 185 "LacePillow$Ground" "gaps" "[I", Cond.fieldLink RX7 263 "LacePillow$Plan" "wound" "[I", Cond.fieldLink RX7 251 "LacePillow$Plan" "work" "[I", Cond.fieldLink RX7 169 "LacePillow$Plan" "worked" "I", Cond.methodLink RX7 178 yX7_isStitch, Cond.instanceMethod yX7_isStitch, Cond.selects RX7 yX7_isStitch yX7_isStitch, Cond.code yX7_isStitch cX7_isStitch 3 (some .boolean), Cond.fieldLink RX7 119 "LacePillow$Ground" "size" "I", Cond.methodLink RX7 206 yX0_isFree, Cond.instanceMethod yX0_isFree, Cond.selects RX0 yX0_isFree yX0_isFree, Cond.initialized RX0, Cond.code yX0_isFree cX0_isFree 4 (some .boolean)]
def wsX7_work_r2 : List Cond := [Cond.fieldLink RX0 31 "LacePillow$Ground" "before" "[J", Cond.constantLong RX0 60 (-1), Cond.methodLink RX7 355 yX6_make, Cond.instanceMethod yX6_make, Cond.selects RX6 yX6_make yX6_make, Cond.initialized RX6, Cond.code yX6_make cX6_make 7 none, Cond.fieldLink RX6 18 "LacePillow$Weave" "used" "[I", Cond.fieldLink RX6 9 "LacePillow$Weave" "threads" "[I", Cond.fieldLink RX6 59 "LacePillow$Plan" "lengths" "[I", Cond.fieldLink RX6 64 "LacePillow$Plan" "letters" "[I", Cond.methodLink RX6 67 yX6_cross, Cond.instanceMethod yX6_cross, Cond.selects RX6 yX6_cross yX6_cross, Cond.code yX6_cross cX6_cross 5 none, Cond.fieldLink RX6 15 "LacePillow$Weave" "places" "[I", Cond.fieldLink RX6 39 "LacePillow$Weave" "heap" "LLacePillow$Heap;", Cond.fieldLink RX6 43 "LacePillow$Weave" "crossings" "I", Cond.methodLink RX6 71 yX6_pass, Cond.instanceMethod yX6_pass, Cond.selects RX6 yX6_pass yX6_pass, Cond.code yX6_pass cX6_pass 3 none, Cond.fieldLink RX6 21 "LacePillow$Weave" "overs" "[I", Cond.fieldLink RX6 24 "LacePillow$Weave" "unders" "[I"]
def wsX7_work_r3 : List Cond := [Cond.fieldLink RX6 33 "LacePillow$Weave" "passes" "[I", Cond.methodLink RX6 77 yX6_noteSide, Cond.instanceMethod yX6_noteSide, Cond.selects RX6 yX6_noteSide yX6_noteSide, Cond.code yX6_noteSide cX6_noteSide 3 none, Cond.fieldLink RX6 30 "LacePillow$Weave" "sides" "[I", Cond.fieldLink RX6 27 "LacePillow$Weave" "falses" "[I", Cond.methodLink RX6 74 yX1_add, Cond.instanceMethod yX1_add, Cond.selects RX1 yX1_add yX1_add, Cond.initialized RX1, Cond.code yX1_add cX1_add 6 none, Cond.fieldLink RX1 19 "LacePillow$Heap" "tops" "[I", Cond.methodLink RX1 34 Lib.Math.max.name, Cond.static Lib.Math.max.name, Cond.initialized "java/lang/Math", Cond.code Lib.Math.max.name Lib.Math.max.code 2 (some .int), Cond.fieldLink RX1 15 "LacePillow$Heap" "signs" "[I", Cond.fieldLink RX1 9 "LacePillow$Heap" "size" "I", Cond.methodLink RX1 40 yX1_takeTop, Cond.instanceMethod yX1_takeTop, Cond.selects RX1 yX1_takeTop yX1_takeTop, Cond.code yX1_takeTop cX1_takeTop 4 none, Cond.methodLink RX7 287 yX6_leastLacking]
def wsX7_work_r4 : List Cond := [Cond.instanceMethod yX6_leastLacking, Cond.selects RX6 yX6_leastLacking yX6_leastLacking, Cond.code yX6_leastLacking cX6_leastLacking 3 (some .int), Cond.methodLink RX7 248 yX7_replay, Cond.instanceMethod yX7_replay, Cond.selects RX7 yX7_replay yX7_replay, Cond.code yX7_replay cX7_replay 3 none, Cond.methodLink RX7 346 yX6_clear, Cond.instanceMethod yX6_clear, Cond.selects RX6 yX6_clear yX6_clear, Cond.code yX6_clear cX6_clear 1 none, Cond.methodLink RX6 47 yX6_sendHome, Cond.instanceMethod yX6_sendHome, Cond.selects RX6 yX6_sendHome yX6_sendHome, Cond.code yX6_sendHome cX6_sendHome 2 none, Cond.methodLink RX6 50 yJ7_fill_53178, Cond.static yJ7_fill_53178, Cond.initialized RJ7, Cond.code yJ7_fill_53178 cJ7_fill_53178 4 none, Cond.methodLink RX6 56 yX1_clear, Cond.instanceMethod yX1_clear, Cond.selects RX1 yX1_clear yX1_clear, Cond.code yX1_clear cX1_clear 1 none, Cond.methodLink RX1 22 yJ7_fill_53178]
def wsX7_work_r5 : List Cond := [Cond.methodLink RX7 80 yX7_fail, Cond.instanceMethod yX7_fail, Cond.selects RX7 yX7_fail yX7_fail, Cond.code yX7_fail cX7_fail 2 (some .int), Cond.fieldLink RX7 75 "LacePillow" "errors" "[I", Cond.constant RX7 343 (-1000000000), Cond.methodLink RX7 241 yX2_crossingsOf, Cond.instanceMethod yX2_crossingsOf, Cond.selects RX2 yX2_crossingsOf yX2_crossingsOf, Cond.initialized RX2, Cond.code yX2_crossingsOf cX2_crossingsOf 5 (some .int), Cond.fieldLink RX2 22 "LacePillow$Plan" "lengths" "[I", Cond.fieldLink RX2 19 "LacePillow$Plan" "letters" "[I"]
def wsX7_work : List Cond := .code yX7_work cX7_work 3 (some .int) :: ((wsX7_work_r1 ++ (wsX7_work_r2 ++ (wsX7_work_r3 ++ (wsX7_work_r4 ++ wsX7_work_r5)))) ++ wsX70 ++ wsX00 ++ wsX20 ++ wsX60 ++ wsX10)
def wsX7_works_r1 : List Cond := [Cond.fieldLink RX7 71 "LacePillow" "sheets" "[LLacePillow$Sheet;", Cond.fieldLink RX7 231 "LacePillow$Sheet" "sort" "I", Cond.fieldLink RX7 244 "LacePillow$Sheet" "size" "I", Cond.fieldLink RX7 245 "LacePillow$Sheet" "numbers" "[J", Cond.methodLink RX7 228 yX7_isSheet, Cond.static yX7_isSheet, Cond.initialized RX7, Cond.code yX7_isSheet cX7_isSheet 1 (some .boolean), Cond.methodLink RX7 80 yX7_fail, Cond.instanceMethod yX7_fail, Cond.selects RX7 yX7_fail yX7_fail, Cond.code yX7_fail cX7_fail 2 (some .int), Cond.fieldLink RX7 75 "LacePillow" "errors" "[I", Cond.constant RX7 343 (-1000000000), Cond.methodLink RX7 238 yX7_tryStitch, Cond.instanceMethod yX7_tryStitch, Cond.selects RX7 yX7_tryStitch yX7_tryStitch, Cond.code yX7_tryStitch cX7_tryStitch 4 (some .int), Cond.fieldLink RX7 33 "LacePillow" "ground" "LLacePillow$Ground;", Cond.fieldLink RX7 58 "LacePillow" "workedBits" "J", Cond.fieldLink RX7 47 "LacePillow" "done" "LLacePillow$Weave;", Cond.fieldLink RX7 12 "LacePillow" "plan" "LLacePillow$Plan;", Cond.fieldLink RX7 188 "LacePillow$Ground" "kinds" "[I", Cond.fieldLink RX7 185 "LacePillow$Ground" "gaps" "[I"]
def wsX7_works_r2 : List Cond := [Cond.fieldLink RX7 263 "LacePillow$Plan" "wound" "[I", Cond.fieldLink RX7 251 "LacePillow$Plan" "work" "[I", Cond.fieldLink RX7 169 "LacePillow$Plan" "worked" "I", Cond.methodLink RX7 178 yX7_isStitch, Cond.instanceMethod yX7_isStitch, Cond.selects RX7 yX7_isStitch yX7_isStitch, Cond.code yX7_isStitch cX7_isStitch 3 (some .boolean), Cond.fieldLink RX7 119 "LacePillow$Ground" "size" "I", Cond.methodLink RX7 206 yX0_isFree, Cond.instanceMethod yX0_isFree, Cond.selects RX0 yX0_isFree yX0_isFree, Cond.initialized RX0, Cond.code yX0_isFree cX0_isFree 4 (some .boolean), Cond.fieldLink RX0 31 "LacePillow$Ground" "before" "[J", Cond.constantLong RX0 60 (-1), Cond.methodLink RX7 355 yX6_make, Cond.instanceMethod yX6_make, Cond.selects RX6 yX6_make yX6_make, Cond.initialized RX6, Cond.code yX6_make cX6_make 7 none, Cond.fieldLink RX6 18 "LacePillow$Weave" "used" "[I", Cond.fieldLink RX6 9 "LacePillow$Weave" "threads" "[I", Cond.fieldLink RX6 59 "LacePillow$Plan" "lengths" "[I", Cond.fieldLink RX6 64 "LacePillow$Plan" "letters" "[I"]
def wsX7_works_r3 : List Cond := [Cond.methodLink RX6 67 yX6_cross, Cond.instanceMethod yX6_cross, Cond.selects RX6 yX6_cross yX6_cross, Cond.code yX6_cross cX6_cross 5 none, Cond.fieldLink RX6 15 "LacePillow$Weave" "places" "[I", Cond.fieldLink RX6 39 "LacePillow$Weave" "heap" "LLacePillow$Heap;", Cond.fieldLink RX6 43 "LacePillow$Weave" "crossings" "I", Cond.methodLink RX6 71 yX6_pass, Cond.instanceMethod yX6_pass, Cond.selects RX6 yX6_pass yX6_pass, Cond.code yX6_pass cX6_pass 3 none, Cond.fieldLink RX6 21 "LacePillow$Weave" "overs" "[I", Cond.fieldLink RX6 24 "LacePillow$Weave" "unders" "[I", Cond.fieldLink RX6 33 "LacePillow$Weave" "passes" "[I", Cond.methodLink RX6 77 yX6_noteSide, Cond.instanceMethod yX6_noteSide, Cond.selects RX6 yX6_noteSide yX6_noteSide, Cond.code yX6_noteSide cX6_noteSide 3 none, Cond.fieldLink RX6 30 "LacePillow$Weave" "sides" "[I", Cond.fieldLink RX6 27 "LacePillow$Weave" "falses" "[I", Cond.methodLink RX6 74 yX1_add, Cond.instanceMethod yX1_add, Cond.selects RX1 yX1_add yX1_add, Cond.initialized RX1]
def wsX7_works_r4 : List Cond := [Cond.code yX1_add cX1_add 6 none, Cond.fieldLink RX1 19 "LacePillow$Heap" "tops" "[I", Cond.methodLink RX1 34 Lib.Math.max.name, Cond.static Lib.Math.max.name, Cond.initialized "java/lang/Math", Cond.code Lib.Math.max.name Lib.Math.max.code 2 (some .int), Cond.fieldLink RX1 15 "LacePillow$Heap" "signs" "[I", Cond.fieldLink RX1 9 "LacePillow$Heap" "size" "I", Cond.methodLink RX1 40 yX1_takeTop, Cond.instanceMethod yX1_takeTop, Cond.selects RX1 yX1_takeTop yX1_takeTop, Cond.code yX1_takeTop cX1_takeTop 4 none, Cond.methodLink RX7 287 yX6_leastLacking, Cond.instanceMethod yX6_leastLacking, Cond.selects RX6 yX6_leastLacking yX6_leastLacking, Cond.code yX6_leastLacking cX6_leastLacking 3 (some .int), Cond.methodLink RX7 248 yX7_replay, Cond.instanceMethod yX7_replay, Cond.selects RX7 yX7_replay yX7_replay, Cond.code yX7_replay cX7_replay 3 none, Cond.methodLink RX7 346 yX6_clear, Cond.instanceMethod yX6_clear, Cond.selects RX6 yX6_clear yX6_clear, Cond.code yX6_clear cX6_clear 1 none]
def wsX7_works_r5 : List Cond := [Cond.methodLink RX6 47 yX6_sendHome, Cond.instanceMethod yX6_sendHome, Cond.selects RX6 yX6_sendHome yX6_sendHome, Cond.code yX6_sendHome cX6_sendHome 2 none, Cond.methodLink RX6 50 yJ7_fill_53178, Cond.static yJ7_fill_53178, Cond.initialized RJ7, Cond.code yJ7_fill_53178 cJ7_fill_53178 4 none, Cond.methodLink RX6 56 yX1_clear, Cond.instanceMethod yX1_clear, Cond.selects RX1 yX1_clear yX1_clear, Cond.code yX1_clear cX1_clear 1 none, Cond.methodLink RX1 22 yJ7_fill_53178]
def wsX7_works : List Cond := .code yX7_works cX7_works 4 (some .int) :: ((wsX7_works_r1 ++ (wsX7_works_r2 ++ (wsX7_works_r3 ++ (wsX7_works_r4 ++ wsX7_works_r5)))) ++ wsX70 ++ wsX30 ++ wsX00 ++ wsX20 ++ wsX60 ++ wsX10)
def wsX7_back_r1 : List Cond := [Cond.fieldLink RX7 12 "LacePillow" "plan" "LLacePillow$Plan;", Cond.fieldLink RX7 169 "LacePillow$Plan" "worked" "I", Cond.fieldLink RX7 251 "LacePillow$Plan" "work" "[I", Cond.methodLink RX7 80 yX7_fail, Cond.instanceMethod yX7_fail, Cond.selects RX7 yX7_fail yX7_fail, Cond.initialized RX7, Cond.code yX7_fail cX7_fail 2 (some .int), Cond.fieldLink RX7 75 "LacePillow" "errors" "[I", Cond.constant RX7 343 (-1000000000), Cond.methodLink RX7 248 yX7_replay, Cond.instanceMethod yX7_replay, Cond.selects RX7 yX7_replay yX7_replay, Cond.code yX7_replay cX7_replay 3 none, Cond.fieldLink RX7 47 "LacePillow" "done" "LLacePillow$Weave;", Cond.fieldLink RX7 58 "LacePillow" "workedBits" "J", Cond.fieldLink RX7 33 "LacePillow" "ground" "LLacePillow$Ground;", Cond.fieldLink RX7 188 "LacePillow$Ground" "kinds" "[I", Cond.fieldLink RX7 185 "LacePillow$Ground" "gaps" "[I", Cond.methodLink RX7 346 yX6_clear, Cond.instanceMethod yX6_clear, Cond.selects RX6 yX6_clear yX6_clear, Cond.initialized RX6, Cond.code yX6_clear cX6_clear 1 none]
def wsX7_back_r2 : List Cond := [Cond.fieldLink RX6 18 "LacePillow$Weave" "used" "[I", Cond.fieldLink RX6 21 "LacePillow$Weave" "overs" "[I", Cond.fieldLink RX6 24 "LacePillow$Weave" "unders" "[I", Cond.fieldLink RX6 27 "LacePillow$Weave" "falses" "[I", Cond.fieldLink RX6 30 "LacePillow$Weave" "sides" "[I", Cond.fieldLink RX6 33 "LacePillow$Weave" "passes" "[I", Cond.fieldLink RX6 39 "LacePillow$Weave" "heap" "LLacePillow$Heap;", Cond.fieldLink RX6 43 "LacePillow$Weave" "crossings" "I", Cond.methodLink RX6 47 yX6_sendHome, Cond.instanceMethod yX6_sendHome, Cond.selects RX6 yX6_sendHome yX6_sendHome, Cond.code yX6_sendHome cX6_sendHome 2 none, Cond.fieldLink RX6 9 "LacePillow$Weave" "threads" "[I", Cond.fieldLink RX6 15 "LacePillow$Weave" "places" "[I", Cond.methodLink RX6 50 yJ7_fill_53178, Cond.static yJ7_fill_53178, Cond.initialized RJ7, Cond.code yJ7_fill_53178 cJ7_fill_53178 4 none, Cond.methodLink RX6 56 yX1_clear, Cond.instanceMethod yX1_clear, Cond.selects RX1 yX1_clear yX1_clear, Cond.initialized RX1, Cond.code yX1_clear cX1_clear 1 none, Cond.fieldLink RX1 9 "LacePillow$Heap" "size" "I"]
def wsX7_back_r3 : List Cond := [Cond.fieldLink RX1 15 "LacePillow$Heap" "signs" "[I", Cond.fieldLink RX1 19 "LacePillow$Heap" "tops" "[I", Cond.methodLink RX1 22 yJ7_fill_53178, Cond.methodLink RX7 355 yX6_make, Cond.instanceMethod yX6_make, Cond.selects RX6 yX6_make yX6_make, Cond.code yX6_make cX6_make 7 none, Cond.fieldLink RX6 59 "LacePillow$Plan" "lengths" "[I", Cond.fieldLink RX6 64 "LacePillow$Plan" "letters" "[I", Cond.methodLink RX6 67 yX6_cross, Cond.instanceMethod yX6_cross, Cond.selects RX6 yX6_cross yX6_cross, Cond.code yX6_cross cX6_cross 5 none, Cond.methodLink RX6 71 yX6_pass, Cond.instanceMethod yX6_pass, Cond.selects RX6 yX6_pass yX6_pass, Cond.code yX6_pass cX6_pass 3 none, Cond.methodLink RX6 77 yX6_noteSide, Cond.instanceMethod yX6_noteSide, Cond.selects RX6 yX6_noteSide yX6_noteSide, Cond.code yX6_noteSide cX6_noteSide 3 none, Cond.methodLink RX6 74 yX1_add, Cond.instanceMethod yX1_add, Cond.selects RX1 yX1_add yX1_add]
def wsX7_back_r4 : List Cond := [Cond.code yX1_add cX1_add 6 none, Cond.methodLink RX1 34 Lib.Math.max.name, Cond.static Lib.Math.max.name, Cond.initialized "java/lang/Math", Cond.code Lib.Math.max.name Lib.Math.max.code 2 (some .int), Cond.methodLink RX1 40 yX1_takeTop, Cond.instanceMethod yX1_takeTop, Cond.selects RX1 yX1_takeTop yX1_takeTop, Cond.code yX1_takeTop cX1_takeTop 4 none]
def wsX7_back : List Cond := .code yX7_back cX7_back 1 (some .int) :: ((wsX7_back_r1 ++ (wsX7_back_r2 ++ (wsX7_back_r3 ++ wsX7_back_r4))) ++ wsX70 ++ wsX20 ++ wsX00 ++ wsX60 ++ wsX10)
def wsX7_worked : List Cond := .code yX7_worked cX7_worked 2 (some .int) :: ([.fieldLink RX7 12 "LacePillow" "plan" "LLacePillow$Plan;", .fieldLink RX7 169 "LacePillow$Plan" "worked" "I", .fieldLink RX7 251 "LacePillow$Plan" "work" "[I", .methodLink RX7 80 yX7_fail, .instanceMethod yX7_fail, .selects RX7 yX7_fail yX7_fail, .initialized RX7, .code yX7_fail cX7_fail 2 (some .int), .fieldLink RX7 75 "LacePillow" "errors" "[I", .constant RX7 343 (-1000000000)] ++ wsX70 ++ wsX20)
def wsX7_isThread : List Cond := .code yX7_isThread cX7_isThread 2 (some .boolean) :: ([.fieldLink RX7 12 "LacePillow" "plan" "LLacePillow$Plan;", .fieldLink RX7 84 "LacePillow$Plan" "pairs" "I"] ++ wsX70 ++ wsX20)
def wsX7_at : List Cond := .code yX7_at cX7_at 2 (some .int) :: ([.fieldLink RX7 47 "LacePillow" "done" "LLacePillow$Weave;", .fieldLink RX7 257 "LacePillow$Weave" "threads" "[I", .methodLink RX7 254 yX7_isThread, .instanceMethod yX7_isThread, .selects RX7 yX7_isThread yX7_isThread, .initialized RX7, .code yX7_isThread cX7_isThread 2 (some .boolean), .fieldLink RX7 12 "LacePillow" "plan" "LLacePillow$Plan;", .fieldLink RX7 84 "LacePillow$Plan" "pairs" "I", .methodLink RX7 80 yX7_fail, .instanceMethod yX7_fail, .selects RX7 yX7_fail yX7_fail, .code yX7_fail cX7_fail 2 (some .int), .fieldLink RX7 75 "LacePillow" "errors" "[I", .constant RX7 343 (-1000000000)] ++ wsX70 ++ wsX60 ++ wsX20)
def wsX7_wind : List Cond := .code yX7_wind cX7_wind 4 (some .int) :: ([.fieldLink RX7 47 "LacePillow" "done" "LLacePillow$Weave;", .fieldLink RX7 260 "LacePillow$Weave" "used" "[I", .fieldLink RX7 12 "LacePillow" "plan" "LLacePillow$Plan;", .fieldLink RX7 263 "LacePillow$Plan" "wound" "[I", .methodLink RX7 254 yX7_isThread, .instanceMethod yX7_isThread, .selects RX7 yX7_isThread yX7_isThread, .initialized RX7, .code yX7_isThread cX7_isThread 2 (some .boolean), .fieldLink RX7 84 "LacePillow$Plan" "pairs" "I", .methodLink RX7 80 yX7_fail, .instanceMethod yX7_fail, .selects RX7 yX7_fail yX7_fail, .code yX7_fail cX7_fail 2 (some .int), .fieldLink RX7 75 "LacePillow" "errors" "[I", .constant RX7 343 (-1000000000)] ++ wsX70 ++ wsX60 ++ wsX20)
def wsX7_thinkStitches_r1 : List Cond := [Cond.fieldLink RX7 54 "LacePillow" "thoughtStitches" "I", Cond.fieldLink RX7 51 "LacePillow" "thought" "LLacePillow$Weave;", Cond.fieldLink RX7 12 "LacePillow" "plan" "LLacePillow$Plan;", Cond.fieldLink RX7 33 "LacePillow" "ground" "LLacePillow$Ground;", Cond.fieldLink RX7 188 "LacePillow$Ground" "kinds" "[I", Cond.fieldLink RX7 185 "LacePillow$Ground" "gaps" "[I", Cond.methodLink RX7 346 yX6_clear, Cond.instanceMethod yX6_clear, Cond.selects RX6 yX6_clear yX6_clear, Cond.initialized RX6, Cond.code yX6_clear cX6_clear 1 none, Cond.fieldLink RX6 18 "LacePillow$Weave" "used" "[I", Cond.fieldLink RX6 21 "LacePillow$Weave" "overs" "[I", Cond.fieldLink RX6 24 "LacePillow$Weave" "unders" "[I", Cond.fieldLink RX6 27 "LacePillow$Weave" "falses" "[I", Cond.fieldLink RX6 30 "LacePillow$Weave" "sides" "[I", Cond.fieldLink RX6 33 "LacePillow$Weave" "passes" "[I", Cond.fieldLink RX6 39 "LacePillow$Weave" "heap" "LLacePillow$Heap;", Cond.fieldLink RX6 43 "LacePillow$Weave" "crossings" "I", Cond.methodLink RX6 47 yX6_sendHome, Cond.instanceMethod yX6_sendHome, Cond.selects RX6 yX6_sendHome yX6_sendHome, Cond.code yX6_sendHome cX6_sendHome 2 none, Cond.fieldLink RX6 9 "LacePillow$Weave" "threads" "[I"]
def wsX7_thinkStitches_r2 : List Cond := [Cond.fieldLink RX6 15 "LacePillow$Weave" "places" "[I", Cond.methodLink RX6 50 yJ7_fill_53178, Cond.static yJ7_fill_53178, Cond.initialized RJ7, Cond.code yJ7_fill_53178 cJ7_fill_53178 4 none, Cond.methodLink RX6 56 yX1_clear, Cond.instanceMethod yX1_clear, Cond.selects RX1 yX1_clear yX1_clear, Cond.initialized RX1, Cond.code yX1_clear cX1_clear 1 none, Cond.fieldLink RX1 9 "LacePillow$Heap" "size" "I", Cond.fieldLink RX1 15 "LacePillow$Heap" "signs" "[I", Cond.fieldLink RX1 19 "LacePillow$Heap" "tops" "[I", Cond.methodLink RX1 22 yJ7_fill_53178, Cond.methodLink RX7 355 yX6_make, Cond.instanceMethod yX6_make, Cond.selects RX6 yX6_make yX6_make, Cond.code yX6_make cX6_make 7 none, Cond.fieldLink RX6 59 "LacePillow$Plan" "lengths" "[I", Cond.fieldLink RX6 64 "LacePillow$Plan" "letters" "[I", Cond.methodLink RX6 67 yX6_cross, Cond.instanceMethod yX6_cross, Cond.selects RX6 yX6_cross yX6_cross, Cond.code yX6_cross cX6_cross 5 none]
def wsX7_thinkStitches_r3 : List Cond := [Cond.methodLink RX6 71 yX6_pass, Cond.instanceMethod yX6_pass, Cond.selects RX6 yX6_pass yX6_pass, Cond.code yX6_pass cX6_pass 3 none, Cond.methodLink RX6 77 yX6_noteSide, Cond.instanceMethod yX6_noteSide, Cond.selects RX6 yX6_noteSide yX6_noteSide, Cond.code yX6_noteSide cX6_noteSide 3 none, Cond.methodLink RX6 74 yX1_add, Cond.instanceMethod yX1_add, Cond.selects RX1 yX1_add yX1_add, Cond.code yX1_add cX1_add 6 none, Cond.methodLink RX1 34 Lib.Math.max.name, Cond.static Lib.Math.max.name, Cond.initialized "java/lang/Math", Cond.code Lib.Math.max.name Lib.Math.max.code 2 (some .int), Cond.methodLink RX1 40 yX1_takeTop, Cond.instanceMethod yX1_takeTop, Cond.selects RX1 yX1_takeTop yX1_takeTop, Cond.code yX1_takeTop cX1_takeTop 4 none]
def wsX7_thinkStitches : List Cond := .code yX7_thinkStitches cX7_thinkStitches 3 none :: ((wsX7_thinkStitches_r1 ++ (wsX7_thinkStitches_r2 ++ wsX7_thinkStitches_r3)) ++ wsX70 ++ wsX00 ++ wsX60 ++ wsX10 ++ wsX20)
def wsX7_thread_r1 : List Cond := [Cond.fieldLink RX7 12 "LacePillow" "plan" "LLacePillow$Plan;", Cond.fieldLink RX7 263 "LacePillow$Plan" "wound" "[I", Cond.fieldLink RX7 47 "LacePillow" "done" "LLacePillow$Weave;", Cond.fieldLink RX7 260 "LacePillow$Weave" "used" "[I", Cond.fieldLink RX7 150 "LacePillow$Weave" "places" "[I", Cond.fieldLink RX7 33 "LacePillow" "ground" "LLacePillow$Ground;", Cond.fieldLink RX7 119 "LacePillow$Ground" "size" "I", Cond.fieldLink RX7 51 "LacePillow" "thought" "LLacePillow$Weave;", Cond.fieldLink RX7 272 "LacePillow$Weave" "overs" "[I", Cond.fieldLink RX7 275 "LacePillow$Weave" "unders" "[I", Cond.fieldLink RX7 278 "LacePillow$Weave" "falses" "[I", Cond.methodLink RX7 254 yX7_isThread, Cond.instanceMethod yX7_isThread, Cond.selects RX7 yX7_isThread yX7_isThread, Cond.initialized RX7, Cond.code yX7_isThread cX7_isThread 2 (some .boolean), Cond.fieldLink RX7 84 "LacePillow$Plan" "pairs" "I", Cond.methodLink RX7 80 yX7_fail, Cond.instanceMethod yX7_fail, Cond.selects RX7 yX7_fail yX7_fail, Cond.code yX7_fail cX7_fail 2 (some .int), Cond.fieldLink RX7 75 "LacePillow" "errors" "[I", Cond.constant RX7 343 (-1000000000), Cond.methodLink RX7 266 yX7_thinkStitches]
def wsX7_thread_r2 : List Cond := [Cond.instanceMethod yX7_thinkStitches, Cond.selects RX7 yX7_thinkStitches yX7_thinkStitches, Cond.code yX7_thinkStitches cX7_thinkStitches 3 none, Cond.fieldLink RX7 54 "LacePillow" "thoughtStitches" "I", Cond.fieldLink RX7 188 "LacePillow$Ground" "kinds" "[I", Cond.fieldLink RX7 185 "LacePillow$Ground" "gaps" "[I", Cond.methodLink RX7 346 yX6_clear, Cond.instanceMethod yX6_clear, Cond.selects RX6 yX6_clear yX6_clear, Cond.initialized RX6, Cond.code yX6_clear cX6_clear 1 none, Cond.fieldLink RX6 18 "LacePillow$Weave" "used" "[I", Cond.fieldLink RX6 21 "LacePillow$Weave" "overs" "[I", Cond.fieldLink RX6 24 "LacePillow$Weave" "unders" "[I", Cond.fieldLink RX6 27 "LacePillow$Weave" "falses" "[I", Cond.fieldLink RX6 30 "LacePillow$Weave" "sides" "[I", Cond.fieldLink RX6 33 "LacePillow$Weave" "passes" "[I", Cond.fieldLink RX6 39 "LacePillow$Weave" "heap" "LLacePillow$Heap;", Cond.fieldLink RX6 43 "LacePillow$Weave" "crossings" "I", Cond.methodLink RX6 47 yX6_sendHome, Cond.instanceMethod yX6_sendHome, Cond.selects RX6 yX6_sendHome yX6_sendHome, Cond.code yX6_sendHome cX6_sendHome 2 none, Cond.fieldLink RX6 9 "LacePillow$Weave" "threads" "[I"]
def wsX7_thread_r3 : List Cond := [Cond.fieldLink RX6 15 "LacePillow$Weave" "places" "[I", Cond.methodLink RX6 50 yJ7_fill_53178, Cond.static yJ7_fill_53178, Cond.initialized RJ7, Cond.code yJ7_fill_53178 cJ7_fill_53178 4 none, Cond.methodLink RX6 56 yX1_clear, Cond.instanceMethod yX1_clear, Cond.selects RX1 yX1_clear yX1_clear, Cond.initialized RX1, Cond.code yX1_clear cX1_clear 1 none, Cond.fieldLink RX1 9 "LacePillow$Heap" "size" "I", Cond.fieldLink RX1 15 "LacePillow$Heap" "signs" "[I", Cond.fieldLink RX1 19 "LacePillow$Heap" "tops" "[I", Cond.methodLink RX1 22 yJ7_fill_53178, Cond.methodLink RX7 355 yX6_make, Cond.instanceMethod yX6_make, Cond.selects RX6 yX6_make yX6_make, Cond.code yX6_make cX6_make 7 none, Cond.fieldLink RX6 59 "LacePillow$Plan" "lengths" "[I", Cond.fieldLink RX6 64 "LacePillow$Plan" "letters" "[I", Cond.methodLink RX6 67 yX6_cross, Cond.instanceMethod yX6_cross, Cond.selects RX6 yX6_cross yX6_cross, Cond.code yX6_cross cX6_cross 5 none]
def wsX7_thread_r4 : List Cond := [Cond.methodLink RX6 71 yX6_pass, Cond.instanceMethod yX6_pass, Cond.selects RX6 yX6_pass yX6_pass, Cond.code yX6_pass cX6_pass 3 none, Cond.methodLink RX6 77 yX6_noteSide, Cond.instanceMethod yX6_noteSide, Cond.selects RX6 yX6_noteSide yX6_noteSide, Cond.code yX6_noteSide cX6_noteSide 3 none, Cond.methodLink RX6 74 yX1_add, Cond.instanceMethod yX1_add, Cond.selects RX1 yX1_add yX1_add, Cond.code yX1_add cX1_add 6 none, Cond.methodLink RX1 34 Lib.Math.max.name, Cond.static Lib.Math.max.name, Cond.initialized "java/lang/Math", Cond.code Lib.Math.max.name Lib.Math.max.code 2 (some .int), Cond.methodLink RX1 40 yX1_takeTop, Cond.instanceMethod yX1_takeTop, Cond.selects RX1 yX1_takeTop yX1_takeTop, Cond.code yX1_takeTop cX1_takeTop 4 none, Cond.methodLink RX7 269 yX6_turnsOf, Cond.instanceMethod yX6_turnsOf, Cond.selects RX6 yX6_turnsOf yX6_turnsOf, Cond.code yX6_turnsOf cX6_turnsOf 4 (some .int)]
def wsX7_thread : List Cond := .code yX7_thread cX7_thread 3 (some .int) :: ((wsX7_thread_r1 ++ (wsX7_thread_r2 ++ (wsX7_thread_r3 ++ wsX7_thread_r4))) ++ wsX70 ++ wsX20 ++ wsX60 ++ wsX00 ++ wsX10)
def wsX7_place_r1 : List Cond := [Cond.fieldLink RX7 33 "LacePillow" "ground" "LLacePillow$Ground;", Cond.fieldLink RX7 119 "LacePillow$Ground" "size" "I", Cond.fieldLink RX7 51 "LacePillow" "thought" "LLacePillow$Weave;", Cond.fieldLink RX7 150 "LacePillow$Weave" "places" "[I", Cond.methodLink RX7 254 yX7_isThread, Cond.instanceMethod yX7_isThread, Cond.selects RX7 yX7_isThread yX7_isThread, Cond.initialized RX7, Cond.code yX7_isThread cX7_isThread 2 (some .boolean), Cond.fieldLink RX7 12 "LacePillow" "plan" "LLacePillow$Plan;", Cond.fieldLink RX7 84 "LacePillow$Plan" "pairs" "I", Cond.methodLink RX7 80 yX7_fail, Cond.instanceMethod yX7_fail, Cond.selects RX7 yX7_fail yX7_fail, Cond.code yX7_fail cX7_fail 2 (some .int), Cond.fieldLink RX7 75 "LacePillow" "errors" "[I", Cond.constant RX7 343 (-1000000000), Cond.methodLink RX7 266 yX7_thinkStitches, Cond.instanceMethod yX7_thinkStitches, Cond.selects RX7 yX7_thinkStitches yX7_thinkStitches, Cond.code yX7_thinkStitches cX7_thinkStitches 3 none, Cond.fieldLink RX7 54 "LacePillow" "thoughtStitches" "I", Cond.fieldLink RX7 188 "LacePillow$Ground" "kinds" "[I", Cond.fieldLink RX7 185 "LacePillow$Ground" "gaps" "[I"]
def wsX7_place_r2 : List Cond := [Cond.methodLink RX7 346 yX6_clear, Cond.instanceMethod yX6_clear, Cond.selects RX6 yX6_clear yX6_clear, Cond.initialized RX6, Cond.code yX6_clear cX6_clear 1 none, Cond.fieldLink RX6 18 "LacePillow$Weave" "used" "[I", Cond.fieldLink RX6 21 "LacePillow$Weave" "overs" "[I", Cond.fieldLink RX6 24 "LacePillow$Weave" "unders" "[I", Cond.fieldLink RX6 27 "LacePillow$Weave" "falses" "[I", Cond.fieldLink RX6 30 "LacePillow$Weave" "sides" "[I", Cond.fieldLink RX6 33 "LacePillow$Weave" "passes" "[I", Cond.fieldLink RX6 39 "LacePillow$Weave" "heap" "LLacePillow$Heap;", Cond.fieldLink RX6 43 "LacePillow$Weave" "crossings" "I", Cond.methodLink RX6 47 yX6_sendHome, Cond.instanceMethod yX6_sendHome, Cond.selects RX6 yX6_sendHome yX6_sendHome, Cond.code yX6_sendHome cX6_sendHome 2 none, Cond.fieldLink RX6 9 "LacePillow$Weave" "threads" "[I", Cond.fieldLink RX6 15 "LacePillow$Weave" "places" "[I", Cond.methodLink RX6 50 yJ7_fill_53178, Cond.static yJ7_fill_53178, Cond.initialized RJ7, Cond.code yJ7_fill_53178 cJ7_fill_53178 4 none, Cond.methodLink RX6 56 yX1_clear]
def wsX7_place_r3 : List Cond := [Cond.instanceMethod yX1_clear, Cond.selects RX1 yX1_clear yX1_clear, Cond.initialized RX1, Cond.code yX1_clear cX1_clear 1 none, Cond.fieldLink RX1 9 "LacePillow$Heap" "size" "I", Cond.fieldLink RX1 15 "LacePillow$Heap" "signs" "[I", Cond.fieldLink RX1 19 "LacePillow$Heap" "tops" "[I", Cond.methodLink RX1 22 yJ7_fill_53178, Cond.methodLink RX7 355 yX6_make, Cond.instanceMethod yX6_make, Cond.selects RX6 yX6_make yX6_make, Cond.code yX6_make cX6_make 7 none, Cond.fieldLink RX6 59 "LacePillow$Plan" "lengths" "[I", Cond.fieldLink RX6 64 "LacePillow$Plan" "letters" "[I", Cond.methodLink RX6 67 yX6_cross, Cond.instanceMethod yX6_cross, Cond.selects RX6 yX6_cross yX6_cross, Cond.code yX6_cross cX6_cross 5 none, Cond.methodLink RX6 71 yX6_pass, Cond.instanceMethod yX6_pass, Cond.selects RX6 yX6_pass yX6_pass, Cond.code yX6_pass cX6_pass 3 none, Cond.methodLink RX6 77 yX6_noteSide, Cond.instanceMethod yX6_noteSide]
def wsX7_place_r4 : List Cond := [Cond.selects RX6 yX6_noteSide yX6_noteSide, Cond.code yX6_noteSide cX6_noteSide 3 none, Cond.methodLink RX6 74 yX1_add, Cond.instanceMethod yX1_add, Cond.selects RX1 yX1_add yX1_add, Cond.code yX1_add cX1_add 6 none, Cond.methodLink RX1 34 Lib.Math.max.name, Cond.static Lib.Math.max.name, Cond.initialized "java/lang/Math", Cond.code Lib.Math.max.name Lib.Math.max.code 2 (some .int), Cond.methodLink RX1 40 yX1_takeTop, Cond.instanceMethod yX1_takeTop, Cond.selects RX1 yX1_takeTop yX1_takeTop, Cond.code yX1_takeTop cX1_takeTop 4 none]
def wsX7_place : List Cond := .code yX7_place cX7_place 3 (some .int) :: ((wsX7_place_r1 ++ (wsX7_place_r2 ++ (wsX7_place_r3 ++ wsX7_place_r4))) ++ wsX70 ++ wsX00 ++ wsX60 ++ wsX20 ++ wsX10)
def wsX7_rounds_r1 : List Cond := [Cond.fieldLink RX7 33 "LacePillow" "ground" "LLacePillow$Ground;", Cond.fieldLink RX7 119 "LacePillow$Ground" "size" "I", Cond.fieldLink RX7 51 "LacePillow" "thought" "LLacePillow$Weave;", Cond.methodLink RX7 266 yX7_thinkStitches, Cond.instanceMethod yX7_thinkStitches, Cond.selects RX7 yX7_thinkStitches yX7_thinkStitches, Cond.initialized RX7, Cond.code yX7_thinkStitches cX7_thinkStitches 3 none, Cond.fieldLink RX7 54 "LacePillow" "thoughtStitches" "I", Cond.fieldLink RX7 12 "LacePillow" "plan" "LLacePillow$Plan;", Cond.fieldLink RX7 188 "LacePillow$Ground" "kinds" "[I", Cond.fieldLink RX7 185 "LacePillow$Ground" "gaps" "[I", Cond.methodLink RX7 346 yX6_clear, Cond.instanceMethod yX6_clear, Cond.selects RX6 yX6_clear yX6_clear, Cond.initialized RX6, Cond.code yX6_clear cX6_clear 1 none, Cond.fieldLink RX6 18 "LacePillow$Weave" "used" "[I", Cond.fieldLink RX6 21 "LacePillow$Weave" "overs" "[I", Cond.fieldLink RX6 24 "LacePillow$Weave" "unders" "[I", Cond.fieldLink RX6 27 "LacePillow$Weave" "falses" "[I", Cond.fieldLink RX6 30 "LacePillow$Weave" "sides" "[I", Cond.fieldLink RX6 33 "LacePillow$Weave" "passes" "[I", Cond.fieldLink RX6 39 "LacePillow$Weave" "heap" "LLacePillow$Heap;"]
def wsX7_rounds_r2 : List Cond := [Cond.fieldLink RX6 43 "LacePillow$Weave" "crossings" "I", Cond.methodLink RX6 47 yX6_sendHome, Cond.instanceMethod yX6_sendHome, Cond.selects RX6 yX6_sendHome yX6_sendHome, Cond.code yX6_sendHome cX6_sendHome 2 none, Cond.fieldLink RX6 9 "LacePillow$Weave" "threads" "[I", Cond.fieldLink RX6 15 "LacePillow$Weave" "places" "[I", Cond.methodLink RX6 50 yJ7_fill_53178, Cond.static yJ7_fill_53178, Cond.initialized RJ7, Cond.code yJ7_fill_53178 cJ7_fill_53178 4 none, Cond.methodLink RX6 56 yX1_clear, Cond.instanceMethod yX1_clear, Cond.selects RX1 yX1_clear yX1_clear, Cond.initialized RX1, Cond.code yX1_clear cX1_clear 1 none, Cond.fieldLink RX1 9 "LacePillow$Heap" "size" "I", Cond.fieldLink RX1 15 "LacePillow$Heap" "signs" "[I", Cond.fieldLink RX1 19 "LacePillow$Heap" "tops" "[I", Cond.methodLink RX1 22 yJ7_fill_53178, Cond.methodLink RX7 355 yX6_make, Cond.instanceMethod yX6_make, Cond.selects RX6 yX6_make yX6_make, Cond.code yX6_make cX6_make 7 none]
def wsX7_rounds_r3 : List Cond := [Cond.fieldLink RX6 59 "LacePillow$Plan" "lengths" "[I", Cond.fieldLink RX6 64 "LacePillow$Plan" "letters" "[I", Cond.methodLink RX6 67 yX6_cross, Cond.instanceMethod yX6_cross, Cond.selects RX6 yX6_cross yX6_cross, Cond.code yX6_cross cX6_cross 5 none, Cond.methodLink RX6 71 yX6_pass, Cond.instanceMethod yX6_pass, Cond.selects RX6 yX6_pass yX6_pass, Cond.code yX6_pass cX6_pass 3 none, Cond.methodLink RX6 77 yX6_noteSide, Cond.instanceMethod yX6_noteSide, Cond.selects RX6 yX6_noteSide yX6_noteSide, Cond.code yX6_noteSide cX6_noteSide 3 none, Cond.methodLink RX6 74 yX1_add, Cond.instanceMethod yX1_add, Cond.selects RX1 yX1_add yX1_add, Cond.code yX1_add cX1_add 6 none, Cond.methodLink RX1 34 Lib.Math.max.name, Cond.static Lib.Math.max.name, Cond.initialized "java/lang/Math", Cond.code Lib.Math.max.name Lib.Math.max.code 2 (some .int), Cond.methodLink RX1 40 yX1_takeTop, Cond.instanceMethod yX1_takeTop]
def wsX7_rounds_r4 : List Cond := [Cond.selects RX1 yX1_takeTop yX1_takeTop, Cond.code yX1_takeTop cX1_takeTop 4 none, Cond.methodLink RX7 146 yX6_commonTurns, Cond.instanceMethod yX6_commonTurns, Cond.selects RX6 yX6_commonTurns yX6_commonTurns, Cond.code yX6_commonTurns cX6_commonTurns 4 (some .long), Cond.methodLink RX6 80 yX6_turnsOf, Cond.instanceMethod yX6_turnsOf, Cond.selects RX6 yX6_turnsOf yX6_turnsOf, Cond.code yX6_turnsOf cX6_turnsOf 4 (some .int), Cond.methodLink RX6 84 yX6_leastCommonMultiple, Cond.static yX6_leastCommonMultiple, Cond.code yX6_leastCommonMultiple cX6_leastCommonMultiple 4 (some .long)]
def wsX7_rounds : List Cond := .code yX7_rounds cX7_rounds 1 (some .long) :: ((wsX7_rounds_r1 ++ (wsX7_rounds_r2 ++ (wsX7_rounds_r3 ++ wsX7_rounds_r4))) ++ wsX70 ++ wsX00 ++ wsX60 ++ wsX10 ++ wsX20)
def wsX7_link_r1 : List Cond := [Cond.fieldLink RX7 33 "LacePillow" "ground" "LLacePillow$Ground;", Cond.fieldLink RX7 119 "LacePillow$Ground" "size" "I", Cond.fieldLink RX7 51 "LacePillow" "thought" "LLacePillow$Weave;", Cond.fieldLink RX7 281 "LacePillow$Weave" "passes" "[I", Cond.methodLink RX7 254 yX7_isThread, Cond.instanceMethod yX7_isThread, Cond.selects RX7 yX7_isThread yX7_isThread, Cond.initialized RX7, Cond.code yX7_isThread cX7_isThread 2 (some .boolean), Cond.fieldLink RX7 12 "LacePillow" "plan" "LLacePillow$Plan;", Cond.fieldLink RX7 84 "LacePillow$Plan" "pairs" "I", Cond.methodLink RX7 80 yX7_fail, Cond.instanceMethod yX7_fail, Cond.selects RX7 yX7_fail yX7_fail, Cond.code yX7_fail cX7_fail 2 (some .int), Cond.fieldLink RX7 75 "LacePillow" "errors" "[I", Cond.constant RX7 343 (-1000000000), Cond.methodLink RX7 266 yX7_thinkStitches, Cond.instanceMethod yX7_thinkStitches, Cond.selects RX7 yX7_thinkStitches yX7_thinkStitches, Cond.code yX7_thinkStitches cX7_thinkStitches 3 none, Cond.fieldLink RX7 54 "LacePillow" "thoughtStitches" "I", Cond.fieldLink RX7 188 "LacePillow$Ground" "kinds" "[I", Cond.fieldLink RX7 185 "LacePillow$Ground" "gaps" "[I"]
def wsX7_link_r2 : List Cond := [Cond.methodLink RX7 346 yX6_clear, Cond.instanceMethod yX6_clear, Cond.selects RX6 yX6_clear yX6_clear, Cond.initialized RX6, Cond.code yX6_clear cX6_clear 1 none, Cond.fieldLink RX6 18 "LacePillow$Weave" "used" "[I", Cond.fieldLink RX6 21 "LacePillow$Weave" "overs" "[I", Cond.fieldLink RX6 24 "LacePillow$Weave" "unders" "[I", Cond.fieldLink RX6 27 "LacePillow$Weave" "falses" "[I", Cond.fieldLink RX6 30 "LacePillow$Weave" "sides" "[I", Cond.fieldLink RX6 33 "LacePillow$Weave" "passes" "[I", Cond.fieldLink RX6 39 "LacePillow$Weave" "heap" "LLacePillow$Heap;", Cond.fieldLink RX6 43 "LacePillow$Weave" "crossings" "I", Cond.methodLink RX6 47 yX6_sendHome, Cond.instanceMethod yX6_sendHome, Cond.selects RX6 yX6_sendHome yX6_sendHome, Cond.code yX6_sendHome cX6_sendHome 2 none, Cond.fieldLink RX6 9 "LacePillow$Weave" "threads" "[I", Cond.fieldLink RX6 15 "LacePillow$Weave" "places" "[I", Cond.methodLink RX6 50 yJ7_fill_53178, Cond.static yJ7_fill_53178, Cond.initialized RJ7, Cond.code yJ7_fill_53178 cJ7_fill_53178 4 none, Cond.methodLink RX6 56 yX1_clear]
def wsX7_link_r3 : List Cond := [Cond.instanceMethod yX1_clear, Cond.selects RX1 yX1_clear yX1_clear, Cond.initialized RX1, Cond.code yX1_clear cX1_clear 1 none, Cond.fieldLink RX1 9 "LacePillow$Heap" "size" "I", Cond.fieldLink RX1 15 "LacePillow$Heap" "signs" "[I", Cond.fieldLink RX1 19 "LacePillow$Heap" "tops" "[I", Cond.methodLink RX1 22 yJ7_fill_53178, Cond.methodLink RX7 355 yX6_make, Cond.instanceMethod yX6_make, Cond.selects RX6 yX6_make yX6_make, Cond.code yX6_make cX6_make 7 none, Cond.fieldLink RX6 59 "LacePillow$Plan" "lengths" "[I", Cond.fieldLink RX6 64 "LacePillow$Plan" "letters" "[I", Cond.methodLink RX6 67 yX6_cross, Cond.instanceMethod yX6_cross, Cond.selects RX6 yX6_cross yX6_cross, Cond.code yX6_cross cX6_cross 5 none, Cond.methodLink RX6 71 yX6_pass, Cond.instanceMethod yX6_pass, Cond.selects RX6 yX6_pass yX6_pass, Cond.code yX6_pass cX6_pass 3 none, Cond.methodLink RX6 77 yX6_noteSide, Cond.instanceMethod yX6_noteSide]
def wsX7_link_r4 : List Cond := [Cond.selects RX6 yX6_noteSide yX6_noteSide, Cond.code yX6_noteSide cX6_noteSide 3 none, Cond.methodLink RX6 74 yX1_add, Cond.instanceMethod yX1_add, Cond.selects RX1 yX1_add yX1_add, Cond.code yX1_add cX1_add 6 none, Cond.methodLink RX1 34 Lib.Math.max.name, Cond.static Lib.Math.max.name, Cond.initialized "java/lang/Math", Cond.code Lib.Math.max.name Lib.Math.max.code 2 (some .int), Cond.methodLink RX1 40 yX1_takeTop, Cond.instanceMethod yX1_takeTop, Cond.selects RX1 yX1_takeTop yX1_takeTop, Cond.code yX1_takeTop cX1_takeTop 4 none]
def wsX7_link : List Cond := .code yX7_link cX7_link 3 (some .int) :: ((wsX7_link_r1 ++ (wsX7_link_r2 ++ (wsX7_link_r3 ++ wsX7_link_r4))) ++ wsX70 ++ wsX00 ++ wsX60 ++ wsX20 ++ wsX10)
def wsX7_meet_r1 : List Cond := [Cond.fieldLink RX7 33 "LacePillow" "ground" "LLacePillow$Ground;", Cond.fieldLink RX7 119 "LacePillow$Ground" "size" "I", Cond.fieldLink RX7 51 "LacePillow" "thought" "LLacePillow$Weave;", Cond.methodLink RX7 254 yX7_isThread, Cond.instanceMethod yX7_isThread, Cond.selects RX7 yX7_isThread yX7_isThread, Cond.initialized RX7, Cond.code yX7_isThread cX7_isThread 2 (some .boolean), Cond.fieldLink RX7 12 "LacePillow" "plan" "LLacePillow$Plan;", Cond.fieldLink RX7 84 "LacePillow$Plan" "pairs" "I", Cond.methodLink RX7 80 yX7_fail, Cond.instanceMethod yX7_fail, Cond.selects RX7 yX7_fail yX7_fail, Cond.code yX7_fail cX7_fail 2 (some .int), Cond.fieldLink RX7 75 "LacePillow" "errors" "[I", Cond.constant RX7 343 (-1000000000), Cond.methodLink RX7 266 yX7_thinkStitches, Cond.instanceMethod yX7_thinkStitches, Cond.selects RX7 yX7_thinkStitches yX7_thinkStitches, Cond.code yX7_thinkStitches cX7_thinkStitches 3 none, Cond.fieldLink RX7 54 "LacePillow" "thoughtStitches" "I", Cond.fieldLink RX7 188 "LacePillow$Ground" "kinds" "[I", Cond.fieldLink RX7 185 "LacePillow$Ground" "gaps" "[I", Cond.methodLink RX7 346 yX6_clear]
def wsX7_meet_r2 : List Cond := [Cond.instanceMethod yX6_clear, Cond.selects RX6 yX6_clear yX6_clear, Cond.initialized RX6, Cond.code yX6_clear cX6_clear 1 none, Cond.fieldLink RX6 18 "LacePillow$Weave" "used" "[I", Cond.fieldLink RX6 21 "LacePillow$Weave" "overs" "[I", Cond.fieldLink RX6 24 "LacePillow$Weave" "unders" "[I", Cond.fieldLink RX6 27 "LacePillow$Weave" "falses" "[I", Cond.fieldLink RX6 30 "LacePillow$Weave" "sides" "[I", Cond.fieldLink RX6 33 "LacePillow$Weave" "passes" "[I", Cond.fieldLink RX6 39 "LacePillow$Weave" "heap" "LLacePillow$Heap;", Cond.fieldLink RX6 43 "LacePillow$Weave" "crossings" "I", Cond.methodLink RX6 47 yX6_sendHome, Cond.instanceMethod yX6_sendHome, Cond.selects RX6 yX6_sendHome yX6_sendHome, Cond.code yX6_sendHome cX6_sendHome 2 none, Cond.fieldLink RX6 9 "LacePillow$Weave" "threads" "[I", Cond.fieldLink RX6 15 "LacePillow$Weave" "places" "[I", Cond.methodLink RX6 50 yJ7_fill_53178, Cond.static yJ7_fill_53178, Cond.initialized RJ7, Cond.code yJ7_fill_53178 cJ7_fill_53178 4 none, Cond.methodLink RX6 56 yX1_clear, Cond.instanceMethod yX1_clear]
def wsX7_meet_r3 : List Cond := [Cond.selects RX1 yX1_clear yX1_clear, Cond.initialized RX1, Cond.code yX1_clear cX1_clear 1 none, Cond.fieldLink RX1 9 "LacePillow$Heap" "size" "I", Cond.fieldLink RX1 15 "LacePillow$Heap" "signs" "[I", Cond.fieldLink RX1 19 "LacePillow$Heap" "tops" "[I", Cond.methodLink RX1 22 yJ7_fill_53178, Cond.methodLink RX7 355 yX6_make, Cond.instanceMethod yX6_make, Cond.selects RX6 yX6_make yX6_make, Cond.code yX6_make cX6_make 7 none, Cond.fieldLink RX6 59 "LacePillow$Plan" "lengths" "[I", Cond.fieldLink RX6 64 "LacePillow$Plan" "letters" "[I", Cond.methodLink RX6 67 yX6_cross, Cond.instanceMethod yX6_cross, Cond.selects RX6 yX6_cross yX6_cross, Cond.code yX6_cross cX6_cross 5 none, Cond.methodLink RX6 71 yX6_pass, Cond.instanceMethod yX6_pass, Cond.selects RX6 yX6_pass yX6_pass, Cond.code yX6_pass cX6_pass 3 none, Cond.methodLink RX6 77 yX6_noteSide, Cond.instanceMethod yX6_noteSide, Cond.selects RX6 yX6_noteSide yX6_noteSide]
def wsX7_meet_r4 : List Cond := [Cond.code yX6_noteSide cX6_noteSide 3 none, Cond.methodLink RX6 74 yX1_add, Cond.instanceMethod yX1_add, Cond.selects RX1 yX1_add yX1_add, Cond.code yX1_add cX1_add 6 none, Cond.methodLink RX1 34 Lib.Math.max.name, Cond.static Lib.Math.max.name, Cond.initialized "java/lang/Math", Cond.code Lib.Math.max.name Lib.Math.max.code 2 (some .int), Cond.methodLink RX1 40 yX1_takeTop, Cond.instanceMethod yX1_takeTop, Cond.selects RX1 yX1_takeTop yX1_takeTop, Cond.code yX1_takeTop cX1_takeTop 4 none, Cond.methodLink RX7 284 yX6_haveCrossed, Cond.instanceMethod yX6_haveCrossed, Cond.selects RX6 yX6_haveCrossed yX6_haveCrossed, Cond.code yX6_haveCrossed cX6_haveCrossed 3 (some .boolean)]
def wsX7_meet : List Cond := .code yX7_meet cX7_meet 4 (some .int) :: ((wsX7_meet_r1 ++ (wsX7_meet_r2 ++ (wsX7_meet_r3 ++ wsX7_meet_r4))) ++ wsX70 ++ wsX00 ++ wsX20 ++ wsX60 ++ wsX10)
def wsX7_lacks_r1 : List Cond := [Cond.fieldLink RX7 33 "LacePillow" "ground" "LLacePillow$Ground;", Cond.fieldLink RX7 119 "LacePillow$Ground" "size" "I", Cond.fieldLink RX7 51 "LacePillow" "thought" "LLacePillow$Weave;", Cond.fieldLink RX7 12 "LacePillow" "plan" "LLacePillow$Plan;", Cond.fieldLink RX7 263 "LacePillow$Plan" "wound" "[I", Cond.methodLink RX7 80 yX7_fail, Cond.instanceMethod yX7_fail, Cond.selects RX7 yX7_fail yX7_fail, Cond.initialized RX7, Cond.code yX7_fail cX7_fail 2 (some .int), Cond.fieldLink RX7 75 "LacePillow" "errors" "[I", Cond.constant RX7 343 (-1000000000), Cond.methodLink RX7 266 yX7_thinkStitches, Cond.instanceMethod yX7_thinkStitches, Cond.selects RX7 yX7_thinkStitches yX7_thinkStitches, Cond.code yX7_thinkStitches cX7_thinkStitches 3 none, Cond.fieldLink RX7 54 "LacePillow" "thoughtStitches" "I", Cond.fieldLink RX7 188 "LacePillow$Ground" "kinds" "[I", Cond.fieldLink RX7 185 "LacePillow$Ground" "gaps" "[I", Cond.methodLink RX7 346 yX6_clear, Cond.instanceMethod yX6_clear, Cond.selects RX6 yX6_clear yX6_clear, Cond.initialized RX6, Cond.code yX6_clear cX6_clear 1 none]
def wsX7_lacks_r2 : List Cond := [Cond.fieldLink RX6 18 "LacePillow$Weave" "used" "[I", Cond.fieldLink RX6 21 "LacePillow$Weave" "overs" "[I", Cond.fieldLink RX6 24 "LacePillow$Weave" "unders" "[I", Cond.fieldLink RX6 27 "LacePillow$Weave" "falses" "[I", Cond.fieldLink RX6 30 "LacePillow$Weave" "sides" "[I", Cond.fieldLink RX6 33 "LacePillow$Weave" "passes" "[I", Cond.fieldLink RX6 39 "LacePillow$Weave" "heap" "LLacePillow$Heap;", Cond.fieldLink RX6 43 "LacePillow$Weave" "crossings" "I", Cond.methodLink RX6 47 yX6_sendHome, Cond.instanceMethod yX6_sendHome, Cond.selects RX6 yX6_sendHome yX6_sendHome, Cond.code yX6_sendHome cX6_sendHome 2 none, Cond.fieldLink RX6 9 "LacePillow$Weave" "threads" "[I", Cond.fieldLink RX6 15 "LacePillow$Weave" "places" "[I", Cond.methodLink RX6 50 yJ7_fill_53178, Cond.static yJ7_fill_53178, Cond.initialized RJ7, Cond.code yJ7_fill_53178 cJ7_fill_53178 4 none, Cond.methodLink RX6 56 yX1_clear, Cond.instanceMethod yX1_clear, Cond.selects RX1 yX1_clear yX1_clear, Cond.initialized RX1, Cond.code yX1_clear cX1_clear 1 none, Cond.fieldLink RX1 9 "LacePillow$Heap" "size" "I"]
def wsX7_lacks_r3 : List Cond := [Cond.fieldLink RX1 15 "LacePillow$Heap" "signs" "[I", Cond.fieldLink RX1 19 "LacePillow$Heap" "tops" "[I", Cond.methodLink RX1 22 yJ7_fill_53178, Cond.methodLink RX7 355 yX6_make, Cond.instanceMethod yX6_make, Cond.selects RX6 yX6_make yX6_make, Cond.code yX6_make cX6_make 7 none, Cond.fieldLink RX6 59 "LacePillow$Plan" "lengths" "[I", Cond.fieldLink RX6 64 "LacePillow$Plan" "letters" "[I", Cond.methodLink RX6 67 yX6_cross, Cond.instanceMethod yX6_cross, Cond.selects RX6 yX6_cross yX6_cross, Cond.code yX6_cross cX6_cross 5 none, Cond.methodLink RX6 71 yX6_pass, Cond.instanceMethod yX6_pass, Cond.selects RX6 yX6_pass yX6_pass, Cond.code yX6_pass cX6_pass 3 none, Cond.methodLink RX6 77 yX6_noteSide, Cond.instanceMethod yX6_noteSide, Cond.selects RX6 yX6_noteSide yX6_noteSide, Cond.code yX6_noteSide cX6_noteSide 3 none, Cond.methodLink RX6 74 yX1_add, Cond.instanceMethod yX1_add, Cond.selects RX1 yX1_add yX1_add]
def wsX7_lacks_r4 : List Cond := [Cond.code yX1_add cX1_add 6 none, Cond.methodLink RX1 34 Lib.Math.max.name, Cond.static Lib.Math.max.name, Cond.initialized "java/lang/Math", Cond.code Lib.Math.max.name Lib.Math.max.code 2 (some .int), Cond.methodLink RX1 40 yX1_takeTop, Cond.instanceMethod yX1_takeTop, Cond.selects RX1 yX1_takeTop yX1_takeTop, Cond.code yX1_takeTop cX1_takeTop 4 none, Cond.methodLink RX7 287 yX6_leastLacking, Cond.instanceMethod yX6_leastLacking, Cond.selects RX6 yX6_leastLacking yX6_leastLacking, Cond.code yX6_leastLacking cX6_leastLacking 3 (some .int)]
def wsX7_lacks : List Cond := .code yX7_lacks cX7_lacks 4 (some .int) :: ((wsX7_lacks_r1 ++ (wsX7_lacks_r2 ++ (wsX7_lacks_r3 ++ wsX7_lacks_r4))) ++ wsX70 ++ wsX00 ++ wsX20 ++ wsX60 ++ wsX10)
def wsX7_weaveOf_r1 : List Cond := [Cond.fieldLink RX7 47 "LacePillow" "done" "LLacePillow$Weave;", Cond.fieldLink RX7 33 "LacePillow" "ground" "LLacePillow$Ground;", Cond.fieldLink RX7 119 "LacePillow$Ground" "size" "I", Cond.fieldLink RX7 51 "LacePillow" "thought" "LLacePillow$Weave;", Cond.methodLink RX7 266 yX7_thinkStitches, Cond.instanceMethod yX7_thinkStitches, Cond.selects RX7 yX7_thinkStitches yX7_thinkStitches, Cond.initialized RX7, Cond.code yX7_thinkStitches cX7_thinkStitches 3 none, Cond.fieldLink RX7 54 "LacePillow" "thoughtStitches" "I", Cond.fieldLink RX7 12 "LacePillow" "plan" "LLacePillow$Plan;", Cond.fieldLink RX7 188 "LacePillow$Ground" "kinds" "[I", Cond.fieldLink RX7 185 "LacePillow$Ground" "gaps" "[I", Cond.methodLink RX7 346 yX6_clear, Cond.instanceMethod yX6_clear, Cond.selects RX6 yX6_clear yX6_clear, Cond.initialized RX6, Cond.code yX6_clear cX6_clear 1 none, Cond.fieldLink RX6 18 "LacePillow$Weave" "used" "[I", Cond.fieldLink RX6 21 "LacePillow$Weave" "overs" "[I", Cond.fieldLink RX6 24 "LacePillow$Weave" "unders" "[I", Cond.fieldLink RX6 27 "LacePillow$Weave" "falses" "[I", Cond.fieldLink RX6 30 "LacePillow$Weave" "sides" "[I", Cond.fieldLink RX6 33 "LacePillow$Weave" "passes" "[I"]
def wsX7_weaveOf_r2 : List Cond := [Cond.fieldLink RX6 39 "LacePillow$Weave" "heap" "LLacePillow$Heap;", Cond.fieldLink RX6 43 "LacePillow$Weave" "crossings" "I", Cond.methodLink RX6 47 yX6_sendHome, Cond.instanceMethod yX6_sendHome, Cond.selects RX6 yX6_sendHome yX6_sendHome, Cond.code yX6_sendHome cX6_sendHome 2 none, Cond.fieldLink RX6 9 "LacePillow$Weave" "threads" "[I", Cond.fieldLink RX6 15 "LacePillow$Weave" "places" "[I", Cond.methodLink RX6 50 yJ7_fill_53178, Cond.static yJ7_fill_53178, Cond.initialized RJ7, Cond.code yJ7_fill_53178 cJ7_fill_53178 4 none, Cond.methodLink RX6 56 yX1_clear, Cond.instanceMethod yX1_clear, Cond.selects RX1 yX1_clear yX1_clear, Cond.initialized RX1, Cond.code yX1_clear cX1_clear 1 none, Cond.fieldLink RX1 9 "LacePillow$Heap" "size" "I", Cond.fieldLink RX1 15 "LacePillow$Heap" "signs" "[I", Cond.fieldLink RX1 19 "LacePillow$Heap" "tops" "[I", Cond.methodLink RX1 22 yJ7_fill_53178, Cond.methodLink RX7 355 yX6_make, Cond.instanceMethod yX6_make, Cond.selects RX6 yX6_make yX6_make]
def wsX7_weaveOf_r3 : List Cond := [Cond.code yX6_make cX6_make 7 none, Cond.fieldLink RX6 59 "LacePillow$Plan" "lengths" "[I", Cond.fieldLink RX6 64 "LacePillow$Plan" "letters" "[I", Cond.methodLink RX6 67 yX6_cross, Cond.instanceMethod yX6_cross, Cond.selects RX6 yX6_cross yX6_cross, Cond.code yX6_cross cX6_cross 5 none, Cond.methodLink RX6 71 yX6_pass, Cond.instanceMethod yX6_pass, Cond.selects RX6 yX6_pass yX6_pass, Cond.code yX6_pass cX6_pass 3 none, Cond.methodLink RX6 77 yX6_noteSide, Cond.instanceMethod yX6_noteSide, Cond.selects RX6 yX6_noteSide yX6_noteSide, Cond.code yX6_noteSide cX6_noteSide 3 none, Cond.methodLink RX6 74 yX1_add, Cond.instanceMethod yX1_add, Cond.selects RX1 yX1_add yX1_add, Cond.code yX1_add cX1_add 6 none, Cond.methodLink RX1 34 Lib.Math.max.name, Cond.static Lib.Math.max.name, Cond.initialized "java/lang/Math", Cond.code Lib.Math.max.name Lib.Math.max.code 2 (some .int), Cond.methodLink RX1 40 yX1_takeTop]
def wsX7_weaveOf_r4 : List Cond := [Cond.instanceMethod yX1_takeTop, Cond.selects RX1 yX1_takeTop yX1_takeTop, Cond.code yX1_takeTop cX1_takeTop 4 none]
def wsX7_weaveOf : List Cond := .code yX7_weaveOf cX7_weaveOf 2 (some (.object "LacePillow$Weave")) :: ((wsX7_weaveOf_r1 ++ (wsX7_weaveOf_r2 ++ (wsX7_weaveOf_r3 ++ wsX7_weaveOf_r4))) ++ wsX70 ++ wsX00 ++ wsX60 ++ wsX10 ++ wsX20)
def wsX7_lace_r1 : List Cond := [Cond.fieldLink RX7 139 "LacePillow$Weave" "crossings" "I", Cond.fieldLink RX7 142 "LacePillow$Weave" "heap" "LLacePillow$Heap;", Cond.fieldLink RX7 145 "LacePillow$Heap" "size" "I", Cond.methodLink RX7 80 yX7_fail, Cond.instanceMethod yX7_fail, Cond.selects RX7 yX7_fail yX7_fail, Cond.initialized RX7, Cond.code yX7_fail cX7_fail 2 (some .int), Cond.fieldLink RX7 75 "LacePillow" "errors" "[I", Cond.constant RX7 343 (-1000000000), Cond.methodLink RX7 291 yX7_weaveOf, Cond.instanceMethod yX7_weaveOf, Cond.selects RX7 yX7_weaveOf yX7_weaveOf, Cond.code yX7_weaveOf cX7_weaveOf 2 (some (.object "LacePillow$Weave")), Cond.fieldLink RX7 47 "LacePillow" "done" "LLacePillow$Weave;", Cond.fieldLink RX7 33 "LacePillow" "ground" "LLacePillow$Ground;", Cond.fieldLink RX7 119 "LacePillow$Ground" "size" "I", Cond.fieldLink RX7 51 "LacePillow" "thought" "LLacePillow$Weave;", Cond.methodLink RX7 266 yX7_thinkStitches, Cond.instanceMethod yX7_thinkStitches, Cond.selects RX7 yX7_thinkStitches yX7_thinkStitches, Cond.code yX7_thinkStitches cX7_thinkStitches 3 none, Cond.fieldLink RX7 54 "LacePillow" "thoughtStitches" "I", Cond.fieldLink RX7 12 "LacePillow" "plan" "LLacePillow$Plan;"]
def wsX7_lace_r2 : List Cond := [Cond.fieldLink RX7 188 "LacePillow$Ground" "kinds" "[I", Cond.fieldLink RX7 185 "LacePillow$Ground" "gaps" "[I", Cond.methodLink RX7 346 yX6_clear, Cond.instanceMethod yX6_clear, Cond.selects RX6 yX6_clear yX6_clear, Cond.initialized RX6, Cond.code yX6_clear cX6_clear 1 none, Cond.fieldLink RX6 18 "LacePillow$Weave" "used" "[I", Cond.fieldLink RX6 21 "LacePillow$Weave" "overs" "[I", Cond.fieldLink RX6 24 "LacePillow$Weave" "unders" "[I", Cond.fieldLink RX6 27 "LacePillow$Weave" "falses" "[I", Cond.fieldLink RX6 30 "LacePillow$Weave" "sides" "[I", Cond.fieldLink RX6 33 "LacePillow$Weave" "passes" "[I", Cond.fieldLink RX6 39 "LacePillow$Weave" "heap" "LLacePillow$Heap;", Cond.fieldLink RX6 43 "LacePillow$Weave" "crossings" "I", Cond.methodLink RX6 47 yX6_sendHome, Cond.instanceMethod yX6_sendHome, Cond.selects RX6 yX6_sendHome yX6_sendHome, Cond.code yX6_sendHome cX6_sendHome 2 none, Cond.fieldLink RX6 9 "LacePillow$Weave" "threads" "[I", Cond.fieldLink RX6 15 "LacePillow$Weave" "places" "[I", Cond.methodLink RX6 50 yJ7_fill_53178, Cond.static yJ7_fill_53178, Cond.initialized RJ7]
def wsX7_lace_r3 : List Cond := [Cond.code yJ7_fill_53178 cJ7_fill_53178 4 none, Cond.methodLink RX6 56 yX1_clear, Cond.instanceMethod yX1_clear, Cond.selects RX1 yX1_clear yX1_clear, Cond.initialized RX1, Cond.code yX1_clear cX1_clear 1 none, Cond.fieldLink RX1 9 "LacePillow$Heap" "size" "I", Cond.fieldLink RX1 15 "LacePillow$Heap" "signs" "[I", Cond.fieldLink RX1 19 "LacePillow$Heap" "tops" "[I", Cond.methodLink RX1 22 yJ7_fill_53178, Cond.methodLink RX7 355 yX6_make, Cond.instanceMethod yX6_make, Cond.selects RX6 yX6_make yX6_make, Cond.code yX6_make cX6_make 7 none, Cond.fieldLink RX6 59 "LacePillow$Plan" "lengths" "[I", Cond.fieldLink RX6 64 "LacePillow$Plan" "letters" "[I", Cond.methodLink RX6 67 yX6_cross, Cond.instanceMethod yX6_cross, Cond.selects RX6 yX6_cross yX6_cross, Cond.code yX6_cross cX6_cross 5 none, Cond.methodLink RX6 71 yX6_pass, Cond.instanceMethod yX6_pass, Cond.selects RX6 yX6_pass yX6_pass, Cond.code yX6_pass cX6_pass 3 none]
def wsX7_lace_r4 : List Cond := [Cond.methodLink RX6 77 yX6_noteSide, Cond.instanceMethod yX6_noteSide, Cond.selects RX6 yX6_noteSide yX6_noteSide, Cond.code yX6_noteSide cX6_noteSide 3 none, Cond.methodLink RX6 74 yX1_add, Cond.instanceMethod yX1_add, Cond.selects RX1 yX1_add yX1_add, Cond.code yX1_add cX1_add 6 none, Cond.methodLink RX1 34 Lib.Math.max.name, Cond.static Lib.Math.max.name, Cond.initialized "java/lang/Math", Cond.code Lib.Math.max.name Lib.Math.max.code 2 (some .int), Cond.methodLink RX1 40 yX1_takeTop, Cond.instanceMethod yX1_takeTop, Cond.selects RX1 yX1_takeTop yX1_takeTop, Cond.code yX1_takeTop cX1_takeTop 4 none, Cond.methodLink RX7 295 yX1_countLayers, Cond.instanceMethod yX1_countLayers, Cond.selects RX1 yX1_countLayers yX1_countLayers, Cond.code yX1_countLayers cX1_countLayers 3 (some .int), Cond.methodLink RX7 298 yX1_countSign, Cond.instanceMethod yX1_countSign, Cond.selects RX1 yX1_countSign yX1_countSign, Cond.code yX1_countSign cX1_countSign 4 (some .int)]
def wsX7_lace : List Cond := .code yX7_lace cX7_lace 4 (some .int) :: ((wsX7_lace_r1 ++ (wsX7_lace_r2 ++ (wsX7_lace_r3 ++ wsX7_lace_r4))) ++ wsX60 ++ wsX10 ++ wsX70 ++ wsX00 ++ wsX20)
def wsX7_layer_r1 : List Cond := [Cond.fieldLink RX7 12 "LacePillow" "plan" "LLacePillow$Plan;", Cond.fieldLink RX7 84 "LacePillow$Plan" "pairs" "I", Cond.fieldLink RX7 142 "LacePillow$Weave" "heap" "LLacePillow$Heap;", Cond.methodLink RX7 80 yX7_fail, Cond.instanceMethod yX7_fail, Cond.selects RX7 yX7_fail yX7_fail, Cond.initialized RX7, Cond.code yX7_fail cX7_fail 2 (some .int), Cond.fieldLink RX7 75 "LacePillow" "errors" "[I", Cond.constant RX7 343 (-1000000000), Cond.methodLink RX7 291 yX7_weaveOf, Cond.instanceMethod yX7_weaveOf, Cond.selects RX7 yX7_weaveOf yX7_weaveOf, Cond.code yX7_weaveOf cX7_weaveOf 2 (some (.object "LacePillow$Weave")), Cond.fieldLink RX7 47 "LacePillow" "done" "LLacePillow$Weave;", Cond.fieldLink RX7 33 "LacePillow" "ground" "LLacePillow$Ground;", Cond.fieldLink RX7 119 "LacePillow$Ground" "size" "I", Cond.fieldLink RX7 51 "LacePillow" "thought" "LLacePillow$Weave;", Cond.methodLink RX7 266 yX7_thinkStitches, Cond.instanceMethod yX7_thinkStitches, Cond.selects RX7 yX7_thinkStitches yX7_thinkStitches, Cond.code yX7_thinkStitches cX7_thinkStitches 3 none, Cond.fieldLink RX7 54 "LacePillow" "thoughtStitches" "I", Cond.fieldLink RX7 188 "LacePillow$Ground" "kinds" "[I"]
def wsX7_layer_r2 : List Cond := [Cond.fieldLink RX7 185 "LacePillow$Ground" "gaps" "[I", Cond.methodLink RX7 346 yX6_clear, Cond.instanceMethod yX6_clear, Cond.selects RX6 yX6_clear yX6_clear, Cond.initialized RX6, Cond.code yX6_clear cX6_clear 1 none, Cond.fieldLink RX6 18 "LacePillow$Weave" "used" "[I", Cond.fieldLink RX6 21 "LacePillow$Weave" "overs" "[I", Cond.fieldLink RX6 24 "LacePillow$Weave" "unders" "[I", Cond.fieldLink RX6 27 "LacePillow$Weave" "falses" "[I", Cond.fieldLink RX6 30 "LacePillow$Weave" "sides" "[I", Cond.fieldLink RX6 33 "LacePillow$Weave" "passes" "[I", Cond.fieldLink RX6 39 "LacePillow$Weave" "heap" "LLacePillow$Heap;", Cond.fieldLink RX6 43 "LacePillow$Weave" "crossings" "I", Cond.methodLink RX6 47 yX6_sendHome, Cond.instanceMethod yX6_sendHome, Cond.selects RX6 yX6_sendHome yX6_sendHome, Cond.code yX6_sendHome cX6_sendHome 2 none, Cond.fieldLink RX6 9 "LacePillow$Weave" "threads" "[I", Cond.fieldLink RX6 15 "LacePillow$Weave" "places" "[I", Cond.methodLink RX6 50 yJ7_fill_53178, Cond.static yJ7_fill_53178, Cond.initialized RJ7, Cond.code yJ7_fill_53178 cJ7_fill_53178 4 none]
def wsX7_layer_r3 : List Cond := [Cond.methodLink RX6 56 yX1_clear, Cond.instanceMethod yX1_clear, Cond.selects RX1 yX1_clear yX1_clear, Cond.initialized RX1, Cond.code yX1_clear cX1_clear 1 none, Cond.fieldLink RX1 9 "LacePillow$Heap" "size" "I", Cond.fieldLink RX1 15 "LacePillow$Heap" "signs" "[I", Cond.fieldLink RX1 19 "LacePillow$Heap" "tops" "[I", Cond.methodLink RX1 22 yJ7_fill_53178, Cond.methodLink RX7 355 yX6_make, Cond.instanceMethod yX6_make, Cond.selects RX6 yX6_make yX6_make, Cond.code yX6_make cX6_make 7 none, Cond.fieldLink RX6 59 "LacePillow$Plan" "lengths" "[I", Cond.fieldLink RX6 64 "LacePillow$Plan" "letters" "[I", Cond.methodLink RX6 67 yX6_cross, Cond.instanceMethod yX6_cross, Cond.selects RX6 yX6_cross yX6_cross, Cond.code yX6_cross cX6_cross 5 none, Cond.methodLink RX6 71 yX6_pass, Cond.instanceMethod yX6_pass, Cond.selects RX6 yX6_pass yX6_pass, Cond.code yX6_pass cX6_pass 3 none, Cond.methodLink RX6 77 yX6_noteSide]
def wsX7_layer_r4 : List Cond := [Cond.instanceMethod yX6_noteSide, Cond.selects RX6 yX6_noteSide yX6_noteSide, Cond.code yX6_noteSide cX6_noteSide 3 none, Cond.methodLink RX6 74 yX1_add, Cond.instanceMethod yX1_add, Cond.selects RX1 yX1_add yX1_add, Cond.code yX1_add cX1_add 6 none, Cond.methodLink RX1 34 Lib.Math.max.name, Cond.static Lib.Math.max.name, Cond.initialized "java/lang/Math", Cond.code Lib.Math.max.name Lib.Math.max.code 2 (some .int), Cond.methodLink RX1 40 yX1_takeTop, Cond.instanceMethod yX1_takeTop, Cond.selects RX1 yX1_takeTop yX1_takeTop, Cond.code yX1_takeTop cX1_takeTop 4 none, Cond.methodLink RX7 301 yX1_signAt, Cond.instanceMethod yX1_signAt, Cond.selects RX1 yX1_signAt yX1_signAt, Cond.code yX1_signAt cX1_signAt 3 (some .int)]
def wsX7_layer : List Cond := .code yX7_layer cX7_layer 4 (some .int) :: ((wsX7_layer_r1 ++ (wsX7_layer_r2 ++ (wsX7_layer_r3 ++ wsX7_layer_r4))) ++ wsX70 ++ wsX20 ++ wsX60 ++ wsX00 ++ wsX10)
def wsX7_repeat : List Cond := .code yX7_repeat cX7_repeat 2 (some .int) :: ([.fieldLink RX7 33 "LacePillow" "ground" "LLacePillow$Ground;", .fieldLink RX7 156 "LacePillow$Ground" "deep" "I", .fieldLink RX7 12 "LacePillow" "plan" "LLacePillow$Plan;", .methodLink RX7 305 yX2_repeatsBy, .instanceMethod yX2_repeatsBy, .selects RX2 yX2_repeatsBy yX2_repeatsBy, .initialized RX2, .code yX2_repeatsBy cX2_repeatsBy 5 (some .boolean), .fieldLink RX2 15 "LacePillow$Plan" "cells" "[I", .methodLink RX7 80 yX7_fail, .instanceMethod yX7_fail, .selects RX7 yX7_fail yX7_fail, .initialized RX7, .code yX7_fail cX7_fail 2 (some .int), .fieldLink RX7 75 "LacePillow" "errors" "[I", .constant RX7 343 (-1000000000)] ++ wsX70 ++ wsX00 ++ wsX20)
def wsX7_motif_r1 : List Cond := [Cond.fieldLink RX7 71 "LacePillow" "sheets" "[LLacePillow$Sheet;", Cond.fieldLink RX7 231 "LacePillow$Sheet" "sort" "I", Cond.fieldLink RX7 244 "LacePillow$Sheet" "size" "I", Cond.fieldLink RX7 12 "LacePillow" "plan" "LLacePillow$Plan;", Cond.fieldLink RX7 84 "LacePillow$Plan" "pairs" "I", Cond.methodLink RX7 228 yX7_isSheet, Cond.static yX7_isSheet, Cond.initialized RX7, Cond.code yX7_isSheet cX7_isSheet 1 (some .boolean), Cond.methodLink RX7 80 yX7_fail, Cond.instanceMethod yX7_fail, Cond.selects RX7 yX7_fail yX7_fail, Cond.code yX7_fail cX7_fail 2 (some .int), Cond.fieldLink RX7 75 "LacePillow" "errors" "[I", Cond.constant RX7 343 (-1000000000), Cond.methodLink RX7 308 yX2_fits, Cond.instanceMethod yX2_fits, Cond.selects RX2 yX2_fits yX2_fits, Cond.initialized RX2, Cond.code yX2_fits cX2_fits 8 (some .boolean), Cond.fieldLink RX2 9 "LacePillow$Plan" "pairs" "I", Cond.fieldLink RX2 72 "LacePillow$Sheet" "size" "I", Cond.fieldLink RX2 77 "LacePillow$Sheet" "numbers" "[J", Cond.fieldLink RX2 15 "LacePillow$Plan" "cells" "[I"]
def wsX7_motif_r2 : List Cond := [Cond.methodLink RX2 81 yX2_fitsCell, Cond.static yX2_fitsCell, Cond.code yX2_fitsCell cX2_fitsCell 3 (some .boolean), Cond.constantLong RX2 85 (-2)]
def wsX7_motif : List Cond := .code yX7_motif cX7_motif 8 (some .int) :: ((wsX7_motif_r1 ++ wsX7_motif_r2) ++ wsX70 ++ wsX30 ++ wsX20)
def wsX7_sheet : List Cond := .code yX7_sheet cX7_sheet 4 (some .int) :: ([.fieldLink RX7 71 "LacePillow" "sheets" "[LLacePillow$Sheet;", .fieldLink RX7 231 "LacePillow$Sheet" "sort" "I", .methodLink RX7 228 yX7_isSheet, .static yX7_isSheet, .initialized RX7, .code yX7_isSheet cX7_isSheet 1 (some .boolean), .methodLink RX7 80 yX7_fail, .instanceMethod yX7_fail, .selects RX7 yX7_fail yX7_fail, .code yX7_fail cX7_fail 2 (some .int), .fieldLink RX7 75 "LacePillow" "errors" "[I", .constant RX7 343 (-1000000000), .methodLink RX7 312 yX3_begin, .instanceMethod yX3_begin, .selects RX3 yX3_begin yX3_begin, .initialized RX3, .code yX3_begin cX3_begin 3 none, .fieldLink RX3 9 "LacePillow$Sheet" "sort" "I", .fieldLink RX3 15 "LacePillow$Sheet" "size" "I", .fieldLink RX3 18 "LacePillow$Sheet" "numbers" "[J", .methodLink RX3 22 yJ7_fill_d0a16, .static yJ7_fill_d0a16, .initialized RJ7, .code yJ7_fill_d0a16 cJ7_fill_d0a16 5 none] ++ wsX70 ++ wsX30)
def wsX7_put : List Cond := .code yX7_put cX7_put 5 (some .int) :: ([.fieldLink RX7 71 "LacePillow" "sheets" "[LLacePillow$Sheet;", .fieldLink RX7 245 "LacePillow$Sheet" "numbers" "[J", .methodLink RX7 228 yX7_isSheet, .static yX7_isSheet, .initialized RX7, .code yX7_isSheet cX7_isSheet 1 (some .boolean), .methodLink RX7 80 yX7_fail, .instanceMethod yX7_fail, .selects RX7 yX7_fail yX7_fail, .code yX7_fail cX7_fail 2 (some .int), .fieldLink RX7 75 "LacePillow" "errors" "[I", .constant RX7 343 (-1000000000), .methodLink RX7 316 yX3_has, .instanceMethod yX3_has, .selects RX3 yX3_has yX3_has, .initialized RX3, .code yX3_has cX3_has 2 (some .boolean), .fieldLink RX3 9 "LacePillow$Sheet" "sort" "I", .fieldLink RX3 15 "LacePillow$Sheet" "size" "I", .methodLink RX7 319 yX3_cut, .instanceMethod yX3_cut, .selects RX3 yX3_cut yX3_cut, .code yX3_cut cX3_cut 3 (some .long)] ++ wsX70 ++ wsX30)
def wsX7_number : List Cond := .code yX7_number cX7_number 3 (some .long) :: ([.fieldLink RX7 71 "LacePillow" "sheets" "[LLacePillow$Sheet;", .fieldLink RX7 245 "LacePillow$Sheet" "numbers" "[J", .methodLink RX7 228 yX7_isSheet, .static yX7_isSheet, .initialized RX7, .code yX7_isSheet cX7_isSheet 1 (some .boolean), .methodLink RX7 213 yX7_failLong, .instanceMethod yX7_failLong, .selects RX7 yX7_failLong yX7_failLong, .code yX7_failLong cX7_failLong 2 (some .long), .fieldLink RX7 75 "LacePillow" "errors" "[I", .constantLong RX7 344 (-9000000000000000000), .methodLink RX7 316 yX3_has, .instanceMethod yX3_has, .selects RX3 yX3_has yX3_has, .initialized RX3, .code yX3_has cX3_has 2 (some .boolean), .fieldLink RX3 9 "LacePillow$Sheet" "sort" "I", .fieldLink RX3 15 "LacePillow$Sheet" "size" "I"] ++ wsX70 ++ wsX30)
def wsX7_image_r1 : List Cond := [Cond.fieldLink RX7 16 "LacePillow" "kept" "LLacePillow$Plan;", Cond.fieldLink RX7 12 "LacePillow" "plan" "LLacePillow$Plan;", Cond.fieldLink RX7 22 "LacePillow" "keptHeap" "LLacePillow$Heap;", Cond.fieldLink RX7 47 "LacePillow" "done" "LLacePillow$Weave;", Cond.fieldLink RX7 142 "LacePillow$Weave" "heap" "LLacePillow$Heap;", Cond.fieldLink RX7 26 "LacePillow" "imaged" "Z", Cond.fieldLink RX7 169 "LacePillow$Plan" "worked" "I", Cond.methodLink RX7 323 yX2_copyFrom, Cond.instanceMethod yX2_copyFrom, Cond.selects RX2 yX2_copyFrom yX2_copyFrom, Cond.initialized RX2, Cond.code yX2_copyFrom cX2_copyFrom 2 none, Cond.fieldLink RX2 9 "LacePillow$Plan" "pairs" "I", Cond.fieldLink RX2 15 "LacePillow$Plan" "cells" "[I", Cond.methodLink RX2 66 arraycopyName, Cond.native arraycopyName, Cond.static arraycopyName, Cond.initialized "java/lang/System", Cond.fieldLink RX2 19 "LacePillow$Plan" "letters" "[I", Cond.fieldLink RX2 22 "LacePillow$Plan" "lengths" "[I", Cond.fieldLink RX2 25 "LacePillow$Plan" "wound" "[I", Cond.fieldLink RX2 28 "LacePillow$Plan" "work" "[I", Cond.fieldLink RX2 31 "LacePillow$Plan" "worked" "I", Cond.methodLink RX7 326 yX1_copyFrom]
def wsX7_image_r2 : List Cond := [Cond.instanceMethod yX1_copyFrom, Cond.selects RX1 yX1_copyFrom yX1_copyFrom, Cond.initialized RX1, Cond.code yX1_copyFrom cX1_copyFrom 2 none, Cond.fieldLink RX1 9 "LacePillow$Heap" "size" "I", Cond.fieldLink RX1 15 "LacePillow$Heap" "signs" "[I", Cond.methodLink RX1 28 arraycopyName, Cond.fieldLink RX1 19 "LacePillow$Heap" "tops" "[I"]
def wsX7_image : List Cond := .code yX7_image cX7_image 1 (some .int) :: ((wsX7_image_r1 ++ wsX7_image_r2) ++ wsX70 ++ wsX60 ++ wsX20 ++ wsX10)
def wsX7_restore_r1 : List Cond := [Cond.fieldLink RX7 26 "LacePillow" "imaged" "Z", Cond.fieldLink RX7 12 "LacePillow" "plan" "LLacePillow$Plan;", Cond.fieldLink RX7 16 "LacePillow" "kept" "LLacePillow$Plan;", Cond.fieldLink RX7 169 "LacePillow$Plan" "worked" "I", Cond.methodLink RX7 80 yX7_fail, Cond.instanceMethod yX7_fail, Cond.selects RX7 yX7_fail yX7_fail, Cond.initialized RX7, Cond.code yX7_fail cX7_fail 2 (some .int), Cond.fieldLink RX7 75 "LacePillow" "errors" "[I", Cond.constant RX7 343 (-1000000000), Cond.methodLink RX7 323 yX2_copyFrom, Cond.instanceMethod yX2_copyFrom, Cond.selects RX2 yX2_copyFrom yX2_copyFrom, Cond.initialized RX2, Cond.code yX2_copyFrom cX2_copyFrom 2 none, Cond.fieldLink RX2 9 "LacePillow$Plan" "pairs" "I", Cond.fieldLink RX2 15 "LacePillow$Plan" "cells" "[I", Cond.methodLink RX2 66 arraycopyName, Cond.native arraycopyName, Cond.static arraycopyName, Cond.initialized "java/lang/System", Cond.fieldLink RX2 19 "LacePillow$Plan" "letters" "[I", Cond.fieldLink RX2 22 "LacePillow$Plan" "lengths" "[I"]
def wsX7_restore_r2 : List Cond := [Cond.fieldLink RX2 25 "LacePillow$Plan" "wound" "[I", Cond.fieldLink RX2 28 "LacePillow$Plan" "work" "[I", Cond.fieldLink RX2 31 "LacePillow$Plan" "worked" "I", Cond.methodLink RX7 329 yX7_regard, Cond.instanceMethod yX7_regard, Cond.selects RX7 yX7_regard yX7_regard, Cond.code yX7_regard cX7_regard 1 none, Cond.fieldLink RX7 33 "LacePillow" "ground" "LLacePillow$Ground;", Cond.fieldLink RX7 40 "LacePillow" "ways" "LLacePillow$Ways;", Cond.fieldLink RX7 352 "LacePillow$Ways" "known" "Z", Cond.fieldLink RX7 54 "LacePillow" "thoughtStitches" "I", Cond.methodLink RX7 349 yX0_gather, Cond.instanceMethod yX0_gather, Cond.selects RX0 yX0_gather yX0_gather, Cond.initialized RX0, Cond.code yX0_gather cX0_gather 5 none, Cond.fieldLink RX0 9 "LacePillow$Ground" "size" "I", Cond.fieldLink RX0 15 "LacePillow$Ground" "deep" "I", Cond.fieldLink RX0 38 "LacePillow$Plan" "pairs" "I", Cond.fieldLink RX0 43 "LacePillow$Plan" "cells" "[I", Cond.methodLink RX0 46 yX0_enter, Cond.instanceMethod yX0_enter, Cond.selects RX0 yX0_enter yX0_enter, Cond.code yX0_enter cX0_enter 6 none]
def wsX7_restore_r3 : List Cond := [Cond.fieldLink RX0 18 "LacePillow$Ground" "rows" "[I", Cond.fieldLink RX0 22 "LacePillow$Ground" "gaps" "[I", Cond.fieldLink RX0 25 "LacePillow$Ground" "kinds" "[I", Cond.fieldLink RX0 28 "LacePillow$Ground" "levels" "[I", Cond.fieldLink RX0 31 "LacePillow$Ground" "before" "[J", Cond.methodLink RX0 50 Lib.Math.abs.name, Cond.static Lib.Math.abs.name, Cond.initialized "java/lang/Math", Cond.code Lib.Math.abs.name Lib.Math.abs.code 1 (some .int), Cond.methodLink RX0 56 Lib.Math.max.name, Cond.static Lib.Math.max.name, Cond.code Lib.Math.max.name Lib.Math.max.code 2 (some .int), Cond.methodLink RX7 248 yX7_replay, Cond.instanceMethod yX7_replay, Cond.selects RX7 yX7_replay yX7_replay, Cond.code yX7_replay cX7_replay 3 none, Cond.fieldLink RX7 47 "LacePillow" "done" "LLacePillow$Weave;", Cond.fieldLink RX7 58 "LacePillow" "workedBits" "J", Cond.fieldLink RX7 251 "LacePillow$Plan" "work" "[I", Cond.fieldLink RX7 188 "LacePillow$Ground" "kinds" "[I", Cond.fieldLink RX7 185 "LacePillow$Ground" "gaps" "[I", Cond.methodLink RX7 346 yX6_clear, Cond.instanceMethod yX6_clear, Cond.selects RX6 yX6_clear yX6_clear]
def wsX7_restore_r4 : List Cond := [Cond.initialized RX6, Cond.code yX6_clear cX6_clear 1 none, Cond.fieldLink RX6 18 "LacePillow$Weave" "used" "[I", Cond.fieldLink RX6 21 "LacePillow$Weave" "overs" "[I", Cond.fieldLink RX6 24 "LacePillow$Weave" "unders" "[I", Cond.fieldLink RX6 27 "LacePillow$Weave" "falses" "[I", Cond.fieldLink RX6 30 "LacePillow$Weave" "sides" "[I", Cond.fieldLink RX6 33 "LacePillow$Weave" "passes" "[I", Cond.fieldLink RX6 39 "LacePillow$Weave" "heap" "LLacePillow$Heap;", Cond.fieldLink RX6 43 "LacePillow$Weave" "crossings" "I", Cond.methodLink RX6 47 yX6_sendHome, Cond.instanceMethod yX6_sendHome, Cond.selects RX6 yX6_sendHome yX6_sendHome, Cond.code yX6_sendHome cX6_sendHome 2 none, Cond.fieldLink RX6 9 "LacePillow$Weave" "threads" "[I", Cond.fieldLink RX6 15 "LacePillow$Weave" "places" "[I", Cond.methodLink RX6 50 yJ7_fill_53178, Cond.static yJ7_fill_53178, Cond.initialized RJ7, Cond.code yJ7_fill_53178 cJ7_fill_53178 4 none, Cond.methodLink RX6 56 yX1_clear, Cond.instanceMethod yX1_clear, Cond.selects RX1 yX1_clear yX1_clear, Cond.initialized RX1]
def wsX7_restore_r5 : List Cond := [Cond.code yX1_clear cX1_clear 1 none, Cond.fieldLink RX1 9 "LacePillow$Heap" "size" "I", Cond.fieldLink RX1 15 "LacePillow$Heap" "signs" "[I", Cond.fieldLink RX1 19 "LacePillow$Heap" "tops" "[I", Cond.methodLink RX1 22 yJ7_fill_53178, Cond.methodLink RX7 355 yX6_make, Cond.instanceMethod yX6_make, Cond.selects RX6 yX6_make yX6_make, Cond.code yX6_make cX6_make 7 none, Cond.fieldLink RX6 59 "LacePillow$Plan" "lengths" "[I", Cond.fieldLink RX6 64 "LacePillow$Plan" "letters" "[I", Cond.methodLink RX6 67 yX6_cross, Cond.instanceMethod yX6_cross, Cond.selects RX6 yX6_cross yX6_cross, Cond.code yX6_cross cX6_cross 5 none, Cond.methodLink RX6 71 yX6_pass, Cond.instanceMethod yX6_pass, Cond.selects RX6 yX6_pass yX6_pass, Cond.code yX6_pass cX6_pass 3 none, Cond.methodLink RX6 77 yX6_noteSide, Cond.instanceMethod yX6_noteSide, Cond.selects RX6 yX6_noteSide yX6_noteSide, Cond.code yX6_noteSide cX6_noteSide 3 none, Cond.methodLink RX6 74 yX1_add]
def wsX7_restore_r6 : List Cond := [Cond.instanceMethod yX1_add, Cond.selects RX1 yX1_add yX1_add, Cond.code yX1_add cX1_add 6 none, Cond.methodLink RX1 34 Lib.Math.max.name, Cond.methodLink RX1 40 yX1_takeTop, Cond.instanceMethod yX1_takeTop, Cond.selects RX1 yX1_takeTop yX1_takeTop, Cond.code yX1_takeTop cX1_takeTop 4 none]
def wsX7_restore : List Cond := .code yX7_restore cX7_restore 1 (some .int) :: ((wsX7_restore_r1 ++ (wsX7_restore_r2 ++ (wsX7_restore_r3 ++ (wsX7_restore_r4 ++ (wsX7_restore_r5 ++ wsX7_restore_r6))))) ++ wsX70 ++ wsX20 ++ wsX50 ++ wsX00 ++ wsX60 ++ wsX10)
def wsX7_alike : List Cond := .code yX7_alike cX7_alike 1 (some .int) :: ([.fieldLink RX7 26 "LacePillow" "imaged" "Z", .fieldLink RX7 47 "LacePillow" "done" "LLacePillow$Weave;", .fieldLink RX7 142 "LacePillow$Weave" "heap" "LLacePillow$Heap;", .fieldLink RX7 22 "LacePillow" "keptHeap" "LLacePillow$Heap;", .methodLink RX7 80 yX7_fail, .instanceMethod yX7_fail, .selects RX7 yX7_fail yX7_fail, .initialized RX7, .code yX7_fail cX7_fail 2 (some .int), .fieldLink RX7 75 "LacePillow" "errors" "[I", .constant RX7 343 (-1000000000), .methodLink RX7 332 yX1_isAs, .instanceMethod yX1_isAs, .selects RX1 yX1_isAs yX1_isAs, .initialized RX1, .code yX1_isAs cX1_isAs 3 (some .boolean), .fieldLink RX1 15 "LacePillow$Heap" "signs" "[I"] ++ wsX70 ++ wsX60 ++ wsX10)
def wsX7_sumOf : List Cond := .code yX7_sumOf cX7_sumOf 4 (some .int) :: ([])
def wsX7_count : List Cond := .code yX7_count cX7_count 3 (some .int) :: ([.fieldLink RX7 12 "LacePillow" "plan" "LLacePillow$Plan;", .fieldLink RX7 84 "LacePillow$Plan" "pairs" "I", .fieldLink RX7 65 "LacePillow" "tape" "LLacePillow$Tape;", .fieldLink RX7 106 "LacePillow$Tape" "size" "I", .fieldLink RX7 263 "LacePillow$Plan" "wound" "[I", .fieldLink RX7 47 "LacePillow" "done" "LLacePillow$Weave;", .fieldLink RX7 260 "LacePillow$Weave" "used" "[I", .fieldLink RX7 139 "LacePillow$Weave" "crossings" "I", .methodLink RX7 336 yX7_sumOf, .static yX7_sumOf, .initialized RX7, .code yX7_sumOf cX7_sumOf 4 (some .int), .methodLink RX7 340 yX6_countAtHome, .instanceMethod yX6_countAtHome, .selects RX6 yX6_countAtHome yX6_countAtHome, .initialized RX6, .code yX6_countAtHome cX6_countAtHome 4 (some .int), .fieldLink RX6 15 "LacePillow$Weave" "places" "[I", .methodLink RX7 80 yX7_fail, .instanceMethod yX7_fail, .selects RX7 yX7_fail yX7_fail, .code yX7_fail cX7_fail 2 (some .int), .fieldLink RX7 75 "LacePillow" "errors" "[I", .constant RX7 343 (-1000000000)] ++ wsX70 ++ wsX20 ++ wsX40 ++ wsX60)
def wsX7_told : List Cond := .code yX7_told cX7_told 2 (some .int) :: ([.fieldLink RX7 75 "LacePillow" "errors" "[I", .methodLink RX7 80 yX7_fail, .instanceMethod yX7_fail, .selects RX7 yX7_fail yX7_fail, .initialized RX7, .code yX7_fail cX7_fail 2 (some .int), .constant RX7 343 (-1000000000)] ++ wsX70)
def wsX8_gaps : List Cond := .code yX8_gaps cX8_gaps 1 (some .int) :: ([.fieldLink RX8 9 "LacePillowModel" "now" "[I"] ++ wsX80)
def wsX8_held : List Cond := .code yX8_held cX8_held 3 (some .int) :: ([.fieldLink RX8 9 "LacePillowModel" "now" "[I"] ++ wsX80)
def wsX8_add : List Cond := .code yX8_add cX8_add 5 none :: ([.fieldLink RX8 22 "LacePillowModel" "row" "[I", .fieldLink RX8 120 "LacePillowModel" "many" "I", .fieldLink RX8 25 "LacePillowModel" "gap" "[I", .fieldLink RX8 28 "LacePillowModel" "kind" "[I", .fieldLink RX8 34 "LacePillowModel" "ahead" "[J", .fieldLink RX8 31 "LacePillowModel" "level" "[I", .methodLink RX8 127 yX8_held, .instanceMethod yX8_held, .selects RX8 yX8_held yX8_held, .initialized RX8, .code yX8_held cX8_held 3 (some .int), .fieldLink RX8 9 "LacePillowModel" "now" "[I"] ++ wsX80)
def wsX8_lists : List Cond := .code yX8_lists cX8_lists 3 none :: ([.fieldLink RX8 120 "LacePillowModel" "many" "I", .methodLink RX8 124 yX8_gaps, .instanceMethod yX8_gaps, .selects RX8 yX8_gaps yX8_gaps, .initialized RX8, .code yX8_gaps cX8_gaps 1 (some .int), .fieldLink RX8 9 "LacePillowModel" "now" "[I", .methodLink RX8 127 yX8_held, .instanceMethod yX8_held, .selects RX8 yX8_held yX8_held, .code yX8_held cX8_held 3 (some .int), .methodLink RX8 131 yX8_add, .instanceMethod yX8_add, .selects RX8 yX8_add yX8_add, .code yX8_add cX8_add 5 none, .fieldLink RX8 22 "LacePillowModel" "row" "[I", .fieldLink RX8 25 "LacePillowModel" "gap" "[I", .fieldLink RX8 28 "LacePillowModel" "kind" "[I", .fieldLink RX8 34 "LacePillowModel" "ahead" "[J", .fieldLink RX8 31 "LacePillowModel" "level" "[I"] ++ wsX80)
def wsX8_init_r1 : List Cond := [Cond.methodLink RX8 3 objectInit, Cond.instanceMethod objectInit, Cond.code objectInit ⟨#[0xb1]⟩ 1 none, Cond.arrayClass .int, Cond.fieldLink RX8 9 "LacePillowModel" "now" "[I", Cond.fieldLink RX8 13 "LacePillowModel" "kept" "[I", Cond.fieldLink RX8 16 "LacePillowModel" "aside" "[I", Cond.fieldLink RX8 19 "LacePillowModel" "met" "[I", Cond.fieldLink RX8 22 "LacePillowModel" "row" "[I", Cond.fieldLink RX8 25 "LacePillowModel" "gap" "[I", Cond.fieldLink RX8 28 "LacePillowModel" "kind" "[I", Cond.fieldLink RX8 31 "LacePillowModel" "level" "[I", Cond.arrayClass .long, Cond.fieldLink RX8 34 "LacePillowModel" "ahead" "[J", Cond.fieldLink RX8 38 "LacePillowModel" "tape" "[I", Cond.fieldLink RX8 41 "LacePillowModel" "at" "[I", Cond.fieldLink RX8 44 "LacePillowModel" "used" "[I", Cond.fieldLink RX8 47 "LacePillowModel" "place" "[I", Cond.fieldLink RX8 50 "LacePillowModel" "sign" "[I", Cond.fieldLink RX8 53 "LacePillowModel" "over" "[I", Cond.fieldLink RX8 56 "LacePillowModel" "under" "[I", Cond.fieldLink RX8 59 "LacePillowModel" "by" "[I", Cond.fieldLink RX8 62 "LacePillowModel" "leftPlace" "[I", Cond.fieldLink RX8 65 "LacePillowModel" "leftSign" "[I"]
def wsX8_init_r2 : List Cond := [Cond.fieldLink RX8 68 "LacePillowModel" "layerOf" "[I", Cond.fieldLink RX8 71 "LacePillowModel" "takenBy" "[I", Cond.fieldLink RX8 74 "LacePillowModel" "setMet" "[I", Cond.fieldLink RX8 77 "LacePillowModel" "waysMet" "[J", Cond.fieldLink RX8 80 "LacePillowModel" "sort" "[I", Cond.fieldLink RX8 83 "LacePillowModel" "size" "[I", Cond.fieldLink RX8 86 "LacePillowModel" "items" "[J", Cond.fieldLink RX8 89 "LacePillowModel" "shown" "[I", Cond.classLink RX8 92 RJ0, Cond.methodLink RX8 106 yJ0_length_8abf5, Cond.instanceMethod yJ0_length_8abf5, Cond.selects RJ0 yJ0_length_8abf5 yJ0_length_8abf5, Cond.initialized RJ0, Cond.code yJ0_length_8abf5 cJ0_length_8abf5 1 (some .int), Cond.fieldLink RJ0 9 "java/lang/String" "value" "[B", Cond.methodLink RJ0 335 yJ0_coder_7d493, Cond.instanceMethod yJ0_coder_7d493, Cond.selects RJ0 yJ0_coder_7d493 yJ0_coder_7d493, Cond.code yJ0_coder_7d493 cJ0_coder_7d493 1 (some .byte), Cond.fieldLink RJ0 38 "java/lang/String" "COMPACT_STRINGS" "Z", Cond.fieldLink RJ0 15 "java/lang/String" "coder" "B", Cond.methodLink RX8 110 yJ0_charAt_5068e, Cond.instanceMethod yJ0_charAt_5068e, Cond.selects RJ0 yJ0_charAt_5068e yJ0_charAt_5068e]
def wsX8_init_r3 : List Cond := [Cond.code yJ0_charAt_5068e cJ0_charAt_5068e 2 (some .char), Cond.methodLink RJ0 492 yJ0_isLatin1_aae02, Cond.instanceMethod yJ0_isLatin1_aae02, Cond.selects RJ0 yJ0_isLatin1_aae02 yJ0_isLatin1_aae02, Cond.code yJ0_isLatin1_aae02 cJ0_isLatin1_aae02 1 (some .boolean), Cond.methodLink RJ0 495 yJ1_charAt_3b067, Cond.static yJ1_charAt_3b067, Cond.initialized RJ1, Cond.code yJ1_charAt_3b067 cJ1_charAt_3b067 2 (some .char), Cond.methodLink RJ1 9 yJ0_checkIndex_df160, Cond.static yJ0_checkIndex_df160, Cond.code yJ0_checkIndex_df160 cJ0_checkIndex_df160 2 none, Cond.fieldLink RJ0 1053 "jdk/internal/util/Preconditions" "SIOOBE_FORMATTER" "Ljava/util/function/BiFunction;", Cond.methodLink RJ0 1059 yJ3_checkIndex_8e157, Cond.static yJ3_checkIndex_8e157, Cond.initialized RJ3, Cond.code yJ3_checkIndex_8e157 cJ3_checkIndex_8e157 3 (some .int), Cond.methodLink RJ0 498 yJ2_charAt_3b067, Cond.static yJ2_charAt_3b067, Cond.initialized RJ2, Cond.code yJ2_charAt_3b067 cJ2_charAt_3b067 2 (some .char), Cond.methodLink RJ2 67 yJ2_checkIndex_2214a, Cond.static yJ2_checkIndex_2214a, Cond.code yJ2_checkIndex_2214a cJ2_checkIndex_2214a 2 none]
def wsX8_init_r4 : List Cond := [Cond.methodLink RJ2 48 yJ2_length_9d52b, Cond.static yJ2_length_9d52b, Cond.code yJ2_length_9d52b cJ2_length_9d52b 1 (some .int), Cond.methodLink RJ2 414 yJ0_checkIndex_df160, Cond.methodLink RJ2 71 yJ2_getChar_3b067, Cond.static yJ2_getChar_3b067, Cond.code yJ2_getChar_3b067 cJ2_getChar_3b067 2 (some .char), Cond.fieldLink RJ2 44 "java/lang/StringUTF16" "$assertionsDisabled" "Z", Cond.fieldLink RJ2 59 "java/lang/StringUTF16" "HI_BYTE_SHIFT" "I", Cond.fieldLink RJ2 63 "java/lang/StringUTF16" "LO_BYTE_SHIFT" "I", Cond.methodLink RX8 114 yX8_lists, Cond.instanceMethod yX8_lists, Cond.selects RX8 yX8_lists yX8_lists, Cond.initialized RX8, Cond.code yX8_lists cX8_lists 3 none, Cond.fieldLink RX8 120 "LacePillowModel" "many" "I", Cond.methodLink RX8 124 yX8_gaps, Cond.instanceMethod yX8_gaps, Cond.selects RX8 yX8_gaps yX8_gaps, Cond.code yX8_gaps cX8_gaps 1 (some .int), Cond.methodLink RX8 127 yX8_held, Cond.instanceMethod yX8_held, Cond.selects RX8 yX8_held yX8_held, Cond.code yX8_held cX8_held 3 (some .int)]
def wsX8_init_r5 : List Cond := [Cond.methodLink RX8 131 yX8_add, Cond.instanceMethod yX8_add, Cond.selects RX8 yX8_add yX8_add, Cond.code yX8_add cX8_add 5 none]
def wsX8_init : List Cond := .code yX8_init cX8_init 4 none :: ((wsX8_init_r1 ++ (wsX8_init_r2 ++ (wsX8_init_r3 ++ (wsX8_init_r4 ++ wsX8_init_r5)))) ++ wsX80)
def wsX8_in : List Cond := .code yX8_in cX8_in 6 (some .boolean) :: ([])
def wsX8_errs : List Cond := .code yX8_errs cX8_errs 2 (some .int) :: ([.fieldLink RX8 19 "LacePillowModel" "met" "[I", .constant RX8 117 (-1000000000)] ++ wsX80)
def wsX8_errsLong : List Cond := .code yX8_errsLong cX8_errsLong 2 (some .long) :: ([.fieldLink RX8 19 "LacePillowModel" "met" "[I", .constant RX8 117 (-1000000000), .constantLong RX8 118 (-9000000000000000000)] ++ wsX80)
def wsX8_copy : List Cond := .code yX8_copy cX8_copy 3 none :: ([])
def wsX8_bits : List Cond := .code yX8_bits cX8_bits 5 (some .int) :: ([])
def wsX8_threads : List Cond := .code yX8_threads cX8_threads 1 (some .int) :: ([.fieldLink RX8 9 "LacePillowModel" "now" "[I"] ++ wsX80)
def wsX8_anew : List Cond := .code yX8_anew cX8_anew 1 none :: ([.fieldLink RX8 9 "LacePillowModel" "now" "[I", .methodLink RX8 114 yX8_lists, .instanceMethod yX8_lists, .selects RX8 yX8_lists yX8_lists, .initialized RX8, .code yX8_lists cX8_lists 3 none, .fieldLink RX8 120 "LacePillowModel" "many" "I", .methodLink RX8 124 yX8_gaps, .instanceMethod yX8_gaps, .selects RX8 yX8_gaps yX8_gaps, .code yX8_gaps cX8_gaps 1 (some .int), .methodLink RX8 127 yX8_held, .instanceMethod yX8_held, .selects RX8 yX8_held yX8_held, .code yX8_held cX8_held 3 (some .int), .methodLink RX8 131 yX8_add, .instanceMethod yX8_add, .selects RX8 yX8_add yX8_add, .code yX8_add cX8_add 5 none, .fieldLink RX8 22 "LacePillowModel" "row" "[I", .fieldLink RX8 25 "LacePillowModel" "gap" "[I", .fieldLink RX8 28 "LacePillowModel" "kind" "[I", .fieldLink RX8 34 "LacePillowModel" "ahead" "[J", .fieldLink RX8 31 "LacePillowModel" "level" "[I"] ++ wsX80)
def wsX8_workedSet : List Cond := .code yX8_workedSet cX8_workedSet 4 (some .long) :: ([.fieldLink RX8 9 "LacePillowModel" "now" "[I"] ++ wsX80)
def wsX8_isFree : List Cond := .code yX8_isFree cX8_isFree 4 (some .boolean) :: ([.fieldLink RX8 34 "LacePillowModel" "ahead" "[J", .constantLong RX8 139 (-1), .methodLink RX8 135 yX8_workedSet, .instanceMethod yX8_workedSet, .selects RX8 yX8_workedSet yX8_workedSet, .initialized RX8, .code yX8_workedSet cX8_workedSet 4 (some .long), .fieldLink RX8 9 "LacePillowModel" "now" "[I"] ++ wsX80)
def wsX8_pairs_r1 : List Cond := [Cond.constantLong RX8 141 (2), Cond.constantLong RX8 143 (8), Cond.constant RX8 149 (-1000000001), Cond.fieldLink RX8 9 "LacePillowModel" "now" "[I", Cond.methodLink RX8 145 yX8_in, Cond.static yX8_in, Cond.initialized RX8, Cond.code yX8_in cX8_in 6 (some .boolean), Cond.methodLink RX8 150 yX8_errs, Cond.instanceMethod yX8_errs, Cond.selects RX8 yX8_errs yX8_errs, Cond.code yX8_errs cX8_errs 2 (some .int), Cond.fieldLink RX8 19 "LacePillowModel" "met" "[I", Cond.constant RX8 117 (-1000000000), Cond.methodLink RX8 154 yX8_anew, Cond.instanceMethod yX8_anew, Cond.selects RX8 yX8_anew yX8_anew, Cond.code yX8_anew cX8_anew 1 none, Cond.methodLink RX8 114 yX8_lists, Cond.instanceMethod yX8_lists, Cond.selects RX8 yX8_lists yX8_lists, Cond.code yX8_lists cX8_lists 3 none, Cond.fieldLink RX8 120 "LacePillowModel" "many" "I", Cond.methodLink RX8 124 yX8_gaps]
def wsX8_pairs_r2 : List Cond := [Cond.instanceMethod yX8_gaps, Cond.selects RX8 yX8_gaps yX8_gaps, Cond.code yX8_gaps cX8_gaps 1 (some .int), Cond.methodLink RX8 127 yX8_held, Cond.instanceMethod yX8_held, Cond.selects RX8 yX8_held yX8_held, Cond.code yX8_held cX8_held 3 (some .int), Cond.methodLink RX8 131 yX8_add, Cond.instanceMethod yX8_add, Cond.selects RX8 yX8_add yX8_add, Cond.code yX8_add cX8_add 5 none, Cond.fieldLink RX8 22 "LacePillowModel" "row" "[I", Cond.fieldLink RX8 25 "LacePillowModel" "gap" "[I", Cond.fieldLink RX8 28 "LacePillowModel" "kind" "[I", Cond.fieldLink RX8 34 "LacePillowModel" "ahead" "[J", Cond.fieldLink RX8 31 "LacePillowModel" "level" "[I"]
def wsX8_pairs : List Cond := .code yX8_pairs cX8_pairs 4 (some .int) :: ((wsX8_pairs_r1 ++ wsX8_pairs_r2) ++ wsX80)
def wsX8_isPlaceOf : List Cond := .code yX8_isPlaceOf cX8_isPlaceOf 3 (some .boolean) :: ([.constantLong RX8 157 (11), .methodLink RX8 145 yX8_in, .static yX8_in, .initialized RX8, .code yX8_in cX8_in 6 (some .boolean), .methodLink RX8 124 yX8_gaps, .instanceMethod yX8_gaps, .selects RX8 yX8_gaps yX8_gaps, .code yX8_gaps cX8_gaps 1 (some .int), .fieldLink RX8 9 "LacePillowModel" "now" "[I"] ++ wsX80)
def wsX8_lay_r1 : List Cond := [Cond.constantLong RX8 139 (-1), Cond.constantLong RX8 163 (5), Cond.constant RX8 149 (-1000000001), Cond.constant RX8 165 (-1000000003), Cond.fieldLink RX8 9 "LacePillowModel" "now" "[I", Cond.methodLink RX8 159 yX8_isPlaceOf, Cond.instanceMethod yX8_isPlaceOf, Cond.selects RX8 yX8_isPlaceOf yX8_isPlaceOf, Cond.initialized RX8, Cond.code yX8_isPlaceOf cX8_isPlaceOf 3 (some .boolean), Cond.constantLong RX8 157 (11), Cond.methodLink RX8 145 yX8_in, Cond.static yX8_in, Cond.code yX8_in cX8_in 6 (some .boolean), Cond.methodLink RX8 124 yX8_gaps, Cond.instanceMethod yX8_gaps, Cond.selects RX8 yX8_gaps yX8_gaps, Cond.code yX8_gaps cX8_gaps 1 (some .int), Cond.methodLink RX8 150 yX8_errs, Cond.instanceMethod yX8_errs, Cond.selects RX8 yX8_errs yX8_errs, Cond.code yX8_errs cX8_errs 2 (some .int), Cond.fieldLink RX8 19 "LacePillowModel" "met" "[I", Cond.constant RX8 117 (-1000000000)]
def wsX8_lay_r2 : List Cond := [Cond.methodLink RX8 127 yX8_held, Cond.instanceMethod yX8_held, Cond.selects RX8 yX8_held yX8_held, Cond.code yX8_held cX8_held 3 (some .int), Cond.methodLink RX8 154 yX8_anew, Cond.instanceMethod yX8_anew, Cond.selects RX8 yX8_anew yX8_anew, Cond.code yX8_anew cX8_anew 1 none, Cond.methodLink RX8 114 yX8_lists, Cond.instanceMethod yX8_lists, Cond.selects RX8 yX8_lists yX8_lists, Cond.code yX8_lists cX8_lists 3 none, Cond.fieldLink RX8 120 "LacePillowModel" "many" "I", Cond.methodLink RX8 131 yX8_add, Cond.instanceMethod yX8_add, Cond.selects RX8 yX8_add yX8_add, Cond.code yX8_add cX8_add 5 none, Cond.fieldLink RX8 22 "LacePillowModel" "row" "[I", Cond.fieldLink RX8 25 "LacePillowModel" "gap" "[I", Cond.fieldLink RX8 28 "LacePillowModel" "kind" "[I", Cond.fieldLink RX8 34 "LacePillowModel" "ahead" "[J", Cond.fieldLink RX8 31 "LacePillowModel" "level" "[I"]
def wsX8_lay : List Cond := .code yX8_lay cX8_lay 7 (some .int) :: ((wsX8_lay_r1 ++ wsX8_lay_r2) ++ wsX80)
def wsX8_look_r1 : List Cond := [Cond.constant RX8 149 (-1000000001), Cond.methodLink RX8 159 yX8_isPlaceOf, Cond.instanceMethod yX8_isPlaceOf, Cond.selects RX8 yX8_isPlaceOf yX8_isPlaceOf, Cond.initialized RX8, Cond.code yX8_isPlaceOf cX8_isPlaceOf 3 (some .boolean), Cond.constantLong RX8 157 (11), Cond.methodLink RX8 145 yX8_in, Cond.static yX8_in, Cond.code yX8_in cX8_in 6 (some .boolean), Cond.methodLink RX8 124 yX8_gaps, Cond.instanceMethod yX8_gaps, Cond.selects RX8 yX8_gaps yX8_gaps, Cond.code yX8_gaps cX8_gaps 1 (some .int), Cond.fieldLink RX8 9 "LacePillowModel" "now" "[I", Cond.methodLink RX8 127 yX8_held, Cond.instanceMethod yX8_held, Cond.selects RX8 yX8_held yX8_held, Cond.code yX8_held cX8_held 3 (some .int), Cond.methodLink RX8 150 yX8_errs, Cond.instanceMethod yX8_errs, Cond.selects RX8 yX8_errs yX8_errs, Cond.code yX8_errs cX8_errs 2 (some .int), Cond.fieldLink RX8 19 "LacePillowModel" "met" "[I"]
def wsX8_look_r2 : List Cond := [Cond.constant RX8 117 (-1000000000)]
def wsX8_look : List Cond := .code yX8_look cX8_look 3 (some .int) :: ((wsX8_look_r1 ++ wsX8_look_r2) ++ wsX80)
def wsX8_feed : List Cond := .code yX8_feed cX8_feed 2 (some .int) :: ([.constantLong RX8 166 (255), .constant RX8 149 (-1000000001), .fieldLink RX8 168 "LacePillowModel" "taped" "I", .constant RX8 171 (-1000000004), .fieldLink RX8 38 "LacePillowModel" "tape" "[I", .methodLink RX8 145 yX8_in, .static yX8_in, .initialized RX8, .code yX8_in cX8_in 6 (some .boolean), .methodLink RX8 150 yX8_errs, .instanceMethod yX8_errs, .selects RX8 yX8_errs yX8_errs, .code yX8_errs cX8_errs 2 (some .int), .fieldLink RX8 19 "LacePillowModel" "met" "[I", .constant RX8 117 (-1000000000)] ++ wsX80)
def wsX8_prickingFault : List Cond := .code yX8_prickingFault cX8_prickingFault 7 (some .int) :: ([.fieldLink RX8 168 "LacePillowModel" "taped" "I", .fieldLink RX8 38 "LacePillowModel" "tape" "[I", .constantLong RX8 172 (97), .constantLong RX8 174 (102), .methodLink RX8 124 yX8_gaps, .instanceMethod yX8_gaps, .selects RX8 yX8_gaps yX8_gaps, .initialized RX8, .code yX8_gaps cX8_gaps 1 (some .int), .fieldLink RX8 9 "LacePillowModel" "now" "[I", .methodLink RX8 145 yX8_in, .static yX8_in, .code yX8_in cX8_in 6 (some .boolean)] ++ wsX80)
def wsX8_read_r1 : List Cond := [Cond.fieldLink RX8 168 "LacePillowModel" "taped" "I", Cond.fieldLink RX8 9 "LacePillowModel" "now" "[I", Cond.fieldLink RX8 38 "LacePillowModel" "tape" "[I", Cond.fieldLink RX8 120 "LacePillowModel" "many" "I", Cond.methodLink RX8 176 yX8_prickingFault, Cond.instanceMethod yX8_prickingFault, Cond.selects RX8 yX8_prickingFault yX8_prickingFault, Cond.initialized RX8, Cond.code yX8_prickingFault cX8_prickingFault 7 (some .int), Cond.constantLong RX8 172 (97), Cond.constantLong RX8 174 (102), Cond.methodLink RX8 124 yX8_gaps, Cond.instanceMethod yX8_gaps, Cond.selects RX8 yX8_gaps yX8_gaps, Cond.code yX8_gaps cX8_gaps 1 (some .int), Cond.methodLink RX8 145 yX8_in, Cond.static yX8_in, Cond.code yX8_in cX8_in 6 (some .boolean), Cond.methodLink RX8 154 yX8_anew, Cond.instanceMethod yX8_anew, Cond.selects RX8 yX8_anew yX8_anew, Cond.code yX8_anew cX8_anew 1 none, Cond.methodLink RX8 114 yX8_lists, Cond.instanceMethod yX8_lists]
def wsX8_read_r2 : List Cond := [Cond.selects RX8 yX8_lists yX8_lists, Cond.code yX8_lists cX8_lists 3 none, Cond.methodLink RX8 127 yX8_held, Cond.instanceMethod yX8_held, Cond.selects RX8 yX8_held yX8_held, Cond.code yX8_held cX8_held 3 (some .int), Cond.methodLink RX8 131 yX8_add, Cond.instanceMethod yX8_add, Cond.selects RX8 yX8_add yX8_add, Cond.code yX8_add cX8_add 5 none, Cond.fieldLink RX8 22 "LacePillowModel" "row" "[I", Cond.fieldLink RX8 25 "LacePillowModel" "gap" "[I", Cond.fieldLink RX8 28 "LacePillowModel" "kind" "[I", Cond.fieldLink RX8 34 "LacePillowModel" "ahead" "[J", Cond.fieldLink RX8 31 "LacePillowModel" "level" "[I"]
def wsX8_read : List Cond := .code yX8_read cX8_read 5 (some .int) :: ((wsX8_read_r1 ++ wsX8_read_r2) ++ wsX80)
def wsX8_isTold : List Cond := .code yX8_isTold cX8_isTold 1 (some .boolean) :: ([])
def wsX8_spell_r1 : List Cond := [Cond.constantLong RX8 163 (5), Cond.constant RX8 149 (-1000000001), Cond.fieldLink RX8 168 "LacePillowModel" "taped" "I", Cond.fieldLink RX8 38 "LacePillowModel" "tape" "[I", Cond.fieldLink RX8 9 "LacePillowModel" "now" "[I", Cond.methodLink RX8 145 yX8_in, Cond.static yX8_in, Cond.initialized RX8, Cond.code yX8_in cX8_in 6 (some .boolean), Cond.methodLink RX8 150 yX8_errs, Cond.instanceMethod yX8_errs, Cond.selects RX8 yX8_errs yX8_errs, Cond.code yX8_errs cX8_errs 2 (some .int), Cond.fieldLink RX8 19 "LacePillowModel" "met" "[I", Cond.constant RX8 117 (-1000000000), Cond.methodLink RX8 179 yX8_isTold, Cond.static yX8_isTold, Cond.code yX8_isTold cX8_isTold 1 (some .boolean), Cond.methodLink RX8 154 yX8_anew, Cond.instanceMethod yX8_anew, Cond.selects RX8 yX8_anew yX8_anew, Cond.code yX8_anew cX8_anew 1 none, Cond.methodLink RX8 114 yX8_lists, Cond.instanceMethod yX8_lists]
def wsX8_spell_r2 : List Cond := [Cond.selects RX8 yX8_lists yX8_lists, Cond.code yX8_lists cX8_lists 3 none, Cond.fieldLink RX8 120 "LacePillowModel" "many" "I", Cond.methodLink RX8 124 yX8_gaps, Cond.instanceMethod yX8_gaps, Cond.selects RX8 yX8_gaps yX8_gaps, Cond.code yX8_gaps cX8_gaps 1 (some .int), Cond.methodLink RX8 127 yX8_held, Cond.instanceMethod yX8_held, Cond.selects RX8 yX8_held yX8_held, Cond.code yX8_held cX8_held 3 (some .int), Cond.methodLink RX8 131 yX8_add, Cond.instanceMethod yX8_add, Cond.selects RX8 yX8_add yX8_add, Cond.code yX8_add cX8_add 5 none, Cond.fieldLink RX8 22 "LacePillowModel" "row" "[I", Cond.fieldLink RX8 25 "LacePillowModel" "gap" "[I", Cond.fieldLink RX8 28 "LacePillowModel" "kind" "[I", Cond.fieldLink RX8 34 "LacePillowModel" "ahead" "[J", Cond.fieldLink RX8 31 "LacePillowModel" "level" "[I"]
def wsX8_spell : List Cond := .code yX8_spell cX8_spell 5 (some .int) :: ((wsX8_spell_r1 ++ wsX8_spell_r2) ++ wsX80)
def wsX8_letterOf : List Cond := .code yX8_letterOf cX8_letterOf 3 (some .int) :: ([.fieldLink RX8 9 "LacePillowModel" "now" "[I"] ++ wsX80)
def wsX8_letter : List Cond := .code yX8_letter cX8_letter 3 (some .int) :: ([.constantLong RX8 163 (5), .fieldLink RX8 9 "LacePillowModel" "now" "[I", .constant RX8 149 (-1000000001), .methodLink RX8 145 yX8_in, .static yX8_in, .initialized RX8, .code yX8_in cX8_in 6 (some .boolean), .methodLink RX8 183 yX8_letterOf, .instanceMethod yX8_letterOf, .selects RX8 yX8_letterOf yX8_letterOf, .code yX8_letterOf cX8_letterOf 3 (some .int), .methodLink RX8 150 yX8_errs, .instanceMethod yX8_errs, .selects RX8 yX8_errs yX8_errs, .code yX8_errs cX8_errs 2 (some .int), .fieldLink RX8 19 "LacePillowModel" "met" "[I", .constant RX8 117 (-1000000000)] ++ wsX80)
def wsX8_begins : List Cond := .code yX8_begins cX8_begins 2 none :: ([.fieldLink RX8 186 "LacePillowModel" "crossings" "I", .fieldLink RX8 41 "LacePillowModel" "at" "[I", .fieldLink RX8 44 "LacePillowModel" "used" "[I"] ++ wsX80)
def wsX8_cross : List Cond := .code yX8_cross cX8_cross 6 none :: ([.fieldLink RX8 41 "LacePillowModel" "at" "[I", .fieldLink RX8 47 "LacePillowModel" "place" "[I", .fieldLink RX8 186 "LacePillowModel" "crossings" "I", .fieldLink RX8 50 "LacePillowModel" "sign" "[I", .fieldLink RX8 53 "LacePillowModel" "over" "[I", .fieldLink RX8 56 "LacePillowModel" "under" "[I", .fieldLink RX8 59 "LacePillowModel" "by" "[I", .fieldLink RX8 44 "LacePillowModel" "used" "[I"] ++ wsX80)
def wsX8_spells : List Cond := .code yX8_spells cX8_spells 6 none :: ([.fieldLink RX8 9 "LacePillowModel" "now" "[I", .methodLink RX8 183 yX8_letterOf, .instanceMethod yX8_letterOf, .selects RX8 yX8_letterOf yX8_letterOf, .initialized RX8, .code yX8_letterOf cX8_letterOf 3 (some .int), .methodLink RX8 189 yX8_cross, .instanceMethod yX8_cross, .selects RX8 yX8_cross yX8_cross, .code yX8_cross cX8_cross 6 none, .fieldLink RX8 41 "LacePillowModel" "at" "[I", .fieldLink RX8 47 "LacePillowModel" "place" "[I", .fieldLink RX8 186 "LacePillowModel" "crossings" "I", .fieldLink RX8 50 "LacePillowModel" "sign" "[I", .fieldLink RX8 53 "LacePillowModel" "over" "[I", .fieldLink RX8 56 "LacePillowModel" "under" "[I", .fieldLink RX8 59 "LacePillowModel" "by" "[I", .fieldLink RX8 44 "LacePillowModel" "used" "[I"] ++ wsX80)
def wsX8_works : List Cond := .code yX8_works cX8_works 4 none :: ([.fieldLink RX8 25 "LacePillowModel" "gap" "[I", .fieldLink RX8 44 "LacePillowModel" "used" "[I", .fieldLink RX8 41 "LacePillowModel" "at" "[I", .fieldLink RX8 28 "LacePillowModel" "kind" "[I", .methodLink RX8 193 yX8_spells, .instanceMethod yX8_spells, .selects RX8 yX8_spells yX8_spells, .initialized RX8, .code yX8_spells cX8_spells 6 none, .fieldLink RX8 9 "LacePillowModel" "now" "[I", .methodLink RX8 183 yX8_letterOf, .instanceMethod yX8_letterOf, .selects RX8 yX8_letterOf yX8_letterOf, .code yX8_letterOf cX8_letterOf 3 (some .int), .methodLink RX8 189 yX8_cross, .instanceMethod yX8_cross, .selects RX8 yX8_cross yX8_cross, .code yX8_cross cX8_cross 6 none, .fieldLink RX8 47 "LacePillowModel" "place" "[I", .fieldLink RX8 186 "LacePillowModel" "crossings" "I", .fieldLink RX8 50 "LacePillowModel" "sign" "[I", .fieldLink RX8 53 "LacePillowModel" "over" "[I", .fieldLink RX8 56 "LacePillowModel" "under" "[I", .fieldLink RX8 59 "LacePillowModel" "by" "[I"] ++ wsX80)
def wsX8_theWork_r1 : List Cond := [Cond.fieldLink RX8 9 "LacePillowModel" "now" "[I", Cond.methodLink RX8 196 yX8_begins, Cond.instanceMethod yX8_begins, Cond.selects RX8 yX8_begins yX8_begins, Cond.initialized RX8, Cond.code yX8_begins cX8_begins 2 none, Cond.fieldLink RX8 186 "LacePillowModel" "crossings" "I", Cond.fieldLink RX8 41 "LacePillowModel" "at" "[I", Cond.fieldLink RX8 44 "LacePillowModel" "used" "[I", Cond.methodLink RX8 199 yX8_works, Cond.instanceMethod yX8_works, Cond.selects RX8 yX8_works yX8_works, Cond.code yX8_works cX8_works 4 none, Cond.fieldLink RX8 25 "LacePillowModel" "gap" "[I", Cond.fieldLink RX8 28 "LacePillowModel" "kind" "[I", Cond.methodLink RX8 193 yX8_spells, Cond.instanceMethod yX8_spells, Cond.selects RX8 yX8_spells yX8_spells, Cond.code yX8_spells cX8_spells 6 none, Cond.methodLink RX8 183 yX8_letterOf, Cond.instanceMethod yX8_letterOf, Cond.selects RX8 yX8_letterOf yX8_letterOf, Cond.code yX8_letterOf cX8_letterOf 3 (some .int), Cond.methodLink RX8 189 yX8_cross]
def wsX8_theWork_r2 : List Cond := [Cond.instanceMethod yX8_cross, Cond.selects RX8 yX8_cross yX8_cross, Cond.code yX8_cross cX8_cross 6 none, Cond.fieldLink RX8 47 "LacePillowModel" "place" "[I", Cond.fieldLink RX8 50 "LacePillowModel" "sign" "[I", Cond.fieldLink RX8 53 "LacePillowModel" "over" "[I", Cond.fieldLink RX8 56 "LacePillowModel" "under" "[I", Cond.fieldLink RX8 59 "LacePillowModel" "by" "[I"]
def wsX8_theWork : List Cond := .code yX8_theWork cX8_theWork 2 none :: ((wsX8_theWork_r1 ++ wsX8_theWork_r2) ++ wsX80)
def wsX8_first_r1 : List Cond := [Cond.methodLink RX8 196 yX8_begins, Cond.instanceMethod yX8_begins, Cond.selects RX8 yX8_begins yX8_begins, Cond.initialized RX8, Cond.code yX8_begins cX8_begins 2 none, Cond.fieldLink RX8 186 "LacePillowModel" "crossings" "I", Cond.fieldLink RX8 41 "LacePillowModel" "at" "[I", Cond.fieldLink RX8 44 "LacePillowModel" "used" "[I", Cond.methodLink RX8 199 yX8_works, Cond.instanceMethod yX8_works, Cond.selects RX8 yX8_works yX8_works, Cond.code yX8_works cX8_works 4 none, Cond.fieldLink RX8 25 "LacePillowModel" "gap" "[I", Cond.fieldLink RX8 28 "LacePillowModel" "kind" "[I", Cond.methodLink RX8 193 yX8_spells, Cond.instanceMethod yX8_spells, Cond.selects RX8 yX8_spells yX8_spells, Cond.code yX8_spells cX8_spells 6 none, Cond.fieldLink RX8 9 "LacePillowModel" "now" "[I", Cond.methodLink RX8 183 yX8_letterOf, Cond.instanceMethod yX8_letterOf, Cond.selects RX8 yX8_letterOf yX8_letterOf, Cond.code yX8_letterOf cX8_letterOf 3 (some .int), Cond.methodLink RX8 189 yX8_cross]
def wsX8_first_r2 : List Cond := [Cond.instanceMethod yX8_cross, Cond.selects RX8 yX8_cross yX8_cross, Cond.code yX8_cross cX8_cross 6 none, Cond.fieldLink RX8 47 "LacePillowModel" "place" "[I", Cond.fieldLink RX8 50 "LacePillowModel" "sign" "[I", Cond.fieldLink RX8 53 "LacePillowModel" "over" "[I", Cond.fieldLink RX8 56 "LacePillowModel" "under" "[I", Cond.fieldLink RX8 59 "LacePillowModel" "by" "[I"]
def wsX8_first : List Cond := .code yX8_first cX8_first 3 none :: ((wsX8_first_r1 ++ wsX8_first_r2) ++ wsX80)
def wsX8_whole_r1 : List Cond := [Cond.fieldLink RX8 120 "LacePillowModel" "many" "I", Cond.methodLink RX8 203 yX8_theWork, Cond.instanceMethod yX8_theWork, Cond.selects RX8 yX8_theWork yX8_theWork, Cond.initialized RX8, Cond.code yX8_theWork cX8_theWork 2 none, Cond.fieldLink RX8 9 "LacePillowModel" "now" "[I", Cond.methodLink RX8 196 yX8_begins, Cond.instanceMethod yX8_begins, Cond.selects RX8 yX8_begins yX8_begins, Cond.code yX8_begins cX8_begins 2 none, Cond.fieldLink RX8 186 "LacePillowModel" "crossings" "I", Cond.fieldLink RX8 41 "LacePillowModel" "at" "[I", Cond.fieldLink RX8 44 "LacePillowModel" "used" "[I", Cond.methodLink RX8 199 yX8_works, Cond.instanceMethod yX8_works, Cond.selects RX8 yX8_works yX8_works, Cond.code yX8_works cX8_works 4 none, Cond.fieldLink RX8 25 "LacePillowModel" "gap" "[I", Cond.fieldLink RX8 28 "LacePillowModel" "kind" "[I", Cond.methodLink RX8 193 yX8_spells, Cond.instanceMethod yX8_spells, Cond.selects RX8 yX8_spells yX8_spells, Cond.code yX8_spells cX8_spells 6 none]
def wsX8_whole_r2 : List Cond := [Cond.methodLink RX8 183 yX8_letterOf, Cond.instanceMethod yX8_letterOf, Cond.selects RX8 yX8_letterOf yX8_letterOf, Cond.code yX8_letterOf cX8_letterOf 3 (some .int), Cond.methodLink RX8 189 yX8_cross, Cond.instanceMethod yX8_cross, Cond.selects RX8 yX8_cross yX8_cross, Cond.code yX8_cross cX8_cross 6 none, Cond.fieldLink RX8 47 "LacePillowModel" "place" "[I", Cond.fieldLink RX8 50 "LacePillowModel" "sign" "[I", Cond.fieldLink RX8 53 "LacePillowModel" "over" "[I", Cond.fieldLink RX8 56 "LacePillowModel" "under" "[I", Cond.fieldLink RX8 59 "LacePillowModel" "by" "[I", Cond.methodLink RX8 206 yX8_first, Cond.instanceMethod yX8_first, Cond.selects RX8 yX8_first yX8_first, Cond.code yX8_first cX8_first 3 none]
def wsX8_whole : List Cond := .code yX8_whole cX8_whole 2 none :: ((wsX8_whole_r1 ++ wsX8_whole_r2) ++ wsX80)
def wsX8_drop : List Cond := .code yX8_drop cX8_drop 3 none :: ([.fieldLink RX8 210 "LacePillowModel" "left" "I", .fieldLink RX8 62 "LacePillowModel" "leftPlace" "[I", .fieldLink RX8 65 "LacePillowModel" "leftSign" "[I"] ++ wsX80)
def wsX8_comes : List Cond := .code yX8_comes cX8_comes 4 none :: ([.fieldLink RX8 210 "LacePillowModel" "left" "I", .fieldLink RX8 62 "LacePillowModel" "leftPlace" "[I", .fieldLink RX8 65 "LacePillowModel" "leftSign" "[I", .methodLink RX8 213 yX8_drop, .instanceMethod yX8_drop, .selects RX8 yX8_drop yX8_drop, .initialized RX8, .code yX8_drop cX8_drop 3 none] ++ wsX80)
def wsX8_layers : List Cond := .code yX8_layers cX8_layers 5 (some .int) :: ([.fieldLink RX8 210 "LacePillowModel" "left" "I", .fieldLink RX8 186 "LacePillowModel" "crossings" "I", .fieldLink RX8 47 "LacePillowModel" "place" "[I", .fieldLink RX8 50 "LacePillowModel" "sign" "[I", .fieldLink RX8 68 "LacePillowModel" "layerOf" "[I", .fieldLink RX8 62 "LacePillowModel" "leftPlace" "[I", .methodLink RX8 216 yX8_comes, .instanceMethod yX8_comes, .selects RX8 yX8_comes yX8_comes, .initialized RX8, .code yX8_comes cX8_comes 4 none, .fieldLink RX8 65 "LacePillowModel" "leftSign" "[I", .methodLink RX8 213 yX8_drop, .instanceMethod yX8_drop, .selects RX8 yX8_drop yX8_drop, .code yX8_drop cX8_drop 3 none] ++ wsX80)
def wsX8_signIn : List Cond := .code yX8_signIn cX8_signIn 4 (some .int) :: ([.fieldLink RX8 210 "LacePillowModel" "left" "I", .fieldLink RX8 62 "LacePillowModel" "leftPlace" "[I", .fieldLink RX8 68 "LacePillowModel" "layerOf" "[I", .fieldLink RX8 65 "LacePillowModel" "leftSign" "[I"] ++ wsX80)
def wsX8_word_r1 : List Cond := [Cond.constantLong RX8 163 (5), Cond.constantLong RX8 219 (7), Cond.constant RX8 149 (-1000000001), Cond.fieldLink RX8 9 "LacePillowModel" "now" "[I", Cond.fieldLink RX8 186 "LacePillowModel" "crossings" "I", Cond.fieldLink RX8 210 "LacePillowModel" "left" "I", Cond.fieldLink RX8 41 "LacePillowModel" "at" "[I", Cond.methodLink RX8 145 yX8_in, Cond.static yX8_in, Cond.initialized RX8, Cond.code yX8_in cX8_in 6 (some .boolean), Cond.methodLink RX8 150 yX8_errs, Cond.instanceMethod yX8_errs, Cond.selects RX8 yX8_errs yX8_errs, Cond.code yX8_errs cX8_errs 2 (some .int), Cond.fieldLink RX8 19 "LacePillowModel" "met" "[I", Cond.constant RX8 117 (-1000000000), Cond.methodLink RX8 196 yX8_begins, Cond.instanceMethod yX8_begins, Cond.selects RX8 yX8_begins yX8_begins, Cond.code yX8_begins cX8_begins 2 none, Cond.fieldLink RX8 44 "LacePillowModel" "used" "[I", Cond.methodLink RX8 193 yX8_spells, Cond.instanceMethod yX8_spells]
def wsX8_word_r2 : List Cond := [Cond.selects RX8 yX8_spells yX8_spells, Cond.code yX8_spells cX8_spells 6 none, Cond.methodLink RX8 183 yX8_letterOf, Cond.instanceMethod yX8_letterOf, Cond.selects RX8 yX8_letterOf yX8_letterOf, Cond.code yX8_letterOf cX8_letterOf 3 (some .int), Cond.methodLink RX8 189 yX8_cross, Cond.instanceMethod yX8_cross, Cond.selects RX8 yX8_cross yX8_cross, Cond.code yX8_cross cX8_cross 6 none, Cond.fieldLink RX8 47 "LacePillowModel" "place" "[I", Cond.fieldLink RX8 50 "LacePillowModel" "sign" "[I", Cond.fieldLink RX8 53 "LacePillowModel" "over" "[I", Cond.fieldLink RX8 56 "LacePillowModel" "under" "[I", Cond.fieldLink RX8 59 "LacePillowModel" "by" "[I", Cond.methodLink RX8 221 yX8_layers, Cond.instanceMethod yX8_layers, Cond.selects RX8 yX8_layers yX8_layers, Cond.code yX8_layers cX8_layers 5 (some .int), Cond.fieldLink RX8 68 "LacePillowModel" "layerOf" "[I", Cond.fieldLink RX8 62 "LacePillowModel" "leftPlace" "[I", Cond.methodLink RX8 216 yX8_comes, Cond.instanceMethod yX8_comes, Cond.selects RX8 yX8_comes yX8_comes]
def wsX8_word_r3 : List Cond := [Cond.code yX8_comes cX8_comes 4 none, Cond.fieldLink RX8 65 "LacePillowModel" "leftSign" "[I", Cond.methodLink RX8 213 yX8_drop, Cond.instanceMethod yX8_drop, Cond.selects RX8 yX8_drop yX8_drop, Cond.code yX8_drop cX8_drop 3 none]
def wsX8_word : List Cond := .code yX8_word cX8_word 5 (some .int) :: ((wsX8_word_r1 ++ (wsX8_word_r2 ++ wsX8_word_r3)) ++ wsX80)
def wsX8_deep : List Cond := .code yX8_deep cX8_deep 1 (some .int) :: ([.fieldLink RX8 120 "LacePillowModel" "many" "I", .fieldLink RX8 22 "LacePillowModel" "row" "[I"] ++ wsX80)
def wsX8_chain : List Cond := .code yX8_chain cX8_chain 3 (some .int) :: ([.fieldLink RX8 120 "LacePillowModel" "many" "I", .fieldLink RX8 31 "LacePillowModel" "level" "[I"] ++ wsX80)
def wsX8_takes : List Cond := .code yX8_takes cX8_takes 3 (some .boolean) :: ([.fieldLink RX8 120 "LacePillowModel" "many" "I", .fieldLink RX8 34 "LacePillowModel" "ahead" "[J", .fieldLink RX8 224 "LacePillowModel" "seen" "J", .fieldLink RX8 71 "LacePillowModel" "takenBy" "[I", .methodLink RX8 228 yX8_takes, .instanceMethod yX8_takes, .selects RX8 yX8_takes yX8_takes, .initialized RX8] ++ wsX80)
def wsX8_wide : List Cond := .code yX8_wide cX8_wide 3 (some .int) :: ([.fieldLink RX8 120 "LacePillowModel" "many" "I", .fieldLink RX8 71 "LacePillowModel" "takenBy" "[I", .fieldLink RX8 224 "LacePillowModel" "seen" "J", .methodLink RX8 228 yX8_takes, .instanceMethod yX8_takes, .selects RX8 yX8_takes yX8_takes, .initialized RX8, .code yX8_takes cX8_takes 3 (some .boolean), .fieldLink RX8 34 "LacePillowModel" "ahead" "[J"] ++ wsX80)
def wsX8_leastFree : List Cond := .code yX8_leastFree cX8_leastFree 2 (some .int) :: ([.fieldLink RX8 120 "LacePillowModel" "many" "I", .methodLink RX8 231 yX8_isFree, .instanceMethod yX8_isFree, .selects RX8 yX8_isFree yX8_isFree, .initialized RX8, .code yX8_isFree cX8_isFree 4 (some .boolean), .fieldLink RX8 34 "LacePillowModel" "ahead" "[J", .constantLong RX8 139 (-1), .methodLink RX8 135 yX8_workedSet, .instanceMethod yX8_workedSet, .selects RX8 yX8_workedSet yX8_workedSet, .code yX8_workedSet cX8_workedSet 4 (some .long), .fieldLink RX8 9 "LacePillowModel" "now" "[I"] ++ wsX80)
def wsX8_freeMany : List Cond := .code yX8_freeMany cX8_freeMany 3 (some .int) :: ([.fieldLink RX8 120 "LacePillowModel" "many" "I", .methodLink RX8 231 yX8_isFree, .instanceMethod yX8_isFree, .selects RX8 yX8_isFree yX8_isFree, .initialized RX8, .code yX8_isFree cX8_isFree 4 (some .boolean), .fieldLink RX8 34 "LacePillowModel" "ahead" "[J", .constantLong RX8 139 (-1), .methodLink RX8 135 yX8_workedSet, .instanceMethod yX8_workedSet, .selects RX8 yX8_workedSet yX8_workedSet, .code yX8_workedSet cX8_workedSet 4 (some .long), .fieldLink RX8 9 "LacePillowModel" "now" "[I"] ++ wsX80)
def wsX8_stitches_r1 : List Cond := [Cond.fieldLink RX8 120 "LacePillowModel" "many" "I", Cond.fieldLink RX8 9 "LacePillowModel" "now" "[I", Cond.constant RX8 249 (-1000000002), Cond.constant RX8 149 (-1000000001), Cond.methodLink RX8 234 yX8_deep, Cond.instanceMethod yX8_deep, Cond.selects RX8 yX8_deep yX8_deep, Cond.initialized RX8, Cond.code yX8_deep cX8_deep 1 (some .int), Cond.fieldLink RX8 22 "LacePillowModel" "row" "[I", Cond.methodLink RX8 237 yX8_chain, Cond.instanceMethod yX8_chain, Cond.selects RX8 yX8_chain yX8_chain, Cond.code yX8_chain cX8_chain 3 (some .int), Cond.fieldLink RX8 31 "LacePillowModel" "level" "[I", Cond.methodLink RX8 240 yX8_wide, Cond.instanceMethod yX8_wide, Cond.selects RX8 yX8_wide yX8_wide, Cond.code yX8_wide cX8_wide 3 (some .int), Cond.fieldLink RX8 71 "LacePillowModel" "takenBy" "[I", Cond.fieldLink RX8 224 "LacePillowModel" "seen" "J", Cond.methodLink RX8 228 yX8_takes, Cond.instanceMethod yX8_takes, Cond.selects RX8 yX8_takes yX8_takes]
def wsX8_stitches_r2 : List Cond := [Cond.code yX8_takes cX8_takes 3 (some .boolean), Cond.fieldLink RX8 34 "LacePillowModel" "ahead" "[J", Cond.methodLink RX8 243 yX8_freeMany, Cond.instanceMethod yX8_freeMany, Cond.selects RX8 yX8_freeMany yX8_freeMany, Cond.code yX8_freeMany cX8_freeMany 3 (some .int), Cond.methodLink RX8 231 yX8_isFree, Cond.instanceMethod yX8_isFree, Cond.selects RX8 yX8_isFree yX8_isFree, Cond.code yX8_isFree cX8_isFree 4 (some .boolean), Cond.constantLong RX8 139 (-1), Cond.methodLink RX8 135 yX8_workedSet, Cond.instanceMethod yX8_workedSet, Cond.selects RX8 yX8_workedSet yX8_workedSet, Cond.code yX8_workedSet cX8_workedSet 4 (some .long), Cond.methodLink RX8 246 yX8_leastFree, Cond.instanceMethod yX8_leastFree, Cond.selects RX8 yX8_leastFree yX8_leastFree, Cond.code yX8_leastFree cX8_leastFree 2 (some .int), Cond.methodLink RX8 150 yX8_errs, Cond.instanceMethod yX8_errs, Cond.selects RX8 yX8_errs yX8_errs, Cond.code yX8_errs cX8_errs 2 (some .int), Cond.fieldLink RX8 19 "LacePillowModel" "met" "[I"]
def wsX8_stitches_r3 : List Cond := [Cond.constant RX8 117 (-1000000000)]
def wsX8_stitches : List Cond := .code yX8_stitches cX8_stitches 2 (some .int) :: ((wsX8_stitches_r1 ++ (wsX8_stitches_r2 ++ wsX8_stitches_r3)) ++ wsX80)
def wsX8_isStitch : List Cond := .code yX8_isStitch cX8_isStitch 3 (some .boolean) :: ([.fieldLink RX8 120 "LacePillowModel" "many" "I", .methodLink RX8 145 yX8_in, .static yX8_in, .initialized RX8, .code yX8_in cX8_in 6 (some .boolean)] ++ wsX80)
def wsX8_behind : List Cond := .code yX8_behind cX8_behind 4 (some .int) :: ([.fieldLink RX8 120 "LacePillowModel" "many" "I", .fieldLink RX8 34 "LacePillowModel" "ahead" "[J"] ++ wsX80)
def wsX8_stitch_r1 : List Cond := [Cond.constant RX8 149 (-1000000001), Cond.fieldLink RX8 22 "LacePillowModel" "row" "[I", Cond.fieldLink RX8 25 "LacePillowModel" "gap" "[I", Cond.fieldLink RX8 28 "LacePillowModel" "kind" "[I", Cond.fieldLink RX8 31 "LacePillowModel" "level" "[I", Cond.fieldLink RX8 34 "LacePillowModel" "ahead" "[J", Cond.methodLink RX8 250 yX8_isStitch, Cond.instanceMethod yX8_isStitch, Cond.selects RX8 yX8_isStitch yX8_isStitch, Cond.initialized RX8, Cond.code yX8_isStitch cX8_isStitch 3 (some .boolean), Cond.fieldLink RX8 120 "LacePillowModel" "many" "I", Cond.methodLink RX8 145 yX8_in, Cond.static yX8_in, Cond.code yX8_in cX8_in 6 (some .boolean), Cond.methodLink RX8 150 yX8_errs, Cond.instanceMethod yX8_errs, Cond.selects RX8 yX8_errs yX8_errs, Cond.code yX8_errs cX8_errs 2 (some .int), Cond.fieldLink RX8 19 "LacePillowModel" "met" "[I", Cond.constant RX8 117 (-1000000000), Cond.methodLink RX8 254 yX8_bits, Cond.static yX8_bits, Cond.code yX8_bits cX8_bits 5 (some .int)]
def wsX8_stitch_r2 : List Cond := [Cond.methodLink RX8 258 yX8_behind, Cond.instanceMethod yX8_behind, Cond.selects RX8 yX8_behind yX8_behind, Cond.code yX8_behind cX8_behind 4 (some .int), Cond.methodLink RX8 135 yX8_workedSet, Cond.instanceMethod yX8_workedSet, Cond.selects RX8 yX8_workedSet yX8_workedSet, Cond.code yX8_workedSet cX8_workedSet 4 (some .long), Cond.fieldLink RX8 9 "LacePillowModel" "now" "[I", Cond.methodLink RX8 231 yX8_isFree, Cond.instanceMethod yX8_isFree, Cond.selects RX8 yX8_isFree yX8_isFree, Cond.code yX8_isFree cX8_isFree 4 (some .boolean), Cond.constantLong RX8 139 (-1)]
def wsX8_stitch : List Cond := .code yX8_stitch cX8_stitch 3 (some .int) :: ((wsX8_stitch_r1 ++ wsX8_stitch_r2) ++ wsX80)
def wsX8_ahead : List Cond := .code yX8_ahead cX8_ahead 3 (some .int) :: ([.fieldLink RX8 34 "LacePillowModel" "ahead" "[J", .constant RX8 149 (-1000000001), .methodLink RX8 250 yX8_isStitch, .instanceMethod yX8_isStitch, .selects RX8 yX8_isStitch yX8_isStitch, .initialized RX8, .code yX8_isStitch cX8_isStitch 3 (some .boolean), .fieldLink RX8 120 "LacePillowModel" "many" "I", .methodLink RX8 145 yX8_in, .static yX8_in, .code yX8_in cX8_in 6 (some .boolean), .methodLink RX8 150 yX8_errs, .instanceMethod yX8_errs, .selects RX8 yX8_errs yX8_errs, .code yX8_errs cX8_errs 2 (some .int), .fieldLink RX8 19 "LacePillowModel" "met" "[I", .constant RX8 117 (-1000000000)] ++ wsX80)
def wsX8_forgets : List Cond := .code yX8_forgets cX8_forgets 2 none :: ([.fieldLink RX8 74 "LacePillowModel" "setMet" "[I"] ++ wsX80)
def wsX8_ways : List Cond := .code yX8_ways cX8_ways 6 (some .long) :: ([.fieldLink RX8 120 "LacePillowModel" "many" "I", .constant RX8 261 (40503), .fieldLink RX8 74 "LacePillowModel" "setMet" "[I", .fieldLink RX8 77 "LacePillowModel" "waysMet" "[J", .fieldLink RX8 34 "LacePillowModel" "ahead" "[J", .methodLink RX8 254 yX8_bits, .static yX8_bits, .initialized RX8, .code yX8_bits cX8_bits 5 (some .int), .methodLink RX8 262 yX8_ways, .instanceMethod yX8_ways, .selects RX8 yX8_ways yX8_ways] ++ wsX80)
def wsX8_orders_r1 : List Cond := [Cond.fieldLink RX8 120 "LacePillowModel" "many" "I", Cond.constant RX8 171 (-1000000004), Cond.methodLink RX8 266 yX8_errsLong, Cond.instanceMethod yX8_errsLong, Cond.selects RX8 yX8_errsLong yX8_errsLong, Cond.initialized RX8, Cond.code yX8_errsLong cX8_errsLong 2 (some .long), Cond.fieldLink RX8 19 "LacePillowModel" "met" "[I", Cond.constant RX8 117 (-1000000000), Cond.constantLong RX8 118 (-9000000000000000000), Cond.methodLink RX8 269 yX8_forgets, Cond.instanceMethod yX8_forgets, Cond.selects RX8 yX8_forgets yX8_forgets, Cond.code yX8_forgets cX8_forgets 2 none, Cond.fieldLink RX8 74 "LacePillowModel" "setMet" "[I", Cond.methodLink RX8 262 yX8_ways, Cond.instanceMethod yX8_ways, Cond.selects RX8 yX8_ways yX8_ways, Cond.code yX8_ways cX8_ways 6 (some .long), Cond.constant RX8 261 (40503), Cond.fieldLink RX8 77 "LacePillowModel" "waysMet" "[J", Cond.fieldLink RX8 34 "LacePillowModel" "ahead" "[J", Cond.methodLink RX8 254 yX8_bits, Cond.static yX8_bits]
def wsX8_orders_r2 : List Cond := [Cond.code yX8_bits cX8_bits 5 (some .int)]
def wsX8_orders : List Cond := .code yX8_orders cX8_orders 1 (some .long) :: ((wsX8_orders_r1 ++ wsX8_orders_r2) ++ wsX80)
def wsX8_order_r1 : List Cond := [Cond.fieldLink RX8 120 "LacePillowModel" "many" "I", Cond.constant RX8 149 (-1000000001), Cond.constant RX8 171 (-1000000004), Cond.constant RX8 249 (-1000000002), Cond.fieldLink RX8 34 "LacePillowModel" "ahead" "[J", Cond.methodLink RX8 145 yX8_in, Cond.static yX8_in, Cond.initialized RX8, Cond.code yX8_in cX8_in 6 (some .boolean), Cond.methodLink RX8 150 yX8_errs, Cond.instanceMethod yX8_errs, Cond.selects RX8 yX8_errs yX8_errs, Cond.code yX8_errs cX8_errs 2 (some .int), Cond.fieldLink RX8 19 "LacePillowModel" "met" "[I", Cond.constant RX8 117 (-1000000000), Cond.methodLink RX8 269 yX8_forgets, Cond.instanceMethod yX8_forgets, Cond.selects RX8 yX8_forgets yX8_forgets, Cond.code yX8_forgets cX8_forgets 2 none, Cond.fieldLink RX8 74 "LacePillowModel" "setMet" "[I", Cond.methodLink RX8 262 yX8_ways, Cond.instanceMethod yX8_ways, Cond.selects RX8 yX8_ways yX8_ways, Cond.code yX8_ways cX8_ways 6 (some .long)]
def wsX8_order_r2 : List Cond := [Cond.constant RX8 261 (40503), Cond.fieldLink RX8 77 "LacePillowModel" "waysMet" "[J", Cond.methodLink RX8 254 yX8_bits, Cond.static yX8_bits, Cond.code yX8_bits cX8_bits 5 (some .int)]
def wsX8_order : List Cond := .code yX8_order cX8_order 12 (some .int) :: ((wsX8_order_r1 ++ wsX8_order_r2) ++ wsX80)
def wsX8_rankOf_r1 : List Cond := [Cond.fieldLink RX8 83 "LacePillowModel" "size" "[I", Cond.fieldLink RX8 120 "LacePillowModel" "many" "I", Cond.constantLong RX8 139 (-1), Cond.fieldLink RX8 86 "LacePillowModel" "items" "[J", Cond.fieldLink RX8 34 "LacePillowModel" "ahead" "[J", Cond.methodLink RX8 269 yX8_forgets, Cond.instanceMethod yX8_forgets, Cond.selects RX8 yX8_forgets yX8_forgets, Cond.initialized RX8, Cond.code yX8_forgets cX8_forgets 2 none, Cond.fieldLink RX8 74 "LacePillowModel" "setMet" "[I", Cond.methodLink RX8 250 yX8_isStitch, Cond.instanceMethod yX8_isStitch, Cond.selects RX8 yX8_isStitch yX8_isStitch, Cond.code yX8_isStitch cX8_isStitch 3 (some .boolean), Cond.methodLink RX8 145 yX8_in, Cond.static yX8_in, Cond.code yX8_in cX8_in 6 (some .boolean), Cond.methodLink RX8 262 yX8_ways, Cond.instanceMethod yX8_ways, Cond.selects RX8 yX8_ways yX8_ways, Cond.code yX8_ways cX8_ways 6 (some .long), Cond.constant RX8 261 (40503), Cond.fieldLink RX8 77 "LacePillowModel" "waysMet" "[J"]
def wsX8_rankOf_r2 : List Cond := [Cond.methodLink RX8 254 yX8_bits, Cond.static yX8_bits, Cond.code yX8_bits cX8_bits 5 (some .int)]
def wsX8_rankOf : List Cond := .code yX8_rankOf cX8_rankOf 9 (some .long) :: ((wsX8_rankOf_r1 ++ wsX8_rankOf_r2) ++ wsX80)
def wsX8_isSheet : List Cond := .code yX8_isSheet cX8_isSheet 1 (some .boolean) :: ([.constantLong RX8 314 (3), .methodLink RX8 145 yX8_in, .static yX8_in, .initialized RX8, .code yX8_in cX8_in 6 (some .boolean)])
def wsX8_rank_r1 : List Cond := [Cond.constant RX8 149 (-1000000001), Cond.fieldLink RX8 120 "LacePillowModel" "many" "I", Cond.constant RX8 171 (-1000000004), Cond.fieldLink RX8 80 "LacePillowModel" "sort" "[I", Cond.constant RX8 275 (-1000000007), Cond.constant RX8 165 (-1000000003), Cond.methodLink RX8 272 yX8_isSheet, Cond.static yX8_isSheet, Cond.initialized RX8, Cond.code yX8_isSheet cX8_isSheet 1 (some .boolean), Cond.constantLong RX8 314 (3), Cond.methodLink RX8 145 yX8_in, Cond.static yX8_in, Cond.code yX8_in cX8_in 6 (some .boolean), Cond.methodLink RX8 266 yX8_errsLong, Cond.instanceMethod yX8_errsLong, Cond.selects RX8 yX8_errsLong yX8_errsLong, Cond.code yX8_errsLong cX8_errsLong 2 (some .long), Cond.fieldLink RX8 19 "LacePillowModel" "met" "[I", Cond.constant RX8 117 (-1000000000), Cond.constantLong RX8 118 (-9000000000000000000), Cond.methodLink RX8 276 yX8_rankOf, Cond.instanceMethod yX8_rankOf, Cond.selects RX8 yX8_rankOf yX8_rankOf]
def wsX8_rank_r2 : List Cond := [Cond.code yX8_rankOf cX8_rankOf 9 (some .long), Cond.fieldLink RX8 83 "LacePillowModel" "size" "[I", Cond.constantLong RX8 139 (-1), Cond.fieldLink RX8 86 "LacePillowModel" "items" "[J", Cond.fieldLink RX8 34 "LacePillowModel" "ahead" "[J", Cond.methodLink RX8 269 yX8_forgets, Cond.instanceMethod yX8_forgets, Cond.selects RX8 yX8_forgets yX8_forgets, Cond.code yX8_forgets cX8_forgets 2 none, Cond.fieldLink RX8 74 "LacePillowModel" "setMet" "[I", Cond.methodLink RX8 250 yX8_isStitch, Cond.instanceMethod yX8_isStitch, Cond.selects RX8 yX8_isStitch yX8_isStitch, Cond.code yX8_isStitch cX8_isStitch 3 (some .boolean), Cond.methodLink RX8 262 yX8_ways, Cond.instanceMethod yX8_ways, Cond.selects RX8 yX8_ways yX8_ways, Cond.code yX8_ways cX8_ways 6 (some .long), Cond.constant RX8 261 (40503), Cond.fieldLink RX8 77 "LacePillowModel" "waysMet" "[J", Cond.methodLink RX8 254 yX8_bits, Cond.static yX8_bits, Cond.code yX8_bits cX8_bits 5 (some .int)]
def wsX8_rank : List Cond := .code yX8_rank cX8_rank 4 (some .long) :: ((wsX8_rank_r1 ++ wsX8_rank_r2) ++ wsX80)
def wsX8_wrong_r1 : List Cond := [Cond.constant RX8 149 (-1000000001), Cond.constant RX8 165 (-1000000003), Cond.fieldLink RX8 44 "LacePillowModel" "used" "[I", Cond.fieldLink RX8 9 "LacePillowModel" "now" "[I", Cond.constant RX8 282 (-1000000006), Cond.methodLink RX8 250 yX8_isStitch, Cond.instanceMethod yX8_isStitch, Cond.selects RX8 yX8_isStitch yX8_isStitch, Cond.initialized RX8, Cond.code yX8_isStitch cX8_isStitch 3 (some .boolean), Cond.fieldLink RX8 120 "LacePillowModel" "many" "I", Cond.methodLink RX8 145 yX8_in, Cond.static yX8_in, Cond.code yX8_in cX8_in 6 (some .boolean), Cond.methodLink RX8 231 yX8_isFree, Cond.instanceMethod yX8_isFree, Cond.selects RX8 yX8_isFree yX8_isFree, Cond.code yX8_isFree cX8_isFree 4 (some .boolean), Cond.fieldLink RX8 34 "LacePillowModel" "ahead" "[J", Cond.constantLong RX8 139 (-1), Cond.methodLink RX8 135 yX8_workedSet, Cond.instanceMethod yX8_workedSet, Cond.selects RX8 yX8_workedSet yX8_workedSet, Cond.code yX8_workedSet cX8_workedSet 4 (some .long)]
def wsX8_wrong_r2 : List Cond := [Cond.methodLink RX8 203 yX8_theWork, Cond.instanceMethod yX8_theWork, Cond.selects RX8 yX8_theWork yX8_theWork, Cond.code yX8_theWork cX8_theWork 2 none, Cond.methodLink RX8 196 yX8_begins, Cond.instanceMethod yX8_begins, Cond.selects RX8 yX8_begins yX8_begins, Cond.code yX8_begins cX8_begins 2 none, Cond.fieldLink RX8 186 "LacePillowModel" "crossings" "I", Cond.fieldLink RX8 41 "LacePillowModel" "at" "[I", Cond.methodLink RX8 199 yX8_works, Cond.instanceMethod yX8_works, Cond.selects RX8 yX8_works yX8_works, Cond.code yX8_works cX8_works 4 none, Cond.fieldLink RX8 25 "LacePillowModel" "gap" "[I", Cond.fieldLink RX8 28 "LacePillowModel" "kind" "[I", Cond.methodLink RX8 193 yX8_spells, Cond.instanceMethod yX8_spells, Cond.selects RX8 yX8_spells yX8_spells, Cond.code yX8_spells cX8_spells 6 none, Cond.methodLink RX8 183 yX8_letterOf, Cond.instanceMethod yX8_letterOf, Cond.selects RX8 yX8_letterOf yX8_letterOf, Cond.code yX8_letterOf cX8_letterOf 3 (some .int)]
def wsX8_wrong_r3 : List Cond := [Cond.methodLink RX8 189 yX8_cross, Cond.instanceMethod yX8_cross, Cond.selects RX8 yX8_cross yX8_cross, Cond.code yX8_cross cX8_cross 6 none, Cond.fieldLink RX8 47 "LacePillowModel" "place" "[I", Cond.fieldLink RX8 50 "LacePillowModel" "sign" "[I", Cond.fieldLink RX8 53 "LacePillowModel" "over" "[I", Cond.fieldLink RX8 56 "LacePillowModel" "under" "[I", Cond.fieldLink RX8 59 "LacePillowModel" "by" "[I", Cond.methodLink RX8 279 yX8_threads, Cond.instanceMethod yX8_threads, Cond.selects RX8 yX8_threads yX8_threads, Cond.code yX8_threads cX8_threads 1 (some .int)]
def wsX8_wrong : List Cond := .code yX8_wrong cX8_wrong 4 (some .int) :: ((wsX8_wrong_r1 ++ (wsX8_wrong_r2 ++ wsX8_wrong_r3)) ++ wsX80)
def wsX8_doWork : List Cond := .code yX8_doWork cX8_doWork 4 (some .int) :: ([.fieldLink RX8 9 "LacePillowModel" "now" "[I", .fieldLink RX8 186 "LacePillowModel" "crossings" "I", .fieldLink RX8 59 "LacePillowModel" "by" "[I"] ++ wsX80)
def wsX8_work_r1 : List Cond := [Cond.methodLink RX8 283 yX8_wrong, Cond.instanceMethod yX8_wrong, Cond.selects RX8 yX8_wrong yX8_wrong, Cond.initialized RX8, Cond.code yX8_wrong cX8_wrong 4 (some .int), Cond.constant RX8 149 (-1000000001), Cond.constant RX8 165 (-1000000003), Cond.fieldLink RX8 44 "LacePillowModel" "used" "[I", Cond.fieldLink RX8 9 "LacePillowModel" "now" "[I", Cond.constant RX8 282 (-1000000006), Cond.methodLink RX8 250 yX8_isStitch, Cond.instanceMethod yX8_isStitch, Cond.selects RX8 yX8_isStitch yX8_isStitch, Cond.code yX8_isStitch cX8_isStitch 3 (some .boolean), Cond.fieldLink RX8 120 "LacePillowModel" "many" "I", Cond.methodLink RX8 145 yX8_in, Cond.static yX8_in, Cond.code yX8_in cX8_in 6 (some .boolean), Cond.methodLink RX8 231 yX8_isFree, Cond.instanceMethod yX8_isFree, Cond.selects RX8 yX8_isFree yX8_isFree, Cond.code yX8_isFree cX8_isFree 4 (some .boolean), Cond.fieldLink RX8 34 "LacePillowModel" "ahead" "[J", Cond.constantLong RX8 139 (-1)]
def wsX8_work_r2 : List Cond := [Cond.methodLink RX8 135 yX8_workedSet, Cond.instanceMethod yX8_workedSet, Cond.selects RX8 yX8_workedSet yX8_workedSet, Cond.code yX8_workedSet cX8_workedSet 4 (some .long), Cond.methodLink RX8 203 yX8_theWork, Cond.instanceMethod yX8_theWork, Cond.selects RX8 yX8_theWork yX8_theWork, Cond.code yX8_theWork cX8_theWork 2 none, Cond.methodLink RX8 196 yX8_begins, Cond.instanceMethod yX8_begins, Cond.selects RX8 yX8_begins yX8_begins, Cond.code yX8_begins cX8_begins 2 none, Cond.fieldLink RX8 186 "LacePillowModel" "crossings" "I", Cond.fieldLink RX8 41 "LacePillowModel" "at" "[I", Cond.methodLink RX8 199 yX8_works, Cond.instanceMethod yX8_works, Cond.selects RX8 yX8_works yX8_works, Cond.code yX8_works cX8_works 4 none, Cond.fieldLink RX8 25 "LacePillowModel" "gap" "[I", Cond.fieldLink RX8 28 "LacePillowModel" "kind" "[I", Cond.methodLink RX8 193 yX8_spells, Cond.instanceMethod yX8_spells, Cond.selects RX8 yX8_spells yX8_spells, Cond.code yX8_spells cX8_spells 6 none]
def wsX8_work_r3 : List Cond := [Cond.methodLink RX8 183 yX8_letterOf, Cond.instanceMethod yX8_letterOf, Cond.selects RX8 yX8_letterOf yX8_letterOf, Cond.code yX8_letterOf cX8_letterOf 3 (some .int), Cond.methodLink RX8 189 yX8_cross, Cond.instanceMethod yX8_cross, Cond.selects RX8 yX8_cross yX8_cross, Cond.code yX8_cross cX8_cross 6 none, Cond.fieldLink RX8 47 "LacePillowModel" "place" "[I", Cond.fieldLink RX8 50 "LacePillowModel" "sign" "[I", Cond.fieldLink RX8 53 "LacePillowModel" "over" "[I", Cond.fieldLink RX8 56 "LacePillowModel" "under" "[I", Cond.fieldLink RX8 59 "LacePillowModel" "by" "[I", Cond.methodLink RX8 279 yX8_threads, Cond.instanceMethod yX8_threads, Cond.selects RX8 yX8_threads yX8_threads, Cond.code yX8_threads cX8_threads 1 (some .int), Cond.methodLink RX8 150 yX8_errs, Cond.instanceMethod yX8_errs, Cond.selects RX8 yX8_errs yX8_errs, Cond.code yX8_errs cX8_errs 2 (some .int), Cond.fieldLink RX8 19 "LacePillowModel" "met" "[I", Cond.constant RX8 117 (-1000000000), Cond.methodLink RX8 286 yX8_doWork]
def wsX8_work_r4 : List Cond := [Cond.instanceMethod yX8_doWork, Cond.selects RX8 yX8_doWork yX8_doWork, Cond.code yX8_doWork cX8_doWork 4 (some .int)]
def wsX8_work : List Cond := .code yX8_work cX8_work 3 (some .int) :: ((wsX8_work_r1 ++ (wsX8_work_r2 ++ (wsX8_work_r3 ++ wsX8_work_r4))) ++ wsX80)
def wsX8_works__r1 : List Cond := [Cond.constant RX8 149 (-1000000001), Cond.fieldLink RX8 80 "LacePillowModel" "sort" "[I", Cond.constant RX8 275 (-1000000007), Cond.fieldLink RX8 83 "LacePillowModel" "size" "[I", Cond.fieldLink RX8 86 "LacePillowModel" "items" "[J", Cond.methodLink RX8 272 yX8_isSheet, Cond.static yX8_isSheet, Cond.initialized RX8, Cond.code yX8_isSheet cX8_isSheet 1 (some .boolean), Cond.constantLong RX8 314 (3), Cond.methodLink RX8 145 yX8_in, Cond.static yX8_in, Cond.code yX8_in cX8_in 6 (some .boolean), Cond.methodLink RX8 150 yX8_errs, Cond.instanceMethod yX8_errs, Cond.selects RX8 yX8_errs yX8_errs, Cond.code yX8_errs cX8_errs 2 (some .int), Cond.fieldLink RX8 19 "LacePillowModel" "met" "[I", Cond.constant RX8 117 (-1000000000), Cond.methodLink RX8 283 yX8_wrong, Cond.instanceMethod yX8_wrong, Cond.selects RX8 yX8_wrong yX8_wrong, Cond.code yX8_wrong cX8_wrong 4 (some .int), Cond.constant RX8 165 (-1000000003)]
def wsX8_works__r2 : List Cond := [Cond.fieldLink RX8 44 "LacePillowModel" "used" "[I", Cond.fieldLink RX8 9 "LacePillowModel" "now" "[I", Cond.constant RX8 282 (-1000000006), Cond.methodLink RX8 250 yX8_isStitch, Cond.instanceMethod yX8_isStitch, Cond.selects RX8 yX8_isStitch yX8_isStitch, Cond.code yX8_isStitch cX8_isStitch 3 (some .boolean), Cond.fieldLink RX8 120 "LacePillowModel" "many" "I", Cond.methodLink RX8 231 yX8_isFree, Cond.instanceMethod yX8_isFree, Cond.selects RX8 yX8_isFree yX8_isFree, Cond.code yX8_isFree cX8_isFree 4 (some .boolean), Cond.fieldLink RX8 34 "LacePillowModel" "ahead" "[J", Cond.constantLong RX8 139 (-1), Cond.methodLink RX8 135 yX8_workedSet, Cond.instanceMethod yX8_workedSet, Cond.selects RX8 yX8_workedSet yX8_workedSet, Cond.code yX8_workedSet cX8_workedSet 4 (some .long), Cond.methodLink RX8 203 yX8_theWork, Cond.instanceMethod yX8_theWork, Cond.selects RX8 yX8_theWork yX8_theWork, Cond.code yX8_theWork cX8_theWork 2 none, Cond.methodLink RX8 196 yX8_begins, Cond.instanceMethod yX8_begins]
def wsX8_works__r3 : List Cond := [Cond.selects RX8 yX8_begins yX8_begins, Cond.code yX8_begins cX8_begins 2 none, Cond.fieldLink RX8 186 "LacePillowModel" "crossings" "I", Cond.fieldLink RX8 41 "LacePillowModel" "at" "[I", Cond.methodLink RX8 199 yX8_works, Cond.instanceMethod yX8_works, Cond.selects RX8 yX8_works yX8_works, Cond.code yX8_works cX8_works 4 none, Cond.fieldLink RX8 25 "LacePillowModel" "gap" "[I", Cond.fieldLink RX8 28 "LacePillowModel" "kind" "[I", Cond.methodLink RX8 193 yX8_spells, Cond.instanceMethod yX8_spells, Cond.selects RX8 yX8_spells yX8_spells, Cond.code yX8_spells cX8_spells 6 none, Cond.methodLink RX8 183 yX8_letterOf, Cond.instanceMethod yX8_letterOf, Cond.selects RX8 yX8_letterOf yX8_letterOf, Cond.code yX8_letterOf cX8_letterOf 3 (some .int), Cond.methodLink RX8 189 yX8_cross, Cond.instanceMethod yX8_cross, Cond.selects RX8 yX8_cross yX8_cross, Cond.code yX8_cross cX8_cross 6 none, Cond.fieldLink RX8 47 "LacePillowModel" "place" "[I", Cond.fieldLink RX8 50 "LacePillowModel" "sign" "[I"]
def wsX8_works__r4 : List Cond := [Cond.fieldLink RX8 53 "LacePillowModel" "over" "[I", Cond.fieldLink RX8 56 "LacePillowModel" "under" "[I", Cond.fieldLink RX8 59 "LacePillowModel" "by" "[I", Cond.methodLink RX8 279 yX8_threads, Cond.instanceMethod yX8_threads, Cond.selects RX8 yX8_threads yX8_threads, Cond.code yX8_threads cX8_threads 1 (some .int), Cond.methodLink RX8 286 yX8_doWork, Cond.instanceMethod yX8_doWork, Cond.selects RX8 yX8_doWork yX8_doWork, Cond.code yX8_doWork cX8_doWork 4 (some .int)]
def wsX8_works_ : List Cond := .code yX8_works_ cX8_works_ 4 (some .int) :: ((wsX8_works__r1 ++ (wsX8_works__r2 ++ (wsX8_works__r3 ++ wsX8_works__r4))) ++ wsX80)
def wsX8_back : List Cond := .code yX8_back cX8_back 1 (some .int) :: ([.fieldLink RX8 9 "LacePillowModel" "now" "[I", .constant RX8 249 (-1000000002), .methodLink RX8 150 yX8_errs, .instanceMethod yX8_errs, .selects RX8 yX8_errs yX8_errs, .initialized RX8, .code yX8_errs cX8_errs 2 (some .int), .fieldLink RX8 19 "LacePillowModel" "met" "[I", .constant RX8 117 (-1000000000)] ++ wsX80)
def wsX8_worked : List Cond := .code yX8_worked cX8_worked 2 (some .int) :: ([.fieldLink RX8 9 "LacePillowModel" "now" "[I", .constant RX8 149 (-1000000001), .methodLink RX8 145 yX8_in, .static yX8_in, .initialized RX8, .code yX8_in cX8_in 6 (some .boolean), .methodLink RX8 150 yX8_errs, .instanceMethod yX8_errs, .selects RX8 yX8_errs yX8_errs, .code yX8_errs cX8_errs 2 (some .int), .fieldLink RX8 19 "LacePillowModel" "met" "[I", .constant RX8 117 (-1000000000)] ++ wsX80)
def wsX8_at_r1 : List Cond := [Cond.constant RX8 149 (-1000000001), Cond.fieldLink RX8 41 "LacePillowModel" "at" "[I", Cond.methodLink RX8 279 yX8_threads, Cond.instanceMethod yX8_threads, Cond.selects RX8 yX8_threads yX8_threads, Cond.initialized RX8, Cond.code yX8_threads cX8_threads 1 (some .int), Cond.fieldLink RX8 9 "LacePillowModel" "now" "[I", Cond.methodLink RX8 145 yX8_in, Cond.static yX8_in, Cond.code yX8_in cX8_in 6 (some .boolean), Cond.methodLink RX8 150 yX8_errs, Cond.instanceMethod yX8_errs, Cond.selects RX8 yX8_errs yX8_errs, Cond.code yX8_errs cX8_errs 2 (some .int), Cond.fieldLink RX8 19 "LacePillowModel" "met" "[I", Cond.constant RX8 117 (-1000000000), Cond.methodLink RX8 203 yX8_theWork, Cond.instanceMethod yX8_theWork, Cond.selects RX8 yX8_theWork yX8_theWork, Cond.code yX8_theWork cX8_theWork 2 none, Cond.methodLink RX8 196 yX8_begins, Cond.instanceMethod yX8_begins, Cond.selects RX8 yX8_begins yX8_begins]
def wsX8_at_r2 : List Cond := [Cond.code yX8_begins cX8_begins 2 none, Cond.fieldLink RX8 186 "LacePillowModel" "crossings" "I", Cond.fieldLink RX8 44 "LacePillowModel" "used" "[I", Cond.methodLink RX8 199 yX8_works, Cond.instanceMethod yX8_works, Cond.selects RX8 yX8_works yX8_works, Cond.code yX8_works cX8_works 4 none, Cond.fieldLink RX8 25 "LacePillowModel" "gap" "[I", Cond.fieldLink RX8 28 "LacePillowModel" "kind" "[I", Cond.methodLink RX8 193 yX8_spells, Cond.instanceMethod yX8_spells, Cond.selects RX8 yX8_spells yX8_spells, Cond.code yX8_spells cX8_spells 6 none, Cond.methodLink RX8 183 yX8_letterOf, Cond.instanceMethod yX8_letterOf, Cond.selects RX8 yX8_letterOf yX8_letterOf, Cond.code yX8_letterOf cX8_letterOf 3 (some .int), Cond.methodLink RX8 189 yX8_cross, Cond.instanceMethod yX8_cross, Cond.selects RX8 yX8_cross yX8_cross, Cond.code yX8_cross cX8_cross 6 none, Cond.fieldLink RX8 47 "LacePillowModel" "place" "[I", Cond.fieldLink RX8 50 "LacePillowModel" "sign" "[I", Cond.fieldLink RX8 53 "LacePillowModel" "over" "[I"]
def wsX8_at_r3 : List Cond := [Cond.fieldLink RX8 56 "LacePillowModel" "under" "[I", Cond.fieldLink RX8 59 "LacePillowModel" "by" "[I"]
def wsX8_at : List Cond := .code yX8_at cX8_at 2 (some .int) :: ((wsX8_at_r1 ++ (wsX8_at_r2 ++ wsX8_at_r3)) ++ wsX80)
def wsX8_isThread : List Cond := .code yX8_isThread cX8_isThread 2 (some .boolean) :: ([.methodLink RX8 279 yX8_threads, .instanceMethod yX8_threads, .selects RX8 yX8_threads yX8_threads, .initialized RX8, .code yX8_threads cX8_threads 1 (some .int), .fieldLink RX8 9 "LacePillowModel" "now" "[I", .methodLink RX8 145 yX8_in, .static yX8_in, .code yX8_in cX8_in 6 (some .boolean)] ++ wsX80)
def wsX8_wind_r1 : List Cond := [Cond.constantLong RX8 292 (9999), Cond.constant RX8 149 (-1000000001), Cond.fieldLink RX8 44 "LacePillowModel" "used" "[I", Cond.constant RX8 165 (-1000000003), Cond.fieldLink RX8 9 "LacePillowModel" "now" "[I", Cond.methodLink RX8 289 yX8_isThread, Cond.instanceMethod yX8_isThread, Cond.selects RX8 yX8_isThread yX8_isThread, Cond.initialized RX8, Cond.code yX8_isThread cX8_isThread 2 (some .boolean), Cond.methodLink RX8 279 yX8_threads, Cond.instanceMethod yX8_threads, Cond.selects RX8 yX8_threads yX8_threads, Cond.code yX8_threads cX8_threads 1 (some .int), Cond.methodLink RX8 145 yX8_in, Cond.static yX8_in, Cond.code yX8_in cX8_in 6 (some .boolean), Cond.methodLink RX8 150 yX8_errs, Cond.instanceMethod yX8_errs, Cond.selects RX8 yX8_errs yX8_errs, Cond.code yX8_errs cX8_errs 2 (some .int), Cond.fieldLink RX8 19 "LacePillowModel" "met" "[I", Cond.constant RX8 117 (-1000000000), Cond.methodLink RX8 203 yX8_theWork]
def wsX8_wind_r2 : List Cond := [Cond.instanceMethod yX8_theWork, Cond.selects RX8 yX8_theWork yX8_theWork, Cond.code yX8_theWork cX8_theWork 2 none, Cond.methodLink RX8 196 yX8_begins, Cond.instanceMethod yX8_begins, Cond.selects RX8 yX8_begins yX8_begins, Cond.code yX8_begins cX8_begins 2 none, Cond.fieldLink RX8 186 "LacePillowModel" "crossings" "I", Cond.fieldLink RX8 41 "LacePillowModel" "at" "[I", Cond.methodLink RX8 199 yX8_works, Cond.instanceMethod yX8_works, Cond.selects RX8 yX8_works yX8_works, Cond.code yX8_works cX8_works 4 none, Cond.fieldLink RX8 25 "LacePillowModel" "gap" "[I", Cond.fieldLink RX8 28 "LacePillowModel" "kind" "[I", Cond.methodLink RX8 193 yX8_spells, Cond.instanceMethod yX8_spells, Cond.selects RX8 yX8_spells yX8_spells, Cond.code yX8_spells cX8_spells 6 none, Cond.methodLink RX8 183 yX8_letterOf, Cond.instanceMethod yX8_letterOf, Cond.selects RX8 yX8_letterOf yX8_letterOf, Cond.code yX8_letterOf cX8_letterOf 3 (some .int), Cond.methodLink RX8 189 yX8_cross]
def wsX8_wind_r3 : List Cond := [Cond.instanceMethod yX8_cross, Cond.selects RX8 yX8_cross yX8_cross, Cond.code yX8_cross cX8_cross 6 none, Cond.fieldLink RX8 47 "LacePillowModel" "place" "[I", Cond.fieldLink RX8 50 "LacePillowModel" "sign" "[I", Cond.fieldLink RX8 53 "LacePillowModel" "over" "[I", Cond.fieldLink RX8 56 "LacePillowModel" "under" "[I", Cond.fieldLink RX8 59 "LacePillowModel" "by" "[I"]
def wsX8_wind : List Cond := .code yX8_wind cX8_wind 4 (some .int) :: ((wsX8_wind_r1 ++ (wsX8_wind_r2 ++ wsX8_wind_r3)) ++ wsX80)
def wsX8_placeOf : List Cond := .code yX8_placeOf cX8_placeOf 3 (some .int) :: ([.fieldLink RX8 41 "LacePillowModel" "at" "[I"] ++ wsX80)
def wsX8_roundsOf : List Cond := .code yX8_roundsOf cX8_roundsOf 4 (some .int) :: ([.methodLink RX8 294 yX8_placeOf, .instanceMethod yX8_placeOf, .selects RX8 yX8_placeOf yX8_placeOf, .initialized RX8, .code yX8_placeOf cX8_placeOf 3 (some .int), .fieldLink RX8 41 "LacePillowModel" "at" "[I"] ++ wsX80)
def wsX8_overs : List Cond := .code yX8_overs cX8_overs 5 (some .int) :: ([.fieldLink RX8 186 "LacePillowModel" "crossings" "I", .fieldLink RX8 53 "LacePillowModel" "over" "[I", .fieldLink RX8 56 "LacePillowModel" "under" "[I"] ++ wsX80)
def wsX8_falseOf : List Cond := .code yX8_falseOf cX8_falseOf 6 (some .int) :: ([.fieldLink RX8 186 "LacePillowModel" "crossings" "I", .fieldLink RX8 53 "LacePillowModel" "over" "[I", .fieldLink RX8 56 "LacePillowModel" "under" "[I"] ++ wsX80)
def wsX8_thread_r1 : List Cond := [Cond.constantLong RX8 219 (7), Cond.constant RX8 149 (-1000000001), Cond.fieldLink RX8 9 "LacePillowModel" "now" "[I", Cond.fieldLink RX8 44 "LacePillowModel" "used" "[I", Cond.methodLink RX8 289 yX8_isThread, Cond.instanceMethod yX8_isThread, Cond.selects RX8 yX8_isThread yX8_isThread, Cond.initialized RX8, Cond.code yX8_isThread cX8_isThread 2 (some .boolean), Cond.methodLink RX8 279 yX8_threads, Cond.instanceMethod yX8_threads, Cond.selects RX8 yX8_threads yX8_threads, Cond.code yX8_threads cX8_threads 1 (some .int), Cond.methodLink RX8 145 yX8_in, Cond.static yX8_in, Cond.code yX8_in cX8_in 6 (some .boolean), Cond.methodLink RX8 150 yX8_errs, Cond.instanceMethod yX8_errs, Cond.selects RX8 yX8_errs yX8_errs, Cond.code yX8_errs cX8_errs 2 (some .int), Cond.fieldLink RX8 19 "LacePillowModel" "met" "[I", Cond.constant RX8 117 (-1000000000), Cond.methodLink RX8 297 yX8_whole, Cond.instanceMethod yX8_whole]
def wsX8_thread_r2 : List Cond := [Cond.selects RX8 yX8_whole yX8_whole, Cond.code yX8_whole cX8_whole 2 none, Cond.fieldLink RX8 120 "LacePillowModel" "many" "I", Cond.methodLink RX8 203 yX8_theWork, Cond.instanceMethod yX8_theWork, Cond.selects RX8 yX8_theWork yX8_theWork, Cond.code yX8_theWork cX8_theWork 2 none, Cond.methodLink RX8 196 yX8_begins, Cond.instanceMethod yX8_begins, Cond.selects RX8 yX8_begins yX8_begins, Cond.code yX8_begins cX8_begins 2 none, Cond.fieldLink RX8 186 "LacePillowModel" "crossings" "I", Cond.fieldLink RX8 41 "LacePillowModel" "at" "[I", Cond.methodLink RX8 199 yX8_works, Cond.instanceMethod yX8_works, Cond.selects RX8 yX8_works yX8_works, Cond.code yX8_works cX8_works 4 none, Cond.fieldLink RX8 25 "LacePillowModel" "gap" "[I", Cond.fieldLink RX8 28 "LacePillowModel" "kind" "[I", Cond.methodLink RX8 193 yX8_spells, Cond.instanceMethod yX8_spells, Cond.selects RX8 yX8_spells yX8_spells, Cond.code yX8_spells cX8_spells 6 none, Cond.methodLink RX8 183 yX8_letterOf]
def wsX8_thread_r3 : List Cond := [Cond.instanceMethod yX8_letterOf, Cond.selects RX8 yX8_letterOf yX8_letterOf, Cond.code yX8_letterOf cX8_letterOf 3 (some .int), Cond.methodLink RX8 189 yX8_cross, Cond.instanceMethod yX8_cross, Cond.selects RX8 yX8_cross yX8_cross, Cond.code yX8_cross cX8_cross 6 none, Cond.fieldLink RX8 47 "LacePillowModel" "place" "[I", Cond.fieldLink RX8 50 "LacePillowModel" "sign" "[I", Cond.fieldLink RX8 53 "LacePillowModel" "over" "[I", Cond.fieldLink RX8 56 "LacePillowModel" "under" "[I", Cond.fieldLink RX8 59 "LacePillowModel" "by" "[I", Cond.methodLink RX8 206 yX8_first, Cond.instanceMethod yX8_first, Cond.selects RX8 yX8_first yX8_first, Cond.code yX8_first cX8_first 3 none, Cond.methodLink RX8 294 yX8_placeOf, Cond.instanceMethod yX8_placeOf, Cond.selects RX8 yX8_placeOf yX8_placeOf, Cond.code yX8_placeOf cX8_placeOf 3 (some .int), Cond.methodLink RX8 300 yX8_roundsOf, Cond.instanceMethod yX8_roundsOf, Cond.selects RX8 yX8_roundsOf yX8_roundsOf, Cond.code yX8_roundsOf cX8_roundsOf 4 (some .int)]
def wsX8_thread_r4 : List Cond := [Cond.methodLink RX8 303 yX8_overs, Cond.instanceMethod yX8_overs, Cond.selects RX8 yX8_overs yX8_overs, Cond.code yX8_overs cX8_overs 5 (some .int), Cond.methodLink RX8 307 yX8_falseOf, Cond.instanceMethod yX8_falseOf, Cond.selects RX8 yX8_falseOf yX8_falseOf, Cond.code yX8_falseOf cX8_falseOf 6 (some .int)]
def wsX8_thread : List Cond := .code yX8_thread cX8_thread 3 (some .int) :: ((wsX8_thread_r1 ++ (wsX8_thread_r2 ++ (wsX8_thread_r3 ++ wsX8_thread_r4))) ++ wsX80)
def wsX8_place_r1 : List Cond := [Cond.fieldLink RX8 120 "LacePillowModel" "many" "I", Cond.constant RX8 149 (-1000000001), Cond.methodLink RX8 289 yX8_isThread, Cond.instanceMethod yX8_isThread, Cond.selects RX8 yX8_isThread yX8_isThread, Cond.initialized RX8, Cond.code yX8_isThread cX8_isThread 2 (some .boolean), Cond.methodLink RX8 279 yX8_threads, Cond.instanceMethod yX8_threads, Cond.selects RX8 yX8_threads yX8_threads, Cond.code yX8_threads cX8_threads 1 (some .int), Cond.fieldLink RX8 9 "LacePillowModel" "now" "[I", Cond.methodLink RX8 145 yX8_in, Cond.static yX8_in, Cond.code yX8_in cX8_in 6 (some .boolean), Cond.methodLink RX8 150 yX8_errs, Cond.instanceMethod yX8_errs, Cond.selects RX8 yX8_errs yX8_errs, Cond.code yX8_errs cX8_errs 2 (some .int), Cond.fieldLink RX8 19 "LacePillowModel" "met" "[I", Cond.constant RX8 117 (-1000000000), Cond.methodLink RX8 206 yX8_first, Cond.instanceMethod yX8_first, Cond.selects RX8 yX8_first yX8_first]
def wsX8_place_r2 : List Cond := [Cond.code yX8_first cX8_first 3 none, Cond.methodLink RX8 196 yX8_begins, Cond.instanceMethod yX8_begins, Cond.selects RX8 yX8_begins yX8_begins, Cond.code yX8_begins cX8_begins 2 none, Cond.fieldLink RX8 186 "LacePillowModel" "crossings" "I", Cond.fieldLink RX8 41 "LacePillowModel" "at" "[I", Cond.fieldLink RX8 44 "LacePillowModel" "used" "[I", Cond.methodLink RX8 199 yX8_works, Cond.instanceMethod yX8_works, Cond.selects RX8 yX8_works yX8_works, Cond.code yX8_works cX8_works 4 none, Cond.fieldLink RX8 25 "LacePillowModel" "gap" "[I", Cond.fieldLink RX8 28 "LacePillowModel" "kind" "[I", Cond.methodLink RX8 193 yX8_spells, Cond.instanceMethod yX8_spells, Cond.selects RX8 yX8_spells yX8_spells, Cond.code yX8_spells cX8_spells 6 none, Cond.methodLink RX8 183 yX8_letterOf, Cond.instanceMethod yX8_letterOf, Cond.selects RX8 yX8_letterOf yX8_letterOf, Cond.code yX8_letterOf cX8_letterOf 3 (some .int), Cond.methodLink RX8 189 yX8_cross, Cond.instanceMethod yX8_cross]
def wsX8_place_r3 : List Cond := [Cond.selects RX8 yX8_cross yX8_cross, Cond.code yX8_cross cX8_cross 6 none, Cond.fieldLink RX8 47 "LacePillowModel" "place" "[I", Cond.fieldLink RX8 50 "LacePillowModel" "sign" "[I", Cond.fieldLink RX8 53 "LacePillowModel" "over" "[I", Cond.fieldLink RX8 56 "LacePillowModel" "under" "[I", Cond.fieldLink RX8 59 "LacePillowModel" "by" "[I", Cond.methodLink RX8 294 yX8_placeOf, Cond.instanceMethod yX8_placeOf, Cond.selects RX8 yX8_placeOf yX8_placeOf, Cond.code yX8_placeOf cX8_placeOf 3 (some .int)]
def wsX8_place : List Cond := .code yX8_place cX8_place 3 (some .int) :: ((wsX8_place_r1 ++ (wsX8_place_r2 ++ wsX8_place_r3)) ++ wsX80)
def wsX8_divisor : List Cond := .code yX8_divisor cX8_divisor 10 (some .long) :: ([])
def wsX8_rounds_r1 : List Cond := [Cond.fieldLink RX8 120 "LacePillowModel" "many" "I", Cond.methodLink RX8 206 yX8_first, Cond.instanceMethod yX8_first, Cond.selects RX8 yX8_first yX8_first, Cond.initialized RX8, Cond.code yX8_first cX8_first 3 none, Cond.methodLink RX8 196 yX8_begins, Cond.instanceMethod yX8_begins, Cond.selects RX8 yX8_begins yX8_begins, Cond.code yX8_begins cX8_begins 2 none, Cond.fieldLink RX8 186 "LacePillowModel" "crossings" "I", Cond.fieldLink RX8 41 "LacePillowModel" "at" "[I", Cond.fieldLink RX8 44 "LacePillowModel" "used" "[I", Cond.methodLink RX8 199 yX8_works, Cond.instanceMethod yX8_works, Cond.selects RX8 yX8_works yX8_works, Cond.code yX8_works cX8_works 4 none, Cond.fieldLink RX8 25 "LacePillowModel" "gap" "[I", Cond.fieldLink RX8 28 "LacePillowModel" "kind" "[I", Cond.methodLink RX8 193 yX8_spells, Cond.instanceMethod yX8_spells, Cond.selects RX8 yX8_spells yX8_spells, Cond.code yX8_spells cX8_spells 6 none, Cond.fieldLink RX8 9 "LacePillowModel" "now" "[I"]
def wsX8_rounds_r2 : List Cond := [Cond.methodLink RX8 183 yX8_letterOf, Cond.instanceMethod yX8_letterOf, Cond.selects RX8 yX8_letterOf yX8_letterOf, Cond.code yX8_letterOf cX8_letterOf 3 (some .int), Cond.methodLink RX8 189 yX8_cross, Cond.instanceMethod yX8_cross, Cond.selects RX8 yX8_cross yX8_cross, Cond.code yX8_cross cX8_cross 6 none, Cond.fieldLink RX8 47 "LacePillowModel" "place" "[I", Cond.fieldLink RX8 50 "LacePillowModel" "sign" "[I", Cond.fieldLink RX8 53 "LacePillowModel" "over" "[I", Cond.fieldLink RX8 56 "LacePillowModel" "under" "[I", Cond.fieldLink RX8 59 "LacePillowModel" "by" "[I", Cond.methodLink RX8 279 yX8_threads, Cond.instanceMethod yX8_threads, Cond.selects RX8 yX8_threads yX8_threads, Cond.code yX8_threads cX8_threads 1 (some .int), Cond.methodLink RX8 300 yX8_roundsOf, Cond.instanceMethod yX8_roundsOf, Cond.selects RX8 yX8_roundsOf yX8_roundsOf, Cond.code yX8_roundsOf cX8_roundsOf 4 (some .int), Cond.methodLink RX8 294 yX8_placeOf, Cond.instanceMethod yX8_placeOf, Cond.selects RX8 yX8_placeOf yX8_placeOf]
def wsX8_rounds_r3 : List Cond := [Cond.code yX8_placeOf cX8_placeOf 3 (some .int), Cond.methodLink RX8 310 yX8_divisor, Cond.static yX8_divisor, Cond.code yX8_divisor cX8_divisor 10 (some .long)]
def wsX8_rounds : List Cond := .code yX8_rounds cX8_rounds 6 (some .long) :: ((wsX8_rounds_r1 ++ (wsX8_rounds_r2 ++ wsX8_rounds_r3)) ++ wsX80)
def wsX8_link_r1 : List Cond := [Cond.constant RX8 149 (-1000000001), Cond.fieldLink RX8 120 "LacePillowModel" "many" "I", Cond.fieldLink RX8 186 "LacePillowModel" "crossings" "I", Cond.fieldLink RX8 53 "LacePillowModel" "over" "[I", Cond.fieldLink RX8 56 "LacePillowModel" "under" "[I", Cond.methodLink RX8 289 yX8_isThread, Cond.instanceMethod yX8_isThread, Cond.selects RX8 yX8_isThread yX8_isThread, Cond.initialized RX8, Cond.code yX8_isThread cX8_isThread 2 (some .boolean), Cond.methodLink RX8 279 yX8_threads, Cond.instanceMethod yX8_threads, Cond.selects RX8 yX8_threads yX8_threads, Cond.code yX8_threads cX8_threads 1 (some .int), Cond.fieldLink RX8 9 "LacePillowModel" "now" "[I", Cond.methodLink RX8 145 yX8_in, Cond.static yX8_in, Cond.code yX8_in cX8_in 6 (some .boolean), Cond.methodLink RX8 150 yX8_errs, Cond.instanceMethod yX8_errs, Cond.selects RX8 yX8_errs yX8_errs, Cond.code yX8_errs cX8_errs 2 (some .int), Cond.fieldLink RX8 19 "LacePillowModel" "met" "[I", Cond.constant RX8 117 (-1000000000)]
def wsX8_link_r2 : List Cond := [Cond.methodLink RX8 206 yX8_first, Cond.instanceMethod yX8_first, Cond.selects RX8 yX8_first yX8_first, Cond.code yX8_first cX8_first 3 none, Cond.methodLink RX8 196 yX8_begins, Cond.instanceMethod yX8_begins, Cond.selects RX8 yX8_begins yX8_begins, Cond.code yX8_begins cX8_begins 2 none, Cond.fieldLink RX8 41 "LacePillowModel" "at" "[I", Cond.fieldLink RX8 44 "LacePillowModel" "used" "[I", Cond.methodLink RX8 199 yX8_works, Cond.instanceMethod yX8_works, Cond.selects RX8 yX8_works yX8_works, Cond.code yX8_works cX8_works 4 none, Cond.fieldLink RX8 25 "LacePillowModel" "gap" "[I", Cond.fieldLink RX8 28 "LacePillowModel" "kind" "[I", Cond.methodLink RX8 193 yX8_spells, Cond.instanceMethod yX8_spells, Cond.selects RX8 yX8_spells yX8_spells, Cond.code yX8_spells cX8_spells 6 none, Cond.methodLink RX8 183 yX8_letterOf, Cond.instanceMethod yX8_letterOf, Cond.selects RX8 yX8_letterOf yX8_letterOf, Cond.code yX8_letterOf cX8_letterOf 3 (some .int)]
def wsX8_link_r3 : List Cond := [Cond.methodLink RX8 189 yX8_cross, Cond.instanceMethod yX8_cross, Cond.selects RX8 yX8_cross yX8_cross, Cond.code yX8_cross cX8_cross 6 none, Cond.fieldLink RX8 47 "LacePillowModel" "place" "[I", Cond.fieldLink RX8 50 "LacePillowModel" "sign" "[I", Cond.fieldLink RX8 59 "LacePillowModel" "by" "[I"]
def wsX8_link : List Cond := .code yX8_link cX8_link 5 (some .int) :: ((wsX8_link_r1 ++ (wsX8_link_r2 ++ wsX8_link_r3)) ++ wsX80)
def wsX8_meet_r1 : List Cond := [Cond.constant RX8 149 (-1000000001), Cond.fieldLink RX8 120 "LacePillowModel" "many" "I", Cond.fieldLink RX8 186 "LacePillowModel" "crossings" "I", Cond.fieldLink RX8 53 "LacePillowModel" "over" "[I", Cond.fieldLink RX8 56 "LacePillowModel" "under" "[I", Cond.fieldLink RX8 59 "LacePillowModel" "by" "[I", Cond.constant RX8 249 (-1000000002), Cond.methodLink RX8 289 yX8_isThread, Cond.instanceMethod yX8_isThread, Cond.selects RX8 yX8_isThread yX8_isThread, Cond.initialized RX8, Cond.code yX8_isThread cX8_isThread 2 (some .boolean), Cond.methodLink RX8 279 yX8_threads, Cond.instanceMethod yX8_threads, Cond.selects RX8 yX8_threads yX8_threads, Cond.code yX8_threads cX8_threads 1 (some .int), Cond.fieldLink RX8 9 "LacePillowModel" "now" "[I", Cond.methodLink RX8 145 yX8_in, Cond.static yX8_in, Cond.code yX8_in cX8_in 6 (some .boolean), Cond.methodLink RX8 150 yX8_errs, Cond.instanceMethod yX8_errs, Cond.selects RX8 yX8_errs yX8_errs, Cond.code yX8_errs cX8_errs 2 (some .int)]
def wsX8_meet_r2 : List Cond := [Cond.fieldLink RX8 19 "LacePillowModel" "met" "[I", Cond.constant RX8 117 (-1000000000), Cond.methodLink RX8 206 yX8_first, Cond.instanceMethod yX8_first, Cond.selects RX8 yX8_first yX8_first, Cond.code yX8_first cX8_first 3 none, Cond.methodLink RX8 196 yX8_begins, Cond.instanceMethod yX8_begins, Cond.selects RX8 yX8_begins yX8_begins, Cond.code yX8_begins cX8_begins 2 none, Cond.fieldLink RX8 41 "LacePillowModel" "at" "[I", Cond.fieldLink RX8 44 "LacePillowModel" "used" "[I", Cond.methodLink RX8 199 yX8_works, Cond.instanceMethod yX8_works, Cond.selects RX8 yX8_works yX8_works, Cond.code yX8_works cX8_works 4 none, Cond.fieldLink RX8 25 "LacePillowModel" "gap" "[I", Cond.fieldLink RX8 28 "LacePillowModel" "kind" "[I", Cond.methodLink RX8 193 yX8_spells, Cond.instanceMethod yX8_spells, Cond.selects RX8 yX8_spells yX8_spells, Cond.code yX8_spells cX8_spells 6 none, Cond.methodLink RX8 183 yX8_letterOf, Cond.instanceMethod yX8_letterOf]
def wsX8_meet_r3 : List Cond := [Cond.selects RX8 yX8_letterOf yX8_letterOf, Cond.code yX8_letterOf cX8_letterOf 3 (some .int), Cond.methodLink RX8 189 yX8_cross, Cond.instanceMethod yX8_cross, Cond.selects RX8 yX8_cross yX8_cross, Cond.code yX8_cross cX8_cross 6 none, Cond.fieldLink RX8 47 "LacePillowModel" "place" "[I", Cond.fieldLink RX8 50 "LacePillowModel" "sign" "[I"]
def wsX8_meet : List Cond := .code yX8_meet cX8_meet 4 (some .int) :: ((wsX8_meet_r1 ++ (wsX8_meet_r2 ++ wsX8_meet_r3)) ++ wsX80)
def wsX8_lacks_r1 : List Cond := [Cond.constant RX8 149 (-1000000001), Cond.fieldLink RX8 120 "LacePillowModel" "many" "I", Cond.fieldLink RX8 44 "LacePillowModel" "used" "[I", Cond.fieldLink RX8 9 "LacePillowModel" "now" "[I", Cond.constant RX8 249 (-1000000002), Cond.methodLink RX8 145 yX8_in, Cond.static yX8_in, Cond.initialized RX8, Cond.code yX8_in cX8_in 6 (some .boolean), Cond.methodLink RX8 150 yX8_errs, Cond.instanceMethod yX8_errs, Cond.selects RX8 yX8_errs yX8_errs, Cond.code yX8_errs cX8_errs 2 (some .int), Cond.fieldLink RX8 19 "LacePillowModel" "met" "[I", Cond.constant RX8 117 (-1000000000), Cond.methodLink RX8 196 yX8_begins, Cond.instanceMethod yX8_begins, Cond.selects RX8 yX8_begins yX8_begins, Cond.code yX8_begins cX8_begins 2 none, Cond.fieldLink RX8 186 "LacePillowModel" "crossings" "I", Cond.fieldLink RX8 41 "LacePillowModel" "at" "[I", Cond.methodLink RX8 199 yX8_works, Cond.instanceMethod yX8_works, Cond.selects RX8 yX8_works yX8_works]
def wsX8_lacks_r2 : List Cond := [Cond.code yX8_works cX8_works 4 none, Cond.fieldLink RX8 25 "LacePillowModel" "gap" "[I", Cond.fieldLink RX8 28 "LacePillowModel" "kind" "[I", Cond.methodLink RX8 193 yX8_spells, Cond.instanceMethod yX8_spells, Cond.selects RX8 yX8_spells yX8_spells, Cond.code yX8_spells cX8_spells 6 none, Cond.methodLink RX8 183 yX8_letterOf, Cond.instanceMethod yX8_letterOf, Cond.selects RX8 yX8_letterOf yX8_letterOf, Cond.code yX8_letterOf cX8_letterOf 3 (some .int), Cond.methodLink RX8 189 yX8_cross, Cond.instanceMethod yX8_cross, Cond.selects RX8 yX8_cross yX8_cross, Cond.code yX8_cross cX8_cross 6 none, Cond.fieldLink RX8 47 "LacePillowModel" "place" "[I", Cond.fieldLink RX8 50 "LacePillowModel" "sign" "[I", Cond.fieldLink RX8 53 "LacePillowModel" "over" "[I", Cond.fieldLink RX8 56 "LacePillowModel" "under" "[I", Cond.fieldLink RX8 59 "LacePillowModel" "by" "[I", Cond.methodLink RX8 279 yX8_threads, Cond.instanceMethod yX8_threads, Cond.selects RX8 yX8_threads yX8_threads, Cond.code yX8_threads cX8_threads 1 (some .int)]
def wsX8_lacks : List Cond := .code yX8_lacks cX8_lacks 4 (some .int) :: ((wsX8_lacks_r1 ++ wsX8_lacks_r2) ++ wsX80)
def wsX8_lace_r1 : List Cond := [Cond.constantLong RX8 314 (3), Cond.constant RX8 149 (-1000000001), Cond.fieldLink RX8 210 "LacePillowModel" "left" "I", Cond.fieldLink RX8 65 "LacePillowModel" "leftSign" "[I", Cond.fieldLink RX8 186 "LacePillowModel" "crossings" "I", Cond.methodLink RX8 145 yX8_in, Cond.static yX8_in, Cond.initialized RX8, Cond.code yX8_in cX8_in 6 (some .boolean), Cond.methodLink RX8 150 yX8_errs, Cond.instanceMethod yX8_errs, Cond.selects RX8 yX8_errs yX8_errs, Cond.code yX8_errs cX8_errs 2 (some .int), Cond.fieldLink RX8 19 "LacePillowModel" "met" "[I", Cond.constant RX8 117 (-1000000000), Cond.methodLink RX8 297 yX8_whole, Cond.instanceMethod yX8_whole, Cond.selects RX8 yX8_whole yX8_whole, Cond.code yX8_whole cX8_whole 2 none, Cond.fieldLink RX8 120 "LacePillowModel" "many" "I", Cond.methodLink RX8 203 yX8_theWork, Cond.instanceMethod yX8_theWork, Cond.selects RX8 yX8_theWork yX8_theWork, Cond.code yX8_theWork cX8_theWork 2 none]
def wsX8_lace_r2 : List Cond := [Cond.fieldLink RX8 9 "LacePillowModel" "now" "[I", Cond.methodLink RX8 196 yX8_begins, Cond.instanceMethod yX8_begins, Cond.selects RX8 yX8_begins yX8_begins, Cond.code yX8_begins cX8_begins 2 none, Cond.fieldLink RX8 41 "LacePillowModel" "at" "[I", Cond.fieldLink RX8 44 "LacePillowModel" "used" "[I", Cond.methodLink RX8 199 yX8_works, Cond.instanceMethod yX8_works, Cond.selects RX8 yX8_works yX8_works, Cond.code yX8_works cX8_works 4 none, Cond.fieldLink RX8 25 "LacePillowModel" "gap" "[I", Cond.fieldLink RX8 28 "LacePillowModel" "kind" "[I", Cond.methodLink RX8 193 yX8_spells, Cond.instanceMethod yX8_spells, Cond.selects RX8 yX8_spells yX8_spells, Cond.code yX8_spells cX8_spells 6 none, Cond.methodLink RX8 183 yX8_letterOf, Cond.instanceMethod yX8_letterOf, Cond.selects RX8 yX8_letterOf yX8_letterOf, Cond.code yX8_letterOf cX8_letterOf 3 (some .int), Cond.methodLink RX8 189 yX8_cross, Cond.instanceMethod yX8_cross, Cond.selects RX8 yX8_cross yX8_cross]
def wsX8_lace_r3 : List Cond := [Cond.code yX8_cross cX8_cross 6 none, Cond.fieldLink RX8 47 "LacePillowModel" "place" "[I", Cond.fieldLink RX8 50 "LacePillowModel" "sign" "[I", Cond.fieldLink RX8 53 "LacePillowModel" "over" "[I", Cond.fieldLink RX8 56 "LacePillowModel" "under" "[I", Cond.fieldLink RX8 59 "LacePillowModel" "by" "[I", Cond.methodLink RX8 206 yX8_first, Cond.instanceMethod yX8_first, Cond.selects RX8 yX8_first yX8_first, Cond.code yX8_first cX8_first 3 none, Cond.methodLink RX8 221 yX8_layers, Cond.instanceMethod yX8_layers, Cond.selects RX8 yX8_layers yX8_layers, Cond.code yX8_layers cX8_layers 5 (some .int), Cond.fieldLink RX8 68 "LacePillowModel" "layerOf" "[I", Cond.fieldLink RX8 62 "LacePillowModel" "leftPlace" "[I", Cond.methodLink RX8 216 yX8_comes, Cond.instanceMethod yX8_comes, Cond.selects RX8 yX8_comes yX8_comes, Cond.code yX8_comes cX8_comes 4 none, Cond.methodLink RX8 213 yX8_drop, Cond.instanceMethod yX8_drop, Cond.selects RX8 yX8_drop yX8_drop, Cond.code yX8_drop cX8_drop 3 none]
def wsX8_lace : List Cond := .code yX8_lace cX8_lace 6 (some .int) :: ((wsX8_lace_r1 ++ (wsX8_lace_r2 ++ wsX8_lace_r3)) ++ wsX80)
def wsX8_layer_r1 : List Cond := [Cond.constant RX8 149 (-1000000001), Cond.methodLink RX8 145 yX8_in, Cond.static yX8_in, Cond.initialized RX8, Cond.code yX8_in cX8_in 6 (some .boolean), Cond.methodLink RX8 279 yX8_threads, Cond.instanceMethod yX8_threads, Cond.selects RX8 yX8_threads yX8_threads, Cond.code yX8_threads cX8_threads 1 (some .int), Cond.fieldLink RX8 9 "LacePillowModel" "now" "[I", Cond.methodLink RX8 150 yX8_errs, Cond.instanceMethod yX8_errs, Cond.selects RX8 yX8_errs yX8_errs, Cond.code yX8_errs cX8_errs 2 (some .int), Cond.fieldLink RX8 19 "LacePillowModel" "met" "[I", Cond.constant RX8 117 (-1000000000), Cond.methodLink RX8 297 yX8_whole, Cond.instanceMethod yX8_whole, Cond.selects RX8 yX8_whole yX8_whole, Cond.code yX8_whole cX8_whole 2 none, Cond.fieldLink RX8 120 "LacePillowModel" "many" "I", Cond.methodLink RX8 203 yX8_theWork, Cond.instanceMethod yX8_theWork, Cond.selects RX8 yX8_theWork yX8_theWork]
def wsX8_layer_r2 : List Cond := [Cond.code yX8_theWork cX8_theWork 2 none, Cond.methodLink RX8 196 yX8_begins, Cond.instanceMethod yX8_begins, Cond.selects RX8 yX8_begins yX8_begins, Cond.code yX8_begins cX8_begins 2 none, Cond.fieldLink RX8 186 "LacePillowModel" "crossings" "I", Cond.fieldLink RX8 41 "LacePillowModel" "at" "[I", Cond.fieldLink RX8 44 "LacePillowModel" "used" "[I", Cond.methodLink RX8 199 yX8_works, Cond.instanceMethod yX8_works, Cond.selects RX8 yX8_works yX8_works, Cond.code yX8_works cX8_works 4 none, Cond.fieldLink RX8 25 "LacePillowModel" "gap" "[I", Cond.fieldLink RX8 28 "LacePillowModel" "kind" "[I", Cond.methodLink RX8 193 yX8_spells, Cond.instanceMethod yX8_spells, Cond.selects RX8 yX8_spells yX8_spells, Cond.code yX8_spells cX8_spells 6 none, Cond.methodLink RX8 183 yX8_letterOf, Cond.instanceMethod yX8_letterOf, Cond.selects RX8 yX8_letterOf yX8_letterOf, Cond.code yX8_letterOf cX8_letterOf 3 (some .int), Cond.methodLink RX8 189 yX8_cross, Cond.instanceMethod yX8_cross]
def wsX8_layer_r3 : List Cond := [Cond.selects RX8 yX8_cross yX8_cross, Cond.code yX8_cross cX8_cross 6 none, Cond.fieldLink RX8 47 "LacePillowModel" "place" "[I", Cond.fieldLink RX8 50 "LacePillowModel" "sign" "[I", Cond.fieldLink RX8 53 "LacePillowModel" "over" "[I", Cond.fieldLink RX8 56 "LacePillowModel" "under" "[I", Cond.fieldLink RX8 59 "LacePillowModel" "by" "[I", Cond.methodLink RX8 206 yX8_first, Cond.instanceMethod yX8_first, Cond.selects RX8 yX8_first yX8_first, Cond.code yX8_first cX8_first 3 none, Cond.methodLink RX8 221 yX8_layers, Cond.instanceMethod yX8_layers, Cond.selects RX8 yX8_layers yX8_layers, Cond.code yX8_layers cX8_layers 5 (some .int), Cond.fieldLink RX8 210 "LacePillowModel" "left" "I", Cond.fieldLink RX8 68 "LacePillowModel" "layerOf" "[I", Cond.fieldLink RX8 62 "LacePillowModel" "leftPlace" "[I", Cond.methodLink RX8 216 yX8_comes, Cond.instanceMethod yX8_comes, Cond.selects RX8 yX8_comes yX8_comes, Cond.code yX8_comes cX8_comes 4 none, Cond.fieldLink RX8 65 "LacePillowModel" "leftSign" "[I", Cond.methodLink RX8 213 yX8_drop]
def wsX8_layer_r4 : List Cond := [Cond.instanceMethod yX8_drop, Cond.selects RX8 yX8_drop yX8_drop, Cond.code yX8_drop cX8_drop 3 none, Cond.methodLink RX8 316 yX8_signIn, Cond.instanceMethod yX8_signIn, Cond.selects RX8 yX8_signIn yX8_signIn, Cond.code yX8_signIn cX8_signIn 4 (some .int)]
def wsX8_layer : List Cond := .code yX8_layer cX8_layer 5 (some .int) :: ((wsX8_layer_r1 ++ (wsX8_layer_r2 ++ (wsX8_layer_r3 ++ wsX8_layer_r4))) ++ wsX80)
def wsX8_areRowsAlike : List Cond := .code yX8_areRowsAlike cX8_areRowsAlike 4 (some .boolean) :: ([.methodLink RX8 124 yX8_gaps, .instanceMethod yX8_gaps, .selects RX8 yX8_gaps yX8_gaps, .initialized RX8, .code yX8_gaps cX8_gaps 1 (some .int), .fieldLink RX8 9 "LacePillowModel" "now" "[I", .methodLink RX8 127 yX8_held, .instanceMethod yX8_held, .selects RX8 yX8_held yX8_held, .code yX8_held cX8_held 3 (some .int)] ++ wsX80)
def wsX8_repeat_r1 : List Cond := [Cond.fieldLink RX8 120 "LacePillowModel" "many" "I", Cond.constant RX8 249 (-1000000002), Cond.methodLink RX8 150 yX8_errs, Cond.instanceMethod yX8_errs, Cond.selects RX8 yX8_errs yX8_errs, Cond.initialized RX8, Cond.code yX8_errs cX8_errs 2 (some .int), Cond.fieldLink RX8 19 "LacePillowModel" "met" "[I", Cond.constant RX8 117 (-1000000000), Cond.methodLink RX8 234 yX8_deep, Cond.instanceMethod yX8_deep, Cond.selects RX8 yX8_deep yX8_deep, Cond.code yX8_deep cX8_deep 1 (some .int), Cond.fieldLink RX8 22 "LacePillowModel" "row" "[I", Cond.methodLink RX8 319 yX8_areRowsAlike, Cond.instanceMethod yX8_areRowsAlike, Cond.selects RX8 yX8_areRowsAlike yX8_areRowsAlike, Cond.code yX8_areRowsAlike cX8_areRowsAlike 4 (some .boolean), Cond.methodLink RX8 124 yX8_gaps, Cond.instanceMethod yX8_gaps, Cond.selects RX8 yX8_gaps yX8_gaps, Cond.code yX8_gaps cX8_gaps 1 (some .int), Cond.fieldLink RX8 9 "LacePillowModel" "now" "[I", Cond.methodLink RX8 127 yX8_held]
def wsX8_repeat_r2 : List Cond := [Cond.instanceMethod yX8_held, Cond.selects RX8 yX8_held yX8_held, Cond.code yX8_held cX8_held 3 (some .int)]
def wsX8_repeat : List Cond := .code yX8_repeat cX8_repeat 4 (some .int) :: ((wsX8_repeat_r1 ++ wsX8_repeat_r2) ++ wsX80)
def wsX8_fits : List Cond := .code yX8_fits cX8_fits 5 (some .boolean) :: ([.constantLong RX8 322 (-2), .constantLong RX8 139 (-1), .constantLong RX8 163 (5), .methodLink RX8 145 yX8_in, .static yX8_in, .initialized RX8, .code yX8_in cX8_in 6 (some .boolean), .methodLink RX8 127 yX8_held, .instanceMethod yX8_held, .selects RX8 yX8_held yX8_held, .code yX8_held cX8_held 3 (some .int), .fieldLink RX8 9 "LacePillowModel" "now" "[I"] ++ wsX80)
def wsX8_isFound : List Cond := .code yX8_isFound cX8_isFound 6 (some .boolean) :: ([.fieldLink RX8 83 "LacePillowModel" "size" "[I", .fieldLink RX8 86 "LacePillowModel" "items" "[J", .methodLink RX8 324 yX8_fits, .instanceMethod yX8_fits, .selects RX8 yX8_fits yX8_fits, .initialized RX8, .code yX8_fits cX8_fits 5 (some .boolean), .constantLong RX8 322 (-2), .constantLong RX8 139 (-1), .constantLong RX8 163 (5), .methodLink RX8 145 yX8_in, .static yX8_in, .code yX8_in cX8_in 6 (some .boolean), .methodLink RX8 127 yX8_held, .instanceMethod yX8_held, .selects RX8 yX8_held yX8_held, .code yX8_held cX8_held 3 (some .int), .fieldLink RX8 9 "LacePillowModel" "now" "[I"] ++ wsX80)
def wsX8_motif_r1 : List Cond := [Cond.constantLong RX8 219 (7), Cond.constant RX8 149 (-1000000001), Cond.fieldLink RX8 80 "LacePillowModel" "sort" "[I", Cond.constant RX8 275 (-1000000007), Cond.fieldLink RX8 83 "LacePillowModel" "size" "[I", Cond.constant RX8 165 (-1000000003), Cond.constant RX8 249 (-1000000002), Cond.methodLink RX8 272 yX8_isSheet, Cond.static yX8_isSheet, Cond.initialized RX8, Cond.code yX8_isSheet cX8_isSheet 1 (some .boolean), Cond.constantLong RX8 314 (3), Cond.methodLink RX8 145 yX8_in, Cond.static yX8_in, Cond.code yX8_in cX8_in 6 (some .boolean), Cond.methodLink RX8 150 yX8_errs, Cond.instanceMethod yX8_errs, Cond.selects RX8 yX8_errs yX8_errs, Cond.code yX8_errs cX8_errs 2 (some .int), Cond.fieldLink RX8 19 "LacePillowModel" "met" "[I", Cond.constant RX8 117 (-1000000000), Cond.methodLink RX8 124 yX8_gaps, Cond.instanceMethod yX8_gaps, Cond.selects RX8 yX8_gaps yX8_gaps]
def wsX8_motif_r2 : List Cond := [Cond.code yX8_gaps cX8_gaps 1 (some .int), Cond.fieldLink RX8 9 "LacePillowModel" "now" "[I", Cond.methodLink RX8 328 yX8_isFound, Cond.instanceMethod yX8_isFound, Cond.selects RX8 yX8_isFound yX8_isFound, Cond.code yX8_isFound cX8_isFound 6 (some .boolean), Cond.fieldLink RX8 86 "LacePillowModel" "items" "[J", Cond.methodLink RX8 324 yX8_fits, Cond.instanceMethod yX8_fits, Cond.selects RX8 yX8_fits yX8_fits, Cond.code yX8_fits cX8_fits 5 (some .boolean), Cond.constantLong RX8 322 (-2), Cond.constantLong RX8 139 (-1), Cond.constantLong RX8 163 (5), Cond.methodLink RX8 127 yX8_held, Cond.instanceMethod yX8_held, Cond.selects RX8 yX8_held yX8_held, Cond.code yX8_held cX8_held 3 (some .int)]
def wsX8_motif : List Cond := .code yX8_motif cX8_motif 9 (some .int) :: ((wsX8_motif_r1 ++ wsX8_motif_r2) ++ wsX80)
def wsX8_sheet : List Cond := .code yX8_sheet cX8_sheet 5 (some .int) :: ([.constantLong RX8 139 (-1), .constantLong RX8 314 (3), .constant RX8 149 (-1000000001), .constant RX8 165 (-1000000003), .fieldLink RX8 80 "LacePillowModel" "sort" "[I", .fieldLink RX8 83 "LacePillowModel" "size" "[I", .fieldLink RX8 86 "LacePillowModel" "items" "[J", .methodLink RX8 272 yX8_isSheet, .static yX8_isSheet, .initialized RX8, .code yX8_isSheet cX8_isSheet 1 (some .boolean), .methodLink RX8 145 yX8_in, .static yX8_in, .code yX8_in cX8_in 6 (some .boolean), .methodLink RX8 150 yX8_errs, .instanceMethod yX8_errs, .selects RX8 yX8_errs yX8_errs, .code yX8_errs cX8_errs 2 (some .int), .fieldLink RX8 19 "LacePillowModel" "met" "[I", .constant RX8 117 (-1000000000)] ++ wsX80)
def wsX8_isItem : List Cond := .code yX8_isItem cX8_isItem 3 (some .boolean) :: ([.fieldLink RX8 80 "LacePillowModel" "sort" "[I", .fieldLink RX8 83 "LacePillowModel" "size" "[I", .methodLink RX8 145 yX8_in, .static yX8_in, .initialized RX8, .code yX8_in cX8_in 6 (some .boolean)] ++ wsX80)
def wsX8_put : List Cond := .code yX8_put cX8_put 5 (some .int) :: ([.constant RX8 149 (-1000000001), .constant RX8 275 (-1000000007), .fieldLink RX8 86 "LacePillowModel" "items" "[J", .fieldLink RX8 80 "LacePillowModel" "sort" "[I", .methodLink RX8 272 yX8_isSheet, .static yX8_isSheet, .initialized RX8, .code yX8_isSheet cX8_isSheet 1 (some .boolean), .constantLong RX8 314 (3), .methodLink RX8 145 yX8_in, .static yX8_in, .code yX8_in cX8_in 6 (some .boolean), .methodLink RX8 150 yX8_errs, .instanceMethod yX8_errs, .selects RX8 yX8_errs yX8_errs, .code yX8_errs cX8_errs 2 (some .int), .fieldLink RX8 19 "LacePillowModel" "met" "[I", .constant RX8 117 (-1000000000), .methodLink RX8 332 yX8_isItem, .instanceMethod yX8_isItem, .selects RX8 yX8_isItem yX8_isItem, .code yX8_isItem cX8_isItem 3 (some .boolean), .fieldLink RX8 83 "LacePillowModel" "size" "[I"] ++ wsX80)
def wsX8_number : List Cond := .code yX8_number cX8_number 3 (some .long) :: ([.constant RX8 149 (-1000000001), .fieldLink RX8 86 "LacePillowModel" "items" "[J", .constant RX8 275 (-1000000007), .methodLink RX8 272 yX8_isSheet, .static yX8_isSheet, .initialized RX8, .code yX8_isSheet cX8_isSheet 1 (some .boolean), .constantLong RX8 314 (3), .methodLink RX8 145 yX8_in, .static yX8_in, .code yX8_in cX8_in 6 (some .boolean), .methodLink RX8 266 yX8_errsLong, .instanceMethod yX8_errsLong, .selects RX8 yX8_errsLong yX8_errsLong, .code yX8_errsLong cX8_errsLong 2 (some .long), .fieldLink RX8 19 "LacePillowModel" "met" "[I", .constant RX8 117 (-1000000000), .constantLong RX8 118 (-9000000000000000000), .methodLink RX8 332 yX8_isItem, .instanceMethod yX8_isItem, .selects RX8 yX8_isItem yX8_isItem, .code yX8_isItem cX8_isItem 3 (some .boolean), .fieldLink RX8 80 "LacePillowModel" "sort" "[I", .fieldLink RX8 83 "LacePillowModel" "size" "[I"] ++ wsX80)
def wsX8_image : List Cond := .code yX8_image cX8_image 1 (some .int) :: ([.fieldLink RX8 9 "LacePillowModel" "now" "[I", .fieldLink RX8 13 "LacePillowModel" "kept" "[I", .fieldLink RX8 339 "LacePillowModel" "isKept" "Z", .methodLink RX8 335 yX8_copy, .static yX8_copy, .initialized RX8, .code yX8_copy cX8_copy 3 none] ++ wsX80)
def wsX8_restore_r1 : List Cond := [Cond.fieldLink RX8 339 "LacePillowModel" "isKept" "Z", Cond.constant RX8 249 (-1000000002), Cond.fieldLink RX8 13 "LacePillowModel" "kept" "[I", Cond.fieldLink RX8 9 "LacePillowModel" "now" "[I", Cond.methodLink RX8 150 yX8_errs, Cond.instanceMethod yX8_errs, Cond.selects RX8 yX8_errs yX8_errs, Cond.initialized RX8, Cond.code yX8_errs cX8_errs 2 (some .int), Cond.fieldLink RX8 19 "LacePillowModel" "met" "[I", Cond.constant RX8 117 (-1000000000), Cond.methodLink RX8 335 yX8_copy, Cond.static yX8_copy, Cond.code yX8_copy cX8_copy 3 none, Cond.methodLink RX8 114 yX8_lists, Cond.instanceMethod yX8_lists, Cond.selects RX8 yX8_lists yX8_lists, Cond.code yX8_lists cX8_lists 3 none, Cond.fieldLink RX8 120 "LacePillowModel" "many" "I", Cond.methodLink RX8 124 yX8_gaps, Cond.instanceMethod yX8_gaps, Cond.selects RX8 yX8_gaps yX8_gaps, Cond.code yX8_gaps cX8_gaps 1 (some .int), Cond.methodLink RX8 127 yX8_held]
def wsX8_restore_r2 : List Cond := [Cond.instanceMethod yX8_held, Cond.selects RX8 yX8_held yX8_held, Cond.code yX8_held cX8_held 3 (some .int), Cond.methodLink RX8 131 yX8_add, Cond.instanceMethod yX8_add, Cond.selects RX8 yX8_add yX8_add, Cond.code yX8_add cX8_add 5 none, Cond.fieldLink RX8 22 "LacePillowModel" "row" "[I", Cond.fieldLink RX8 25 "LacePillowModel" "gap" "[I", Cond.fieldLink RX8 28 "LacePillowModel" "kind" "[I", Cond.fieldLink RX8 34 "LacePillowModel" "ahead" "[J", Cond.fieldLink RX8 31 "LacePillowModel" "level" "[I"]
def wsX8_restore : List Cond := .code yX8_restore cX8_restore 1 (some .int) :: ((wsX8_restore_r1 ++ wsX8_restore_r2) ++ wsX80)
def wsX8_alike_r1 : List Cond := [Cond.fieldLink RX8 339 "LacePillowModel" "isKept" "Z", Cond.constant RX8 249 (-1000000002), Cond.fieldLink RX8 9 "LacePillowModel" "now" "[I", Cond.fieldLink RX8 16 "LacePillowModel" "aside" "[I", Cond.fieldLink RX8 13 "LacePillowModel" "kept" "[I", Cond.fieldLink RX8 210 "LacePillowModel" "left" "I", Cond.fieldLink RX8 89 "LacePillowModel" "shown" "[I", Cond.fieldLink RX8 68 "LacePillowModel" "layerOf" "[I", Cond.fieldLink RX8 62 "LacePillowModel" "leftPlace" "[I", Cond.fieldLink RX8 65 "LacePillowModel" "leftSign" "[I", Cond.methodLink RX8 150 yX8_errs, Cond.instanceMethod yX8_errs, Cond.selects RX8 yX8_errs yX8_errs, Cond.initialized RX8, Cond.code yX8_errs cX8_errs 2 (some .int), Cond.fieldLink RX8 19 "LacePillowModel" "met" "[I", Cond.constant RX8 117 (-1000000000), Cond.methodLink RX8 335 yX8_copy, Cond.static yX8_copy, Cond.code yX8_copy cX8_copy 3 none, Cond.methodLink RX8 114 yX8_lists, Cond.instanceMethod yX8_lists, Cond.selects RX8 yX8_lists yX8_lists, Cond.code yX8_lists cX8_lists 3 none]
def wsX8_alike_r2 : List Cond := [Cond.fieldLink RX8 120 "LacePillowModel" "many" "I", Cond.methodLink RX8 124 yX8_gaps, Cond.instanceMethod yX8_gaps, Cond.selects RX8 yX8_gaps yX8_gaps, Cond.code yX8_gaps cX8_gaps 1 (some .int), Cond.methodLink RX8 127 yX8_held, Cond.instanceMethod yX8_held, Cond.selects RX8 yX8_held yX8_held, Cond.code yX8_held cX8_held 3 (some .int), Cond.methodLink RX8 131 yX8_add, Cond.instanceMethod yX8_add, Cond.selects RX8 yX8_add yX8_add, Cond.code yX8_add cX8_add 5 none, Cond.fieldLink RX8 22 "LacePillowModel" "row" "[I", Cond.fieldLink RX8 25 "LacePillowModel" "gap" "[I", Cond.fieldLink RX8 28 "LacePillowModel" "kind" "[I", Cond.fieldLink RX8 34 "LacePillowModel" "ahead" "[J", Cond.fieldLink RX8 31 "LacePillowModel" "level" "[I", Cond.methodLink RX8 203 yX8_theWork, Cond.instanceMethod yX8_theWork, Cond.selects RX8 yX8_theWork yX8_theWork, Cond.code yX8_theWork cX8_theWork 2 none, Cond.methodLink RX8 196 yX8_begins, Cond.instanceMethod yX8_begins]
def wsX8_alike_r3 : List Cond := [Cond.selects RX8 yX8_begins yX8_begins, Cond.code yX8_begins cX8_begins 2 none, Cond.fieldLink RX8 186 "LacePillowModel" "crossings" "I", Cond.fieldLink RX8 41 "LacePillowModel" "at" "[I", Cond.fieldLink RX8 44 "LacePillowModel" "used" "[I", Cond.methodLink RX8 199 yX8_works, Cond.instanceMethod yX8_works, Cond.selects RX8 yX8_works yX8_works, Cond.code yX8_works cX8_works 4 none, Cond.methodLink RX8 193 yX8_spells, Cond.instanceMethod yX8_spells, Cond.selects RX8 yX8_spells yX8_spells, Cond.code yX8_spells cX8_spells 6 none, Cond.methodLink RX8 183 yX8_letterOf, Cond.instanceMethod yX8_letterOf, Cond.selects RX8 yX8_letterOf yX8_letterOf, Cond.code yX8_letterOf cX8_letterOf 3 (some .int), Cond.methodLink RX8 189 yX8_cross, Cond.instanceMethod yX8_cross, Cond.selects RX8 yX8_cross yX8_cross, Cond.code yX8_cross cX8_cross 6 none, Cond.fieldLink RX8 47 "LacePillowModel" "place" "[I", Cond.fieldLink RX8 50 "LacePillowModel" "sign" "[I", Cond.fieldLink RX8 53 "LacePillowModel" "over" "[I"]
def wsX8_alike_r4 : List Cond := [Cond.fieldLink RX8 56 "LacePillowModel" "under" "[I", Cond.fieldLink RX8 59 "LacePillowModel" "by" "[I", Cond.methodLink RX8 221 yX8_layers, Cond.instanceMethod yX8_layers, Cond.selects RX8 yX8_layers yX8_layers, Cond.code yX8_layers cX8_layers 5 (some .int), Cond.methodLink RX8 216 yX8_comes, Cond.instanceMethod yX8_comes, Cond.selects RX8 yX8_comes yX8_comes, Cond.code yX8_comes cX8_comes 4 none, Cond.methodLink RX8 213 yX8_drop, Cond.instanceMethod yX8_drop, Cond.selects RX8 yX8_drop yX8_drop, Cond.code yX8_drop cX8_drop 3 none]
def wsX8_alike : List Cond := .code yX8_alike cX8_alike 5 (some .int) :: ((wsX8_alike_r1 ++ (wsX8_alike_r2 ++ (wsX8_alike_r3 ++ wsX8_alike_r4))) ++ wsX80)
def wsX8_all_r1 : List Cond := [Cond.fieldLink RX8 9 "LacePillowModel" "now" "[I", Cond.fieldLink RX8 44 "LacePillowModel" "used" "[I", Cond.methodLink RX8 203 yX8_theWork, Cond.instanceMethod yX8_theWork, Cond.selects RX8 yX8_theWork yX8_theWork, Cond.initialized RX8, Cond.code yX8_theWork cX8_theWork 2 none, Cond.methodLink RX8 196 yX8_begins, Cond.instanceMethod yX8_begins, Cond.selects RX8 yX8_begins yX8_begins, Cond.code yX8_begins cX8_begins 2 none, Cond.fieldLink RX8 186 "LacePillowModel" "crossings" "I", Cond.fieldLink RX8 41 "LacePillowModel" "at" "[I", Cond.methodLink RX8 199 yX8_works, Cond.instanceMethod yX8_works, Cond.selects RX8 yX8_works yX8_works, Cond.code yX8_works cX8_works 4 none, Cond.fieldLink RX8 25 "LacePillowModel" "gap" "[I", Cond.fieldLink RX8 28 "LacePillowModel" "kind" "[I", Cond.methodLink RX8 193 yX8_spells, Cond.instanceMethod yX8_spells, Cond.selects RX8 yX8_spells yX8_spells, Cond.code yX8_spells cX8_spells 6 none, Cond.methodLink RX8 183 yX8_letterOf]
def wsX8_all_r2 : List Cond := [Cond.instanceMethod yX8_letterOf, Cond.selects RX8 yX8_letterOf yX8_letterOf, Cond.code yX8_letterOf cX8_letterOf 3 (some .int), Cond.methodLink RX8 189 yX8_cross, Cond.instanceMethod yX8_cross, Cond.selects RX8 yX8_cross yX8_cross, Cond.code yX8_cross cX8_cross 6 none, Cond.fieldLink RX8 47 "LacePillowModel" "place" "[I", Cond.fieldLink RX8 50 "LacePillowModel" "sign" "[I", Cond.fieldLink RX8 53 "LacePillowModel" "over" "[I", Cond.fieldLink RX8 56 "LacePillowModel" "under" "[I", Cond.fieldLink RX8 59 "LacePillowModel" "by" "[I", Cond.methodLink RX8 279 yX8_threads, Cond.instanceMethod yX8_threads, Cond.selects RX8 yX8_threads yX8_threads, Cond.code yX8_threads cX8_threads 1 (some .int)]
def wsX8_all : List Cond := .code yX8_all cX8_all 4 (some .int) :: ((wsX8_all_r1 ++ wsX8_all_r2) ++ wsX80)
def wsX8_atHome_r1 : List Cond := [Cond.fieldLink RX8 41 "LacePillowModel" "at" "[I", Cond.methodLink RX8 203 yX8_theWork, Cond.instanceMethod yX8_theWork, Cond.selects RX8 yX8_theWork yX8_theWork, Cond.initialized RX8, Cond.code yX8_theWork cX8_theWork 2 none, Cond.fieldLink RX8 9 "LacePillowModel" "now" "[I", Cond.methodLink RX8 196 yX8_begins, Cond.instanceMethod yX8_begins, Cond.selects RX8 yX8_begins yX8_begins, Cond.code yX8_begins cX8_begins 2 none, Cond.fieldLink RX8 186 "LacePillowModel" "crossings" "I", Cond.fieldLink RX8 44 "LacePillowModel" "used" "[I", Cond.methodLink RX8 199 yX8_works, Cond.instanceMethod yX8_works, Cond.selects RX8 yX8_works yX8_works, Cond.code yX8_works cX8_works 4 none, Cond.fieldLink RX8 25 "LacePillowModel" "gap" "[I", Cond.fieldLink RX8 28 "LacePillowModel" "kind" "[I", Cond.methodLink RX8 193 yX8_spells, Cond.instanceMethod yX8_spells, Cond.selects RX8 yX8_spells yX8_spells, Cond.code yX8_spells cX8_spells 6 none, Cond.methodLink RX8 183 yX8_letterOf]
def wsX8_atHome_r2 : List Cond := [Cond.instanceMethod yX8_letterOf, Cond.selects RX8 yX8_letterOf yX8_letterOf, Cond.code yX8_letterOf cX8_letterOf 3 (some .int), Cond.methodLink RX8 189 yX8_cross, Cond.instanceMethod yX8_cross, Cond.selects RX8 yX8_cross yX8_cross, Cond.code yX8_cross cX8_cross 6 none, Cond.fieldLink RX8 47 "LacePillowModel" "place" "[I", Cond.fieldLink RX8 50 "LacePillowModel" "sign" "[I", Cond.fieldLink RX8 53 "LacePillowModel" "over" "[I", Cond.fieldLink RX8 56 "LacePillowModel" "under" "[I", Cond.fieldLink RX8 59 "LacePillowModel" "by" "[I", Cond.methodLink RX8 279 yX8_threads, Cond.instanceMethod yX8_threads, Cond.selects RX8 yX8_threads yX8_threads, Cond.code yX8_threads cX8_threads 1 (some .int)]
def wsX8_atHome : List Cond := .code yX8_atHome cX8_atHome 3 (some .int) :: ((wsX8_atHome_r1 ++ wsX8_atHome_r2) ++ wsX80)
def wsX8_made_r1 : List Cond := [Cond.fieldLink RX8 186 "LacePillowModel" "crossings" "I", Cond.methodLink RX8 203 yX8_theWork, Cond.instanceMethod yX8_theWork, Cond.selects RX8 yX8_theWork yX8_theWork, Cond.initialized RX8, Cond.code yX8_theWork cX8_theWork 2 none, Cond.fieldLink RX8 9 "LacePillowModel" "now" "[I", Cond.methodLink RX8 196 yX8_begins, Cond.instanceMethod yX8_begins, Cond.selects RX8 yX8_begins yX8_begins, Cond.code yX8_begins cX8_begins 2 none, Cond.fieldLink RX8 41 "LacePillowModel" "at" "[I", Cond.fieldLink RX8 44 "LacePillowModel" "used" "[I", Cond.methodLink RX8 199 yX8_works, Cond.instanceMethod yX8_works, Cond.selects RX8 yX8_works yX8_works, Cond.code yX8_works cX8_works 4 none, Cond.fieldLink RX8 25 "LacePillowModel" "gap" "[I", Cond.fieldLink RX8 28 "LacePillowModel" "kind" "[I", Cond.methodLink RX8 193 yX8_spells, Cond.instanceMethod yX8_spells, Cond.selects RX8 yX8_spells yX8_spells, Cond.code yX8_spells cX8_spells 6 none, Cond.methodLink RX8 183 yX8_letterOf]
def wsX8_made_r2 : List Cond := [Cond.instanceMethod yX8_letterOf, Cond.selects RX8 yX8_letterOf yX8_letterOf, Cond.code yX8_letterOf cX8_letterOf 3 (some .int), Cond.methodLink RX8 189 yX8_cross, Cond.instanceMethod yX8_cross, Cond.selects RX8 yX8_cross yX8_cross, Cond.code yX8_cross cX8_cross 6 none, Cond.fieldLink RX8 47 "LacePillowModel" "place" "[I", Cond.fieldLink RX8 50 "LacePillowModel" "sign" "[I", Cond.fieldLink RX8 53 "LacePillowModel" "over" "[I", Cond.fieldLink RX8 56 "LacePillowModel" "under" "[I", Cond.fieldLink RX8 59 "LacePillowModel" "by" "[I"]
def wsX8_made : List Cond := .code yX8_made cX8_made 1 (some .int) :: ((wsX8_made_r1 ++ wsX8_made_r2) ++ wsX80)
def wsX8_count_r1 : List Cond := [Cond.fieldLink RX8 9 "LacePillowModel" "now" "[I", Cond.fieldLink RX8 168 "LacePillowModel" "taped" "I", Cond.constant RX8 149 (-1000000001), Cond.methodLink RX8 343 yX8_all, Cond.instanceMethod yX8_all, Cond.selects RX8 yX8_all yX8_all, Cond.initialized RX8, Cond.code yX8_all cX8_all 4 (some .int), Cond.fieldLink RX8 44 "LacePillowModel" "used" "[I", Cond.methodLink RX8 203 yX8_theWork, Cond.instanceMethod yX8_theWork, Cond.selects RX8 yX8_theWork yX8_theWork, Cond.code yX8_theWork cX8_theWork 2 none, Cond.methodLink RX8 196 yX8_begins, Cond.instanceMethod yX8_begins, Cond.selects RX8 yX8_begins yX8_begins, Cond.code yX8_begins cX8_begins 2 none, Cond.fieldLink RX8 186 "LacePillowModel" "crossings" "I", Cond.fieldLink RX8 41 "LacePillowModel" "at" "[I", Cond.methodLink RX8 199 yX8_works, Cond.instanceMethod yX8_works, Cond.selects RX8 yX8_works yX8_works, Cond.code yX8_works cX8_works 4 none, Cond.fieldLink RX8 25 "LacePillowModel" "gap" "[I"]
def wsX8_count_r2 : List Cond := [Cond.fieldLink RX8 28 "LacePillowModel" "kind" "[I", Cond.methodLink RX8 193 yX8_spells, Cond.instanceMethod yX8_spells, Cond.selects RX8 yX8_spells yX8_spells, Cond.code yX8_spells cX8_spells 6 none, Cond.methodLink RX8 183 yX8_letterOf, Cond.instanceMethod yX8_letterOf, Cond.selects RX8 yX8_letterOf yX8_letterOf, Cond.code yX8_letterOf cX8_letterOf 3 (some .int), Cond.methodLink RX8 189 yX8_cross, Cond.instanceMethod yX8_cross, Cond.selects RX8 yX8_cross yX8_cross, Cond.code yX8_cross cX8_cross 6 none, Cond.fieldLink RX8 47 "LacePillowModel" "place" "[I", Cond.fieldLink RX8 50 "LacePillowModel" "sign" "[I", Cond.fieldLink RX8 53 "LacePillowModel" "over" "[I", Cond.fieldLink RX8 56 "LacePillowModel" "under" "[I", Cond.fieldLink RX8 59 "LacePillowModel" "by" "[I", Cond.methodLink RX8 279 yX8_threads, Cond.instanceMethod yX8_threads, Cond.selects RX8 yX8_threads yX8_threads, Cond.code yX8_threads cX8_threads 1 (some .int), Cond.methodLink RX8 347 yX8_made, Cond.instanceMethod yX8_made]
def wsX8_count_r3 : List Cond := [Cond.selects RX8 yX8_made yX8_made, Cond.code yX8_made cX8_made 1 (some .int), Cond.methodLink RX8 350 yX8_atHome, Cond.instanceMethod yX8_atHome, Cond.selects RX8 yX8_atHome yX8_atHome, Cond.code yX8_atHome cX8_atHome 3 (some .int), Cond.methodLink RX8 150 yX8_errs, Cond.instanceMethod yX8_errs, Cond.selects RX8 yX8_errs yX8_errs, Cond.code yX8_errs cX8_errs 2 (some .int), Cond.fieldLink RX8 19 "LacePillowModel" "met" "[I", Cond.constant RX8 117 (-1000000000)]
def wsX8_count : List Cond := .code yX8_count cX8_count 2 (some .int) :: ((wsX8_count_r1 ++ (wsX8_count_r2 ++ wsX8_count_r3)) ++ wsX80)
def wsX8_told : List Cond := .code yX8_told cX8_told 2 (some .int) :: ([.constantLong RX8 219 (7), .fieldLink RX8 19 "LacePillowModel" "met" "[I", .constant RX8 149 (-1000000001), .methodLink RX8 145 yX8_in, .static yX8_in, .initialized RX8, .code yX8_in cX8_in 6 (some .boolean), .methodLink RX8 150 yX8_errs, .instanceMethod yX8_errs, .selects RX8 yX8_errs yX8_errs, .code yX8_errs cX8_errs 2 (some .int), .constant RX8 117 (-1000000000)] ++ wsX80)
def wsJ9_abs_0f7a4 : List Cond := .code yJ9_abs_0f7a4 cJ9_abs_0f7a4 1 (some .int) :: ([])
def wsJ9_max_7cf53 : List Cond := .code yJ9_max_7cf53 cJ9_max_7cf53 2 (some .int) :: ([])
def wsJ9_min_7cf53 : List Cond := .code yJ9_min_7cf53 cJ9_min_7cf53 2 (some .int) :: ([])
theorem inJx145de : ∀ w ∈ wsJx145de0, w ∈ lw_tbl := by decide +kernel
theorem inJx9f9b0 : ∀ w ∈ wsJx9f9b00, w ∈ lw_tbl := by decide +kernel
theorem inJxb160c : ∀ w ∈ wsJxb160c0, w ∈ lw_tbl := by decide +kernel
theorem inJxfd54e : ∀ w ∈ wsJxfd54e0, w ∈ lw_tbl := by decide +kernel
theorem inJx3cf43 : ∀ w ∈ wsJx3cf430, w ∈ lw_tbl := by decide +kernel
theorem dX0_init_0 : decode cX0_init 0 = .ok (.aload_n 0, 1) := by decide +kernel
theorem dX0_init_1 : decode cX0_init 1 = .ok (.invokespecial 3, 3) := by decide +kernel
theorem dX0_init_4 : decode cX0_init 4 = .ok (.aload_n 0, 1) := by decide +kernel
theorem dX0_init_5 : decode cX0_init 5 = .ok (.iconst 0, 1) := by decide +kernel
theorem dX0_init_6 : decode cX0_init 6 = .ok (.putfield 9, 3) := by decide +kernel
theorem dX0_init_9 : decode cX0_init 9 = .ok (.aload_n 0, 1) := by decide +kernel
theorem dX0_init_10 : decode cX0_init 10 = .ok (.iconst 0, 1) := by decide +kernel
theorem dX0_init_11 : decode cX0_init 11 = .ok (.putfield 15, 3) := by decide +kernel
theorem dX0_init_14 : decode cX0_init 14 = .ok (.aload_n 0, 1) := by decide +kernel
theorem dX0_init_15 : decode cX0_init 15 = .ok (.bipush 48, 2) := by decide +kernel
theorem dX0_init_17 : decode cX0_init 17 = .ok (.newarray .int, 2) := by decide +kernel
theorem dX0_init_19 : decode cX0_init 19 = .ok (.putfield 18, 3) := by decide +kernel
theorem dX0_init_22 : decode cX0_init 22 = .ok (.aload_n 0, 1) := by decide +kernel
theorem dX0_init_23 : decode cX0_init 23 = .ok (.bipush 48, 2) := by decide +kernel
theorem dX0_init_25 : decode cX0_init 25 = .ok (.newarray .int, 2) := by decide +kernel
theorem dX0_init_27 : decode cX0_init 27 = .ok (.putfield 22, 3) := by decide +kernel
theorem dX0_init_30 : decode cX0_init 30 = .ok (.aload_n 0, 1) := by decide +kernel
theorem dX0_init_31 : decode cX0_init 31 = .ok (.bipush 48, 2) := by decide +kernel
theorem dX0_init_33 : decode cX0_init 33 = .ok (.newarray .int, 2) := by decide +kernel
theorem dX0_init_35 : decode cX0_init 35 = .ok (.putfield 25, 3) := by decide +kernel
theorem dX0_init_38 : decode cX0_init 38 = .ok (.aload_n 0, 1) := by decide +kernel
theorem dX0_init_39 : decode cX0_init 39 = .ok (.bipush 48, 2) := by decide +kernel
theorem dX0_init_41 : decode cX0_init 41 = .ok (.newarray .int, 2) := by decide +kernel
theorem dX0_init_43 : decode cX0_init 43 = .ok (.putfield 28, 3) := by decide +kernel
theorem dX0_init_46 : decode cX0_init 46 = .ok (.aload_n 0, 1) := by decide +kernel
theorem dX0_init_47 : decode cX0_init 47 = .ok (.bipush 48, 2) := by decide +kernel
theorem dX0_init_49 : decode cX0_init 49 = .ok (.newarray .long, 2) := by decide +kernel
theorem dX0_init_51 : decode cX0_init 51 = .ok (.putfield 31, 3) := by decide +kernel
theorem dX0_init_54 : decode cX0_init 54 = .ok (.aload_n 0, 1) := by decide +kernel
theorem dX0_init_55 : decode cX0_init 55 = .ok (.bipush 48, 2) := by decide +kernel
theorem dX0_init_57 : decode cX0_init 57 = .ok (.newarray .int, 2) := by decide +kernel
theorem dX0_init_59 : decode cX0_init 59 = .ok (.putfield 35, 3) := by decide +kernel
theorem dX0_init_62 : decode cX0_init 62 = .ok (.return_, 1) := by decide +kernel
set_option maxRecDepth 20000 in
theorem ggX0_gather_X0_enter : GoodIn wsX0_gather wsX0_enter := goodIn_r _ [9, 1, 10, 11, 12, 13, 14, 15, 16, 17, 18, 19, 20, 21, 2, 22, 23, 24, 25, 26, 27, 28, 29] (by decide +kernel) (by decide +kernel)
set_option maxRecDepth 20000 in
theorem gX0_gather_X0_enter : GoodIn wsX0_gather (wsV RX0 46 RX0 yX0_enter wsX0_enter) := goodIn_app (goodIn_of _ (by decide +kernel)) ggX0_gather_X0_enter
theorem dX0_gather_0 : decode cX0_gather 0 = .ok (.aload_n 0, 1) := by decide +kernel
theorem dX0_gather_1 : decode cX0_gather 1 = .ok (.iconst 0, 1) := by decide +kernel
theorem dX0_gather_2 : decode cX0_gather 2 = .ok (.putfield 9, 3) := by decide +kernel
theorem dX0_gather_5 : decode cX0_gather 5 = .ok (.aload_n 0, 1) := by decide +kernel
theorem dX0_gather_6 : decode cX0_gather 6 = .ok (.iconst 0, 1) := by decide +kernel
theorem dX0_gather_7 : decode cX0_gather 7 = .ok (.putfield 15, 3) := by decide +kernel
theorem dX0_gather_10 : decode cX0_gather 10 = .ok (.iconst 0, 1) := by decide +kernel
theorem dX0_gather_11 : decode cX0_gather 11 = .ok (.istore_n 2, 1) := by decide +kernel
theorem dX0_gather_12 : decode cX0_gather 12 = .ok (.iload_n 2, 1) := by decide +kernel
theorem dX0_gather_13 : decode cX0_gather 13 = .ok (.bipush 12, 2) := by decide +kernel
theorem dX0_gather_15 : decode cX0_gather 15 = .ok (.if_icmp .ge 63, 3) := by decide +kernel
theorem dX0_gather_18 : decode cX0_gather 18 = .ok (.iconst 0, 1) := by decide +kernel
theorem dX0_gather_19 : decode cX0_gather 19 = .ok (.istore_n 3, 1) := by decide +kernel
theorem dX0_gather_20 : decode cX0_gather 20 = .ok (.iload_n 3, 1) := by decide +kernel
theorem dX0_gather_21 : decode cX0_gather 21 = .ok (.aload_n 1, 1) := by decide +kernel
theorem dX0_gather_22 : decode cX0_gather 22 = .ok (.getfield 38, 3) := by decide +kernel
theorem dX0_gather_25 : decode cX0_gather 25 = .ok (.iconst 1, 1) := by decide +kernel
theorem dX0_gather_26 : decode cX0_gather 26 = .ok (.isub, 1) := by decide +kernel
theorem dX0_gather_27 : decode cX0_gather 27 = .ok (.if_icmp .ge 45, 3) := by decide +kernel
theorem dX0_gather_30 : decode cX0_gather 30 = .ok (.aload_n 1, 1) := by decide +kernel
theorem dX0_gather_31 : decode cX0_gather 31 = .ok (.getfield 43, 3) := by decide +kernel
theorem dX0_gather_34 : decode cX0_gather 34 = .ok (.iload_n 2, 1) := by decide +kernel
theorem dX0_gather_35 : decode cX0_gather 35 = .ok (.bipush 7, 2) := by decide +kernel
theorem dX0_gather_37 : decode cX0_gather 37 = .ok (.imul, 1) := by decide +kernel
theorem dX0_gather_38 : decode cX0_gather 38 = .ok (.iload_n 3, 1) := by decide +kernel
theorem dX0_gather_39 : decode cX0_gather 39 = .ok (.iadd, 1) := by decide +kernel
theorem dX0_gather_40 : decode cX0_gather 40 = .ok (.iaload, 1) := by decide +kernel
theorem dX0_gather_41 : decode cX0_gather 41 = .ok (.istore 4, 2) := by decide +kernel
theorem dX0_gather_43 : decode cX0_gather 43 = .ok (.iload 4, 2) := by decide +kernel
theorem dX0_gather_45 : decode cX0_gather 45 = .ok (.iconst (-1), 1) := by decide +kernel
theorem dX0_gather_46 : decode cX0_gather 46 = .ok (.if_icmp .eq 20, 3) := by decide +kernel
theorem dX0_gather_49 : decode cX0_gather 49 = .ok (.aload_n 0, 1) := by decide +kernel
theorem dX0_gather_50 : decode cX0_gather 50 = .ok (.getfield 9, 3) := by decide +kernel
theorem dX0_gather_53 : decode cX0_gather 53 = .ok (.bipush 48, 2) := by decide +kernel
theorem dX0_gather_55 : decode cX0_gather 55 = .ok (.if_icmp .ge 11, 3) := by decide +kernel
theorem dX0_gather_58 : decode cX0_gather 58 = .ok (.aload_n 0, 1) := by decide +kernel
theorem dX0_gather_59 : decode cX0_gather 59 = .ok (.iload_n 2, 1) := by decide +kernel
theorem dX0_gather_60 : decode cX0_gather 60 = .ok (.iload_n 3, 1) := by decide +kernel
theorem dX0_gather_61 : decode cX0_gather 61 = .ok (.iload 4, 2) := by decide +kernel
theorem dX0_gather_63 : decode cX0_gather 63 = .ok (.invokevirtual 46, 3) := by decide +kernel
theorem dX0_gather_66 : decode cX0_gather 66 = .ok (.iinc 3 1, 3) := by decide +kernel
theorem dX0_gather_69 : decode cX0_gather 69 = .ok (.goto (-49), 3) := by decide +kernel
theorem dX0_gather_72 : decode cX0_gather 72 = .ok (.iinc 2 1, 3) := by decide +kernel
theorem dX0_gather_75 : decode cX0_gather 75 = .ok (.goto (-63), 3) := by decide +kernel
theorem dX0_gather_78 : decode cX0_gather 78 = .ok (.return_, 1) := by decide +kernel
theorem dX0_enter_0 : decode cX0_enter 0 = .ok (.aload_n 0, 1) := by decide +kernel
theorem dX0_enter_1 : decode cX0_enter 1 = .ok (.getfield 9, 3) := by decide +kernel
theorem dX0_enter_4 : decode cX0_enter 4 = .ok (.istore 4, 2) := by decide +kernel
theorem dX0_enter_6 : decode cX0_enter 6 = .ok (.aload_n 0, 1) := by decide +kernel
theorem dX0_enter_7 : decode cX0_enter 7 = .ok (.getfield 18, 3) := by decide +kernel
theorem dX0_enter_10 : decode cX0_enter 10 = .ok (.iload 4, 2) := by decide +kernel
theorem dX0_enter_12 : decode cX0_enter 12 = .ok (.iload_n 1, 1) := by decide +kernel
theorem dX0_enter_13 : decode cX0_enter 13 = .ok (.iastore, 1) := by decide +kernel
theorem dX0_enter_14 : decode cX0_enter 14 = .ok (.aload_n 0, 1) := by decide +kernel
theorem dX0_enter_15 : decode cX0_enter 15 = .ok (.getfield 22, 3) := by decide +kernel
theorem dX0_enter_18 : decode cX0_enter 18 = .ok (.iload 4, 2) := by decide +kernel
theorem dX0_enter_20 : decode cX0_enter 20 = .ok (.iload_n 2, 1) := by decide +kernel
theorem dX0_enter_21 : decode cX0_enter 21 = .ok (.iastore, 1) := by decide +kernel
theorem dX0_enter_22 : decode cX0_enter 22 = .ok (.aload_n 0, 1) := by decide +kernel
theorem dX0_enter_23 : decode cX0_enter 23 = .ok (.getfield 25, 3) := by decide +kernel
theorem dX0_enter_26 : decode cX0_enter 26 = .ok (.iload 4, 2) := by decide +kernel
theorem dX0_enter_28 : decode cX0_enter 28 = .ok (.iload_n 3, 1) := by decide +kernel
theorem dX0_enter_29 : decode cX0_enter 29 = .ok (.iastore, 1) := by decide +kernel
theorem dX0_enter_30 : decode cX0_enter 30 = .ok (.aload_n 0, 1) := by decide +kernel
theorem dX0_enter_31 : decode cX0_enter 31 = .ok (.getfield 28, 3) := by decide +kernel
theorem dX0_enter_34 : decode cX0_enter 34 = .ok (.iload 4, 2) := by decide +kernel
theorem dX0_enter_36 : decode cX0_enter 36 = .ok (.iconst 0, 1) := by decide +kernel
theorem dX0_enter_37 : decode cX0_enter 37 = .ok (.iastore, 1) := by decide +kernel
theorem dX0_enter_38 : decode cX0_enter 38 = .ok (.aload_n 0, 1) := by decide +kernel
theorem dX0_enter_39 : decode cX0_enter 39 = .ok (.getfield 31, 3) := by decide +kernel
theorem dX0_enter_42 : decode cX0_enter 42 = .ok (.iload 4, 2) := by decide +kernel
theorem dX0_enter_44 : decode cX0_enter 44 = .ok (.lconst 0, 1) := by decide +kernel
theorem dX0_enter_45 : decode cX0_enter 45 = .ok (.lastore, 1) := by decide +kernel
theorem dX0_enter_46 : decode cX0_enter 46 = .ok (.iconst 0, 1) := by decide +kernel
theorem dX0_enter_47 : decode cX0_enter 47 = .ok (.istore 5, 2) := by decide +kernel
theorem dX0_enter_49 : decode cX0_enter 49 = .ok (.iload 5, 2) := by decide +kernel
theorem dX0_enter_51 : decode cX0_enter 51 = .ok (.iload 4, 2) := by decide +kernel
theorem dX0_enter_53 : decode cX0_enter 53 = .ok (.if_icmp .ge 84, 3) := by decide +kernel
theorem dX0_enter_56 : decode cX0_enter 56 = .ok (.aload_n 0, 1) := by decide +kernel
theorem dX0_enter_57 : decode cX0_enter 57 = .ok (.getfield 18, 3) := by decide +kernel
theorem dX0_enter_60 : decode cX0_enter 60 = .ok (.iload 5, 2) := by decide +kernel
theorem dX0_enter_62 : decode cX0_enter 62 = .ok (.iaload, 1) := by decide +kernel
theorem dX0_enter_63 : decode cX0_enter 63 = .ok (.iload_n 1, 1) := by decide +kernel
theorem dX0_enter_64 : decode cX0_enter 64 = .ok (.if_icmp .ge 67, 3) := by decide +kernel
theorem dX0_enter_67 : decode cX0_enter 67 = .ok (.aload_n 0, 1) := by decide +kernel
theorem dX0_enter_68 : decode cX0_enter 68 = .ok (.getfield 22, 3) := by decide +kernel
theorem dX0_enter_71 : decode cX0_enter 71 = .ok (.iload 5, 2) := by decide +kernel
theorem dX0_enter_73 : decode cX0_enter 73 = .ok (.iaload, 1) := by decide +kernel
theorem dX0_enter_74 : decode cX0_enter 74 = .ok (.iload_n 2, 1) := by decide +kernel
theorem dX0_enter_75 : decode cX0_enter 75 = .ok (.isub, 1) := by decide +kernel
theorem dX0_enter_76 : decode cX0_enter 76 = .ok (.invokestatic 50, 3) := by decide +kernel
theorem dX0_enter_79 : decode cX0_enter 79 = .ok (.iconst 1, 1) := by decide +kernel
theorem dX0_enter_80 : decode cX0_enter 80 = .ok (.if_icmp .gt 51, 3) := by decide +kernel
theorem dX0_enter_83 : decode cX0_enter 83 = .ok (.aload_n 0, 1) := by decide +kernel
theorem dX0_enter_84 : decode cX0_enter 84 = .ok (.getfield 31, 3) := by decide +kernel
theorem dX0_enter_87 : decode cX0_enter 87 = .ok (.iload 4, 2) := by decide +kernel
theorem dX0_enter_89 : decode cX0_enter 89 = .ok (.dup2, 1) := by decide +kernel
theorem dX0_enter_90 : decode cX0_enter 90 = .ok (.laload, 1) := by decide +kernel
theorem dX0_enter_91 : decode cX0_enter 91 = .ok (.aload_n 0, 1) := by decide +kernel
theorem dX0_enter_92 : decode cX0_enter 92 = .ok (.getfield 31, 3) := by decide +kernel
theorem dX0_enter_95 : decode cX0_enter 95 = .ok (.iload 5, 2) := by decide +kernel
theorem dX0_enter_97 : decode cX0_enter 97 = .ok (.laload, 1) := by decide +kernel
theorem dX0_enter_98 : decode cX0_enter 98 = .ok (.lconst 1, 1) := by decide +kernel
theorem dX0_enter_99 : decode cX0_enter 99 = .ok (.iload 5, 2) := by decide +kernel
theorem dX0_enter_101 : decode cX0_enter 101 = .ok (.lshl, 1) := by decide +kernel
theorem dX0_enter_102 : decode cX0_enter 102 = .ok (.lor, 1) := by decide +kernel
theorem dX0_enter_103 : decode cX0_enter 103 = .ok (.lor, 1) := by decide +kernel
theorem dX0_enter_104 : decode cX0_enter 104 = .ok (.lastore, 1) := by decide +kernel
theorem dX0_enter_105 : decode cX0_enter 105 = .ok (.aload_n 0, 1) := by decide +kernel
theorem dX0_enter_106 : decode cX0_enter 106 = .ok (.getfield 28, 3) := by decide +kernel
theorem dX0_enter_109 : decode cX0_enter 109 = .ok (.iload 4, 2) := by decide +kernel
theorem dX0_enter_111 : decode cX0_enter 111 = .ok (.aload_n 0, 1) := by decide +kernel
theorem dX0_enter_112 : decode cX0_enter 112 = .ok (.getfield 28, 3) := by decide +kernel
theorem dX0_enter_115 : decode cX0_enter 115 = .ok (.iload 4, 2) := by decide +kernel
theorem dX0_enter_117 : decode cX0_enter 117 = .ok (.iaload, 1) := by decide +kernel
theorem dX0_enter_118 : decode cX0_enter 118 = .ok (.aload_n 0, 1) := by decide +kernel
theorem dX0_enter_119 : decode cX0_enter 119 = .ok (.getfield 28, 3) := by decide +kernel
theorem dX0_enter_122 : decode cX0_enter 122 = .ok (.iload 5, 2) := by decide +kernel
theorem dX0_enter_124 : decode cX0_enter 124 = .ok (.iaload, 1) := by decide +kernel
theorem dX0_enter_125 : decode cX0_enter 125 = .ok (.iconst 1, 1) := by decide +kernel
theorem dX0_enter_126 : decode cX0_enter 126 = .ok (.iadd, 1) := by decide +kernel
theorem dX0_enter_127 : decode cX0_enter 127 = .ok (.invokestatic 56, 3) := by decide +kernel
theorem dX0_enter_130 : decode cX0_enter 130 = .ok (.iastore, 1) := by decide +kernel
theorem dX0_enter_131 : decode cX0_enter 131 = .ok (.iinc 5 1, 3) := by decide +kernel
theorem dX0_enter_134 : decode cX0_enter 134 = .ok (.goto (-85), 3) := by decide +kernel
theorem dX0_enter_137 : decode cX0_enter 137 = .ok (.aload_n 0, 1) := by decide +kernel
theorem dX0_enter_138 : decode cX0_enter 138 = .ok (.dup, 1) := by decide +kernel
theorem dX0_enter_139 : decode cX0_enter 139 = .ok (.getfield 9, 3) := by decide +kernel
theorem dX0_enter_142 : decode cX0_enter 142 = .ok (.iconst 1, 1) := by decide +kernel
theorem dX0_enter_143 : decode cX0_enter 143 = .ok (.iadd, 1) := by decide +kernel
theorem dX0_enter_144 : decode cX0_enter 144 = .ok (.putfield 9, 3) := by decide +kernel
theorem dX0_enter_147 : decode cX0_enter 147 = .ok (.aload_n 0, 1) := by decide +kernel
theorem dX0_enter_148 : decode cX0_enter 148 = .ok (.iload_n 1, 1) := by decide +kernel
theorem dX0_enter_149 : decode cX0_enter 149 = .ok (.iconst 1, 1) := by decide +kernel
theorem dX0_enter_150 : decode cX0_enter 150 = .ok (.iadd, 1) := by decide +kernel
theorem dX0_enter_151 : decode cX0_enter 151 = .ok (.putfield 15, 3) := by decide +kernel
theorem dX0_enter_154 : decode cX0_enter 154 = .ok (.return_, 1) := by decide +kernel
theorem dX0_leads_0 : decode cX0_leads 0 = .ok (.aload_n 0, 1) := by decide +kernel
theorem dX0_leads_1 : decode cX0_leads 1 = .ok (.getfield 31, 3) := by decide +kernel
theorem dX0_leads_4 : decode cX0_leads 4 = .ok (.iload_n 2, 1) := by decide +kernel
theorem dX0_leads_5 : decode cX0_leads 5 = .ok (.laload, 1) := by decide +kernel
theorem dX0_leads_6 : decode cX0_leads 6 = .ok (.iload_n 1, 1) := by decide +kernel
theorem dX0_leads_7 : decode cX0_leads 7 = .ok (.lshr, 1) := by decide +kernel
theorem dX0_leads_8 : decode cX0_leads 8 = .ok (.lconst 1, 1) := by decide +kernel
theorem dX0_leads_9 : decode cX0_leads 9 = .ok (.land, 1) := by decide +kernel
theorem dX0_leads_10 : decode cX0_leads 10 = .ok (.lconst 1, 1) := by decide +kernel
theorem dX0_leads_11 : decode cX0_leads 11 = .ok (.lcmp, 1) := by decide +kernel
theorem dX0_leads_12 : decode cX0_leads 12 = .ok (.ifCond .ne 7, 3) := by decide +kernel
theorem dX0_leads_15 : decode cX0_leads 15 = .ok (.iconst 1, 1) := by decide +kernel
theorem dX0_leads_16 : decode cX0_leads 16 = .ok (.goto 4, 3) := by decide +kernel
theorem dX0_leads_19 : decode cX0_leads 19 = .ok (.iconst 0, 1) := by decide +kernel
theorem dX0_leads_20 : decode cX0_leads 20 = .ok (.ireturn, 1) := by decide +kernel
theorem dX0_isFree_0 : decode cX0_isFree 0 = .ok (.lload_n 2, 1) := by decide +kernel
theorem dX0_isFree_1 : decode cX0_isFree 1 = .ok (.iload_n 1, 1) := by decide +kernel
theorem dX0_isFree_2 : decode cX0_isFree 2 = .ok (.lshr, 1) := by decide +kernel
theorem dX0_isFree_3 : decode cX0_isFree 3 = .ok (.lconst 1, 1) := by decide +kernel
theorem dX0_isFree_4 : decode cX0_isFree 4 = .ok (.land, 1) := by decide +kernel
theorem dX0_isFree_5 : decode cX0_isFree 5 = .ok (.lconst 0, 1) := by decide +kernel
theorem dX0_isFree_6 : decode cX0_isFree 6 = .ok (.lcmp, 1) := by decide +kernel
theorem dX0_isFree_7 : decode cX0_isFree 7 = .ok (.ifCond .ne 24, 3) := by decide +kernel
theorem dX0_isFree_10 : decode cX0_isFree 10 = .ok (.aload_n 0, 1) := by decide +kernel
theorem dX0_isFree_11 : decode cX0_isFree 11 = .ok (.getfield 31, 3) := by decide +kernel
theorem dX0_isFree_14 : decode cX0_isFree 14 = .ok (.iload_n 1, 1) := by decide +kernel
theorem dX0_isFree_15 : decode cX0_isFree 15 = .ok (.laload, 1) := by decide +kernel
theorem dX0_isFree_16 : decode cX0_isFree 16 = .ok (.lload_n 2, 1) := by decide +kernel
theorem dX0_isFree_17 : decode cX0_isFree 17 = .ok (.ldc2_w 60, 3) := by decide +kernel
theorem dX0_isFree_20 : decode cX0_isFree 20 = .ok (.lxor, 1) := by decide +kernel
theorem dX0_isFree_21 : decode cX0_isFree 21 = .ok (.land, 1) := by decide +kernel
theorem dX0_isFree_22 : decode cX0_isFree 22 = .ok (.lconst 0, 1) := by decide +kernel
theorem dX0_isFree_23 : decode cX0_isFree 23 = .ok (.lcmp, 1) := by decide +kernel
theorem dX0_isFree_24 : decode cX0_isFree 24 = .ok (.ifCond .ne 7, 3) := by decide +kernel
theorem dX0_isFree_27 : decode cX0_isFree 27 = .ok (.iconst 1, 1) := by decide +kernel
theorem dX0_isFree_28 : decode cX0_isFree 28 = .ok (.goto 4, 3) := by decide +kernel
theorem dX0_isFree_31 : decode cX0_isFree 31 = .ok (.iconst 0, 1) := by decide +kernel
theorem dX0_isFree_32 : decode cX0_isFree 32 = .ok (.ireturn, 1) := by decide +kernel
set_option maxRecDepth 20000 in
theorem ggX0_countFree_X0_isFree : GoodIn wsX0_countFree wsX0_isFree := goodIn_r _ [6, 7, 8, 9, 10, 11, 12, 13, 14, 15, 16] (by decide +kernel) (by decide +kernel)
set_option maxRecDepth 20000 in
theorem gX0_countFree_X0_isFree : GoodIn wsX0_countFree (wsV RX0 62 RX0 yX0_isFree wsX0_isFree) := goodIn_app (goodIn_of _ (by decide +kernel)) ggX0_countFree_X0_isFree
theorem dX0_countFree_0 : decode cX0_countFree 0 = .ok (.iconst 0, 1) := by decide +kernel
theorem dX0_countFree_1 : decode cX0_countFree 1 = .ok (.istore_n 3, 1) := by decide +kernel
theorem dX0_countFree_2 : decode cX0_countFree 2 = .ok (.iconst 0, 1) := by decide +kernel
theorem dX0_countFree_3 : decode cX0_countFree 3 = .ok (.istore 4, 2) := by decide +kernel
theorem dX0_countFree_5 : decode cX0_countFree 5 = .ok (.iload 4, 2) := by decide +kernel
theorem dX0_countFree_7 : decode cX0_countFree 7 = .ok (.aload_n 0, 1) := by decide +kernel
theorem dX0_countFree_8 : decode cX0_countFree 8 = .ok (.getfield 9, 3) := by decide +kernel
theorem dX0_countFree_11 : decode cX0_countFree 11 = .ok (.if_icmp .ge 22, 3) := by decide +kernel
theorem dX0_countFree_14 : decode cX0_countFree 14 = .ok (.aload_n 0, 1) := by decide +kernel
theorem dX0_countFree_15 : decode cX0_countFree 15 = .ok (.iload 4, 2) := by decide +kernel
theorem dX0_countFree_17 : decode cX0_countFree 17 = .ok (.lload_n 1, 1) := by decide +kernel
theorem dX0_countFree_18 : decode cX0_countFree 18 = .ok (.invokevirtual 62, 3) := by decide +kernel
theorem dX0_countFree_21 : decode cX0_countFree 21 = .ok (.ifCond .eq 6, 3) := by decide +kernel
theorem dX0_countFree_24 : decode cX0_countFree 24 = .ok (.iinc 3 1, 3) := by decide +kernel
theorem dX0_countFree_27 : decode cX0_countFree 27 = .ok (.iinc 4 1, 3) := by decide +kernel
theorem dX0_countFree_30 : decode cX0_countFree 30 = .ok (.goto (-25), 3) := by decide +kernel
theorem dX0_countFree_33 : decode cX0_countFree 33 = .ok (.iload_n 3, 1) := by decide +kernel
theorem dX0_countFree_34 : decode cX0_countFree 34 = .ok (.ireturn, 1) := by decide +kernel
set_option maxRecDepth 20000 in
theorem ggX0_leastFree_X0_isFree : GoodIn wsX0_leastFree wsX0_isFree := goodIn_r _ [6, 7, 8, 9, 10, 11, 12, 13, 14, 15, 16] (by decide +kernel) (by decide +kernel)
set_option maxRecDepth 20000 in
theorem gX0_leastFree_X0_isFree : GoodIn wsX0_leastFree (wsV RX0 62 RX0 yX0_isFree wsX0_isFree) := goodIn_app (goodIn_of _ (by decide +kernel)) ggX0_leastFree_X0_isFree
theorem dX0_leastFree_0 : decode cX0_leastFree 0 = .ok (.iconst 0, 1) := by decide +kernel
theorem dX0_leastFree_1 : decode cX0_leastFree 1 = .ok (.istore_n 3, 1) := by decide +kernel
theorem dX0_leastFree_2 : decode cX0_leastFree 2 = .ok (.iload_n 3, 1) := by decide +kernel
theorem dX0_leastFree_3 : decode cX0_leastFree 3 = .ok (.aload_n 0, 1) := by decide +kernel
theorem dX0_leastFree_4 : decode cX0_leastFree 4 = .ok (.getfield 9, 3) := by decide +kernel
theorem dX0_leastFree_7 : decode cX0_leastFree 7 = .ok (.if_icmp .ge 20, 3) := by decide +kernel
theorem dX0_leastFree_10 : decode cX0_leastFree 10 = .ok (.aload_n 0, 1) := by decide +kernel
theorem dX0_leastFree_11 : decode cX0_leastFree 11 = .ok (.iload_n 3, 1) := by decide +kernel
theorem dX0_leastFree_12 : decode cX0_leastFree 12 = .ok (.lload_n 1, 1) := by decide +kernel
theorem dX0_leastFree_13 : decode cX0_leastFree 13 = .ok (.invokevirtual 62, 3) := by decide +kernel
theorem dX0_leastFree_16 : decode cX0_leastFree 16 = .ok (.ifCond .eq 5, 3) := by decide +kernel
theorem dX0_leastFree_19 : decode cX0_leastFree 19 = .ok (.iload_n 3, 1) := by decide +kernel
theorem dX0_leastFree_20 : decode cX0_leastFree 20 = .ok (.ireturn, 1) := by decide +kernel
theorem dX0_leastFree_21 : decode cX0_leastFree 21 = .ok (.iinc 3 1, 3) := by decide +kernel
theorem dX0_leastFree_24 : decode cX0_leastFree 24 = .ok (.goto (-22), 3) := by decide +kernel
theorem dX0_leastFree_27 : decode cX0_leastFree 27 = .ok (.iconst (-1), 1) := by decide +kernel
theorem dX0_leastFree_28 : decode cX0_leastFree 28 = .ok (.ireturn, 1) := by decide +kernel
set_option maxRecDepth 20000 in
theorem ggX0_countBehind_X0_leads : GoodIn wsX0_countBehind wsX0_leads := goodIn_r _ [6, 7, 8, 9, 10, 11, 12, 13, 14, 15] (by decide +kernel) (by decide +kernel)
set_option maxRecDepth 20000 in
theorem gX0_countBehind_X0_leads : GoodIn wsX0_countBehind (wsV RX0 66 RX0 yX0_leads wsX0_leads) := goodIn_app (goodIn_of _ (by decide +kernel)) ggX0_countBehind_X0_leads
theorem dX0_countBehind_0 : decode cX0_countBehind 0 = .ok (.iconst 0, 1) := by decide +kernel
theorem dX0_countBehind_1 : decode cX0_countBehind 1 = .ok (.istore_n 2, 1) := by decide +kernel
theorem dX0_countBehind_2 : decode cX0_countBehind 2 = .ok (.iconst 0, 1) := by decide +kernel
theorem dX0_countBehind_3 : decode cX0_countBehind 3 = .ok (.istore_n 3, 1) := by decide +kernel
theorem dX0_countBehind_4 : decode cX0_countBehind 4 = .ok (.iload_n 3, 1) := by decide +kernel
theorem dX0_countBehind_5 : decode cX0_countBehind 5 = .ok (.aload_n 0, 1) := by decide +kernel
theorem dX0_countBehind_6 : decode cX0_countBehind 6 = .ok (.getfield 9, 3) := by decide +kernel
theorem dX0_countBehind_9 : decode cX0_countBehind 9 = .ok (.if_icmp .ge 21, 3) := by decide +kernel
theorem dX0_countBehind_12 : decode cX0_countBehind 12 = .ok (.aload_n 0, 1) := by decide +kernel
theorem dX0_countBehind_13 : decode cX0_countBehind 13 = .ok (.iload_n 1, 1) := by decide +kernel
theorem dX0_countBehind_14 : decode cX0_countBehind 14 = .ok (.iload_n 3, 1) := by decide +kernel
theorem dX0_countBehind_15 : decode cX0_countBehind 15 = .ok (.invokevirtual 66, 3) := by decide +kernel
theorem dX0_countBehind_18 : decode cX0_countBehind 18 = .ok (.ifCond .eq 6, 3) := by decide +kernel
theorem dX0_countBehind_21 : decode cX0_countBehind 21 = .ok (.iinc 2 1, 3) := by decide +kernel
theorem dX0_countBehind_24 : decode cX0_countBehind 24 = .ok (.iinc 3 1, 3) := by decide +kernel
theorem dX0_countBehind_27 : decode cX0_countBehind 27 = .ok (.goto (-23), 3) := by decide +kernel
theorem dX0_countBehind_30 : decode cX0_countBehind 30 = .ok (.iload_n 2, 1) := by decide +kernel
theorem dX0_countBehind_31 : decode cX0_countBehind 31 = .ok (.ireturn, 1) := by decide +kernel
theorem dX0_longestChain_0 : decode cX0_longestChain 0 = .ok (.iconst 0, 1) := by decide +kernel
theorem dX0_longestChain_1 : decode cX0_longestChain 1 = .ok (.istore_n 1, 1) := by decide +kernel
theorem dX0_longestChain_2 : decode cX0_longestChain 2 = .ok (.iconst 0, 1) := by decide +kernel
theorem dX0_longestChain_3 : decode cX0_longestChain 3 = .ok (.istore_n 2, 1) := by decide +kernel
theorem dX0_longestChain_4 : decode cX0_longestChain 4 = .ok (.iload_n 2, 1) := by decide +kernel
theorem dX0_longestChain_5 : decode cX0_longestChain 5 = .ok (.aload_n 0, 1) := by decide +kernel
theorem dX0_longestChain_6 : decode cX0_longestChain 6 = .ok (.getfield 9, 3) := by decide +kernel
theorem dX0_longestChain_9 : decode cX0_longestChain 9 = .ok (.if_icmp .ge 22, 3) := by decide +kernel
theorem dX0_longestChain_12 : decode cX0_longestChain 12 = .ok (.iload_n 1, 1) := by decide +kernel
theorem dX0_longestChain_13 : decode cX0_longestChain 13 = .ok (.aload_n 0, 1) := by decide +kernel
theorem dX0_longestChain_14 : decode cX0_longestChain 14 = .ok (.getfield 28, 3) := by decide +kernel
theorem dX0_longestChain_17 : decode cX0_longestChain 17 = .ok (.iload_n 2, 1) := by decide +kernel
theorem dX0_longestChain_18 : decode cX0_longestChain 18 = .ok (.iaload, 1) := by decide +kernel
theorem dX0_longestChain_19 : decode cX0_longestChain 19 = .ok (.iconst 1, 1) := by decide +kernel
theorem dX0_longestChain_20 : decode cX0_longestChain 20 = .ok (.iadd, 1) := by decide +kernel
theorem dX0_longestChain_21 : decode cX0_longestChain 21 = .ok (.invokestatic 56, 3) := by decide +kernel
theorem dX0_longestChain_24 : decode cX0_longestChain 24 = .ok (.istore_n 1, 1) := by decide +kernel
theorem dX0_longestChain_25 : decode cX0_longestChain 25 = .ok (.iinc 2 1, 3) := by decide +kernel
theorem dX0_longestChain_28 : decode cX0_longestChain 28 = .ok (.goto (-24), 3) := by decide +kernel
theorem dX0_longestChain_31 : decode cX0_longestChain 31 = .ok (.iload_n 1, 1) := by decide +kernel
theorem dX0_longestChain_32 : decode cX0_longestChain 32 = .ok (.ireturn, 1) := by decide +kernel
set_option maxRecDepth 20000 in
theorem ggX0_widest_X0_widestLeftOf : GoodIn wsX0_widest wsX0_widestLeftOf := goodIn_r _ [12, 1, 2, 3, 4, 5, 6, 7, 13, 14, 15, 11, 16, 17, 18, 19, 20, 21, 22, 23, 24, 25] (by decide +kernel) (by decide +kernel)
set_option maxRecDepth 20000 in
theorem gX0_widest_X0_widestLeftOf : GoodIn wsX0_widest (wsV RX0 70 RX0 yX0_widestLeftOf wsX0_widestLeftOf) := goodIn_app (goodIn_of _ (by decide +kernel)) ggX0_widest_X0_widestLeftOf
theorem dX0_widest_0 : decode cX0_widest 0 = .ok (.iconst 0, 1) := by decide +kernel
theorem dX0_widest_1 : decode cX0_widest 1 = .ok (.istore_n 1, 1) := by decide +kernel
theorem dX0_widest_2 : decode cX0_widest 2 = .ok (.iconst 0, 1) := by decide +kernel
theorem dX0_widest_3 : decode cX0_widest 3 = .ok (.istore_n 2, 1) := by decide +kernel
theorem dX0_widest_4 : decode cX0_widest 4 = .ok (.iload_n 2, 1) := by decide +kernel
theorem dX0_widest_5 : decode cX0_widest 5 = .ok (.bipush 7, 2) := by decide +kernel
theorem dX0_widest_7 : decode cX0_widest 7 = .ok (.if_icmp .ge 59, 3) := by decide +kernel
theorem dX0_widest_10 : decode cX0_widest 10 = .ok (.iconst 0, 1) := by decide +kernel
theorem dX0_widest_11 : decode cX0_widest 11 = .ok (.istore_n 3, 1) := by decide +kernel
theorem dX0_widest_12 : decode cX0_widest 12 = .ok (.iload_n 3, 1) := by decide +kernel
theorem dX0_widest_13 : decode cX0_widest 13 = .ok (.aload_n 0, 1) := by decide +kernel
theorem dX0_widest_14 : decode cX0_widest 14 = .ok (.getfield 9, 3) := by decide +kernel
theorem dX0_widest_17 : decode cX0_widest 17 = .ok (.if_icmp .ge 43, 3) := by decide +kernel
theorem dX0_widest_20 : decode cX0_widest 20 = .ok (.aload_n 0, 1) := by decide +kernel
theorem dX0_widest_21 : decode cX0_widest 21 = .ok (.getfield 22, 3) := by decide +kernel
theorem dX0_widest_24 : decode cX0_widest 24 = .ok (.iload_n 3, 1) := by decide +kernel
theorem dX0_widest_25 : decode cX0_widest 25 = .ok (.iaload, 1) := by decide +kernel
theorem dX0_widest_26 : decode cX0_widest 26 = .ok (.iload_n 2, 1) := by decide +kernel
theorem dX0_widest_27 : decode cX0_widest 27 = .ok (.if_icmp .ne 27, 3) := by decide +kernel
theorem dX0_widest_30 : decode cX0_widest 30 = .ok (.aload_n 0, 1) := by decide +kernel
theorem dX0_widest_31 : decode cX0_widest 31 = .ok (.getfield 35, 3) := by decide +kernel
theorem dX0_widest_34 : decode cX0_widest 34 = .ok (.iload_n 3, 1) := by decide +kernel
theorem dX0_widest_35 : decode cX0_widest 35 = .ok (.iconst 1, 1) := by decide +kernel
theorem dX0_widest_36 : decode cX0_widest 36 = .ok (.aload_n 0, 1) := by decide +kernel
theorem dX0_widest_37 : decode cX0_widest 37 = .ok (.iload_n 3, 1) := by decide +kernel
theorem dX0_widest_38 : decode cX0_widest 38 = .ok (.invokevirtual 70, 3) := by decide +kernel
theorem dX0_widest_41 : decode cX0_widest 41 = .ok (.iadd, 1) := by decide +kernel
theorem dX0_widest_42 : decode cX0_widest 42 = .ok (.iastore, 1) := by decide +kernel
theorem dX0_widest_43 : decode cX0_widest 43 = .ok (.iload_n 1, 1) := by decide +kernel
theorem dX0_widest_44 : decode cX0_widest 44 = .ok (.aload_n 0, 1) := by decide +kernel
theorem dX0_widest_45 : decode cX0_widest 45 = .ok (.getfield 35, 3) := by decide +kernel
theorem dX0_widest_48 : decode cX0_widest 48 = .ok (.iload_n 3, 1) := by decide +kernel
theorem dX0_widest_49 : decode cX0_widest 49 = .ok (.iaload, 1) := by decide +kernel
theorem dX0_widest_50 : decode cX0_widest 50 = .ok (.invokestatic 56, 3) := by decide +kernel
theorem dX0_widest_53 : decode cX0_widest 53 = .ok (.istore_n 1, 1) := by decide +kernel
theorem dX0_widest_54 : decode cX0_widest 54 = .ok (.iinc 3 1, 3) := by decide +kernel
theorem dX0_widest_57 : decode cX0_widest 57 = .ok (.goto (-45), 3) := by decide +kernel
theorem dX0_widest_60 : decode cX0_widest 60 = .ok (.iinc 2 1, 3) := by decide +kernel
theorem dX0_widest_63 : decode cX0_widest 63 = .ok (.goto (-59), 3) := by decide +kernel
theorem dX0_widest_66 : decode cX0_widest 66 = .ok (.iload_n 1, 1) := by decide +kernel
theorem dX0_widest_67 : decode cX0_widest 67 = .ok (.ireturn, 1) := by decide +kernel
set_option maxRecDepth 20000 in
theorem ggX0_widestLeftOf_X0_leads : GoodIn wsX0_widestLeftOf wsX0_leads := goodIn_r _ [12, 13, 14, 15, 16, 17, 18, 19, 20, 21] (by decide +kernel) (by decide +kernel)
set_option maxRecDepth 20000 in
theorem gX0_widestLeftOf_X0_leads : GoodIn wsX0_widestLeftOf (wsV RX0 66 RX0 yX0_leads wsX0_leads) := goodIn_app (goodIn_of _ (by decide +kernel)) ggX0_widestLeftOf_X0_leads
theorem dX0_widestLeftOf_0 : decode cX0_widestLeftOf 0 = .ok (.iconst 0, 1) := by decide +kernel
theorem dX0_widestLeftOf_1 : decode cX0_widestLeftOf 1 = .ok (.istore_n 2, 1) := by decide +kernel
theorem dX0_widestLeftOf_2 : decode cX0_widestLeftOf 2 = .ok (.iconst 0, 1) := by decide +kernel
theorem dX0_widestLeftOf_3 : decode cX0_widestLeftOf 3 = .ok (.istore_n 3, 1) := by decide +kernel
theorem dX0_widestLeftOf_4 : decode cX0_widestLeftOf 4 = .ok (.iload_n 3, 1) := by decide +kernel
theorem dX0_widestLeftOf_5 : decode cX0_widestLeftOf 5 = .ok (.aload_n 0, 1) := by decide +kernel
theorem dX0_widestLeftOf_6 : decode cX0_widestLeftOf 6 = .ok (.getfield 9, 3) := by decide +kernel
theorem dX0_widestLeftOf_9 : decode cX0_widestLeftOf 9 = .ok (.if_icmp .ge 53, 3) := by decide +kernel
theorem dX0_widestLeftOf_12 : decode cX0_widestLeftOf 12 = .ok (.aload_n 0, 1) := by decide +kernel
theorem dX0_widestLeftOf_13 : decode cX0_widestLeftOf 13 = .ok (.getfield 22, 3) := by decide +kernel
theorem dX0_widestLeftOf_16 : decode cX0_widestLeftOf 16 = .ok (.iload_n 3, 1) := by decide +kernel
theorem dX0_widestLeftOf_17 : decode cX0_widestLeftOf 17 = .ok (.iaload, 1) := by decide +kernel
theorem dX0_widestLeftOf_18 : decode cX0_widestLeftOf 18 = .ok (.aload_n 0, 1) := by decide +kernel
theorem dX0_widestLeftOf_19 : decode cX0_widestLeftOf 19 = .ok (.getfield 22, 3) := by decide +kernel
theorem dX0_widestLeftOf_22 : decode cX0_widestLeftOf 22 = .ok (.iload_n 1, 1) := by decide +kernel
theorem dX0_widestLeftOf_23 : decode cX0_widestLeftOf 23 = .ok (.iaload, 1) := by decide +kernel
theorem dX0_widestLeftOf_24 : decode cX0_widestLeftOf 24 = .ok (.if_icmp .ge 32, 3) := by decide +kernel
theorem dX0_widestLeftOf_27 : decode cX0_widestLeftOf 27 = .ok (.aload_n 0, 1) := by decide +kernel
theorem dX0_widestLeftOf_28 : decode cX0_widestLeftOf 28 = .ok (.iload_n 1, 1) := by decide +kernel
theorem dX0_widestLeftOf_29 : decode cX0_widestLeftOf 29 = .ok (.iload_n 3, 1) := by decide +kernel
theorem dX0_widestLeftOf_30 : decode cX0_widestLeftOf 30 = .ok (.invokevirtual 66, 3) := by decide +kernel
theorem dX0_widestLeftOf_33 : decode cX0_widestLeftOf 33 = .ok (.ifCond .ne 23, 3) := by decide +kernel
theorem dX0_widestLeftOf_36 : decode cX0_widestLeftOf 36 = .ok (.aload_n 0, 1) := by decide +kernel
theorem dX0_widestLeftOf_37 : decode cX0_widestLeftOf 37 = .ok (.iload_n 3, 1) := by decide +kernel
theorem dX0_widestLeftOf_38 : decode cX0_widestLeftOf 38 = .ok (.iload_n 1, 1) := by decide +kernel
theorem dX0_widestLeftOf_39 : decode cX0_widestLeftOf 39 = .ok (.invokevirtual 66, 3) := by decide +kernel
theorem dX0_widestLeftOf_42 : decode cX0_widestLeftOf 42 = .ok (.ifCond .ne 14, 3) := by decide +kernel
theorem dX0_widestLeftOf_45 : decode cX0_widestLeftOf 45 = .ok (.iload_n 2, 1) := by decide +kernel
theorem dX0_widestLeftOf_46 : decode cX0_widestLeftOf 46 = .ok (.aload_n 0, 1) := by decide +kernel
theorem dX0_widestLeftOf_47 : decode cX0_widestLeftOf 47 = .ok (.getfield 35, 3) := by decide +kernel
theorem dX0_widestLeftOf_50 : decode cX0_widestLeftOf 50 = .ok (.iload_n 3, 1) := by decide +kernel
theorem dX0_widestLeftOf_51 : decode cX0_widestLeftOf 51 = .ok (.iaload, 1) := by decide +kernel
theorem dX0_widestLeftOf_52 : decode cX0_widestLeftOf 52 = .ok (.invokestatic 56, 3) := by decide +kernel
theorem dX0_widestLeftOf_55 : decode cX0_widestLeftOf 55 = .ok (.istore_n 2, 1) := by decide +kernel
theorem dX0_widestLeftOf_56 : decode cX0_widestLeftOf 56 = .ok (.iinc 3 1, 3) := by decide +kernel
theorem dX0_widestLeftOf_59 : decode cX0_widestLeftOf 59 = .ok (.goto (-55), 3) := by decide +kernel
theorem dX0_widestLeftOf_62 : decode cX0_widestLeftOf 62 = .ok (.iload_n 2, 1) := by decide +kernel
theorem dX0_widestLeftOf_63 : decode cX0_widestLeftOf 63 = .ok (.ireturn, 1) := by decide +kernel
set_option maxRecDepth 20000 in
theorem ggX1_init_J7_fill_53178 : GoodIn wsX1_init wsJ7_fill_53178 := goodIn_r _ [11] (by decide +kernel) (by decide +kernel)
set_option maxRecDepth 20000 in
theorem gX1_init_J7_fill_53178 : GoodIn wsX1_init (va_wsS RX1 22 yJ7_fill_53178 wsJ7_fill_53178) := goodIn_app (goodIn_of _ (by decide +kernel)) ggX1_init_J7_fill_53178
theorem dX1_init_0 : decode cX1_init 0 = .ok (.aload_n 0, 1) := by decide +kernel
theorem dX1_init_1 : decode cX1_init 1 = .ok (.invokespecial 3, 3) := by decide +kernel
theorem dX1_init_4 : decode cX1_init 4 = .ok (.aload_n 0, 1) := by decide +kernel
theorem dX1_init_5 : decode cX1_init 5 = .ok (.iconst 0, 1) := by decide +kernel
theorem dX1_init_6 : decode cX1_init 6 = .ok (.putfield 9, 3) := by decide +kernel
theorem dX1_init_9 : decode cX1_init 9 = .ok (.aload_n 0, 1) := by decide +kernel
theorem dX1_init_10 : decode cX1_init 10 = .ok (.sipush 1440, 3) := by decide +kernel
theorem dX1_init_13 : decode cX1_init 13 = .ok (.newarray .int, 2) := by decide +kernel
theorem dX1_init_15 : decode cX1_init 15 = .ok (.putfield 15, 3) := by decide +kernel
theorem dX1_init_18 : decode cX1_init 18 = .ok (.aload_n 0, 1) := by decide +kernel
theorem dX1_init_19 : decode cX1_init 19 = .ok (.bipush 17, 2) := by decide +kernel
theorem dX1_init_21 : decode cX1_init 21 = .ok (.newarray .int, 2) := by decide +kernel
theorem dX1_init_23 : decode cX1_init 23 = .ok (.putfield 19, 3) := by decide +kernel
theorem dX1_init_26 : decode cX1_init 26 = .ok (.aload_n 0, 1) := by decide +kernel
theorem dX1_init_27 : decode cX1_init 27 = .ok (.getfield 19, 3) := by decide +kernel
theorem dX1_init_30 : decode cX1_init 30 = .ok (.iconst (-1), 1) := by decide +kernel
theorem dX1_init_31 : decode cX1_init 31 = .ok (.invokestatic 22, 3) := by decide +kernel
theorem dX1_init_34 : decode cX1_init 34 = .ok (.return_, 1) := by decide +kernel
set_option maxRecDepth 20000 in
theorem ggX1_clear_J7_fill_53178 : GoodIn wsX1_clear wsJ7_fill_53178 := goodIn_r _ [7] (by decide +kernel) (by decide +kernel)
set_option maxRecDepth 20000 in
theorem gX1_clear_J7_fill_53178 : GoodIn wsX1_clear (va_wsS RX1 22 yJ7_fill_53178 wsJ7_fill_53178) := goodIn_app (goodIn_of _ (by decide +kernel)) ggX1_clear_J7_fill_53178
theorem dX1_clear_0 : decode cX1_clear 0 = .ok (.aload_n 0, 1) := by decide +kernel
theorem dX1_clear_1 : decode cX1_clear 1 = .ok (.iconst 0, 1) := by decide +kernel
theorem dX1_clear_2 : decode cX1_clear 2 = .ok (.putfield 9, 3) := by decide +kernel
theorem dX1_clear_5 : decode cX1_clear 5 = .ok (.aload_n 0, 1) := by decide +kernel
theorem dX1_clear_6 : decode cX1_clear 6 = .ok (.getfield 15, 3) := by decide +kernel
theorem dX1_clear_9 : decode cX1_clear 9 = .ok (.iconst 0, 1) := by decide +kernel
theorem dX1_clear_10 : decode cX1_clear 10 = .ok (.invokestatic 22, 3) := by decide +kernel
theorem dX1_clear_13 : decode cX1_clear 13 = .ok (.aload_n 0, 1) := by decide +kernel
theorem dX1_clear_14 : decode cX1_clear 14 = .ok (.getfield 19, 3) := by decide +kernel
theorem dX1_clear_17 : decode cX1_clear 17 = .ok (.iconst (-1), 1) := by decide +kernel
theorem dX1_clear_18 : decode cX1_clear 18 = .ok (.invokestatic 22, 3) := by decide +kernel
theorem dX1_clear_21 : decode cX1_clear 21 = .ok (.return_, 1) := by decide +kernel
theorem dX1_copyFrom_0 : decode cX1_copyFrom 0 = .ok (.aload_n 0, 1) := by decide +kernel
theorem dX1_copyFrom_1 : decode cX1_copyFrom 1 = .ok (.aload_n 1, 1) := by decide +kernel
theorem dX1_copyFrom_2 : decode cX1_copyFrom 2 = .ok (.getfield 9, 3) := by decide +kernel
theorem dX1_copyFrom_5 : decode cX1_copyFrom 5 = .ok (.putfield 9, 3) := by decide +kernel
theorem dX1_copyFrom_8 : decode cX1_copyFrom 8 = .ok (.aload_n 1, 1) := by decide +kernel
theorem dX1_copyFrom_9 : decode cX1_copyFrom 9 = .ok (.getfield 15, 3) := by decide +kernel
theorem dX1_copyFrom_12 : decode cX1_copyFrom 12 = .ok (.iconst 0, 1) := by decide +kernel
theorem dX1_copyFrom_13 : decode cX1_copyFrom 13 = .ok (.aload_n 0, 1) := by decide +kernel
theorem dX1_copyFrom_14 : decode cX1_copyFrom 14 = .ok (.getfield 15, 3) := by decide +kernel
theorem dX1_copyFrom_17 : decode cX1_copyFrom 17 = .ok (.iconst 0, 1) := by decide +kernel
theorem dX1_copyFrom_18 : decode cX1_copyFrom 18 = .ok (.sipush 1440, 3) := by decide +kernel
theorem dX1_copyFrom_21 : decode cX1_copyFrom 21 = .ok (.invokestatic 28, 3) := by decide +kernel
theorem dX1_copyFrom_24 : decode cX1_copyFrom 24 = .ok (.aload_n 1, 1) := by decide +kernel
theorem dX1_copyFrom_25 : decode cX1_copyFrom 25 = .ok (.getfield 19, 3) := by decide +kernel
theorem dX1_copyFrom_28 : decode cX1_copyFrom 28 = .ok (.iconst 0, 1) := by decide +kernel
theorem dX1_copyFrom_29 : decode cX1_copyFrom 29 = .ok (.aload_n 0, 1) := by decide +kernel
theorem dX1_copyFrom_30 : decode cX1_copyFrom 30 = .ok (.getfield 19, 3) := by decide +kernel
theorem dX1_copyFrom_33 : decode cX1_copyFrom 33 = .ok (.iconst 0, 1) := by decide +kernel
theorem dX1_copyFrom_34 : decode cX1_copyFrom 34 = .ok (.bipush 17, 2) := by decide +kernel
theorem dX1_copyFrom_36 : decode cX1_copyFrom 36 = .ok (.invokestatic 28, 3) := by decide +kernel
theorem dX1_copyFrom_39 : decode cX1_copyFrom 39 = .ok (.return_, 1) := by decide +kernel
set_option maxRecDepth 20000 in
theorem ggX1_add_X1_takeTop : GoodIn wsX1_add wsX1_takeTop := goodIn_r _ [12, 6, 7, 1, 13, 14, 15] (by decide +kernel) (by decide +kernel)
set_option maxRecDepth 20000 in
theorem gX1_add_X1_takeTop : GoodIn wsX1_add (wsV RX1 40 RX1 yX1_takeTop wsX1_takeTop) := goodIn_app (goodIn_of _ (by decide +kernel)) ggX1_add_X1_takeTop
theorem dX1_add_0 : decode cX1_add 0 = .ok (.aload_n 0, 1) := by decide +kernel
theorem dX1_add_1 : decode cX1_add 1 = .ok (.getfield 19, 3) := by decide +kernel
theorem dX1_add_4 : decode cX1_add 4 = .ok (.iload_n 1, 1) := by decide +kernel
theorem dX1_add_5 : decode cX1_add 5 = .ok (.iconst 1, 1) := by decide +kernel
theorem dX1_add_6 : decode cX1_add 6 = .ok (.iadd, 1) := by decide +kernel
theorem dX1_add_7 : decode cX1_add 7 = .ok (.iaload, 1) := by decide +kernel
theorem dX1_add_8 : decode cX1_add 8 = .ok (.istore_n 3, 1) := by decide +kernel
theorem dX1_add_9 : decode cX1_add 9 = .ok (.aload_n 0, 1) := by decide +kernel
theorem dX1_add_10 : decode cX1_add 10 = .ok (.getfield 19, 3) := by decide +kernel
theorem dX1_add_13 : decode cX1_add 13 = .ok (.iload_n 1, 1) := by decide +kernel
theorem dX1_add_14 : decode cX1_add 14 = .ok (.iaload, 1) := by decide +kernel
theorem dX1_add_15 : decode cX1_add 15 = .ok (.aload_n 0, 1) := by decide +kernel
theorem dX1_add_16 : decode cX1_add 16 = .ok (.getfield 19, 3) := by decide +kernel
theorem dX1_add_19 : decode cX1_add 19 = .ok (.iload_n 1, 1) := by decide +kernel
theorem dX1_add_20 : decode cX1_add 20 = .ok (.iconst 2, 1) := by decide +kernel
theorem dX1_add_21 : decode cX1_add 21 = .ok (.iadd, 1) := by decide +kernel
theorem dX1_add_22 : decode cX1_add 22 = .ok (.iaload, 1) := by decide +kernel
theorem dX1_add_23 : decode cX1_add 23 = .ok (.invokestatic 34, 3) := by decide +kernel
theorem dX1_add_26 : decode cX1_add 26 = .ok (.istore 4, 2) := by decide +kernel
theorem dX1_add_28 : decode cX1_add 28 = .ok (.iload_n 3, 1) := by decide +kernel
theorem dX1_add_29 : decode cX1_add 29 = .ok (.iload 4, 2) := by decide +kernel
theorem dX1_add_31 : decode cX1_add 31 = .ok (.if_icmp .le 25, 3) := by decide +kernel
theorem dX1_add_34 : decode cX1_add 34 = .ok (.aload_n 0, 1) := by decide +kernel
theorem dX1_add_35 : decode cX1_add 35 = .ok (.getfield 15, 3) := by decide +kernel
theorem dX1_add_38 : decode cX1_add 38 = .ok (.iload_n 3, 1) := by decide +kernel
theorem dX1_add_39 : decode cX1_add 39 = .ok (.bipush 15, 2) := by decide +kernel
theorem dX1_add_41 : decode cX1_add 41 = .ok (.imul, 1) := by decide +kernel
theorem dX1_add_42 : decode cX1_add 42 = .ok (.iload_n 1, 1) := by decide +kernel
theorem dX1_add_43 : decode cX1_add 43 = .ok (.iadd, 1) := by decide +kernel
theorem dX1_add_44 : decode cX1_add 44 = .ok (.iaload, 1) := by decide +kernel
theorem dX1_add_45 : decode cX1_add 45 = .ok (.iload_n 2, 1) := by decide +kernel
theorem dX1_add_46 : decode cX1_add 46 = .ok (.if_icmp .eq 10, 3) := by decide +kernel
theorem dX1_add_49 : decode cX1_add 49 = .ok (.aload_n 0, 1) := by decide +kernel
theorem dX1_add_50 : decode cX1_add 50 = .ok (.iload_n 1, 1) := by decide +kernel
theorem dX1_add_51 : decode cX1_add 51 = .ok (.iload_n 3, 1) := by decide +kernel
theorem dX1_add_52 : decode cX1_add 52 = .ok (.invokevirtual 40, 3) := by decide +kernel
theorem dX1_add_55 : decode cX1_add 55 = .ok (.return_, 1) := by decide +kernel
theorem dX1_add_56 : decode cX1_add 56 = .ok (.iload_n 3, 1) := by decide +kernel
theorem dX1_add_57 : decode cX1_add 57 = .ok (.iload 4, 2) := by decide +kernel
theorem dX1_add_59 : decode cX1_add 59 = .ok (.invokestatic 34, 3) := by decide +kernel
theorem dX1_add_62 : decode cX1_add 62 = .ok (.iconst 1, 1) := by decide +kernel
theorem dX1_add_63 : decode cX1_add 63 = .ok (.iadd, 1) := by decide +kernel
theorem dX1_add_64 : decode cX1_add 64 = .ok (.istore 5, 2) := by decide +kernel
theorem dX1_add_66 : decode cX1_add 66 = .ok (.iload 5, 2) := by decide +kernel
theorem dX1_add_68 : decode cX1_add 68 = .ok (.bipush 96, 2) := by decide +kernel
theorem dX1_add_70 : decode cX1_add 70 = .ok (.if_icmp .ge 36, 3) := by decide +kernel
theorem dX1_add_73 : decode cX1_add 73 = .ok (.aload_n 0, 1) := by decide +kernel
theorem dX1_add_74 : decode cX1_add 74 = .ok (.getfield 15, 3) := by decide +kernel
theorem dX1_add_77 : decode cX1_add 77 = .ok (.iload 5, 2) := by decide +kernel
theorem dX1_add_79 : decode cX1_add 79 = .ok (.bipush 15, 2) := by decide +kernel
theorem dX1_add_81 : decode cX1_add 81 = .ok (.imul, 1) := by decide +kernel
theorem dX1_add_82 : decode cX1_add 82 = .ok (.iload_n 1, 1) := by decide +kernel
theorem dX1_add_83 : decode cX1_add 83 = .ok (.iadd, 1) := by decide +kernel
theorem dX1_add_84 : decode cX1_add 84 = .ok (.iload_n 2, 1) := by decide +kernel
theorem dX1_add_85 : decode cX1_add 85 = .ok (.iastore, 1) := by decide +kernel
theorem dX1_add_86 : decode cX1_add 86 = .ok (.aload_n 0, 1) := by decide +kernel
theorem dX1_add_87 : decode cX1_add 87 = .ok (.getfield 19, 3) := by decide +kernel
theorem dX1_add_90 : decode cX1_add 90 = .ok (.iload_n 1, 1) := by decide +kernel
theorem dX1_add_91 : decode cX1_add 91 = .ok (.iconst 1, 1) := by decide +kernel
theorem dX1_add_92 : decode cX1_add 92 = .ok (.iadd, 1) := by decide +kernel
theorem dX1_add_93 : decode cX1_add 93 = .ok (.iload 5, 2) := by decide +kernel
theorem dX1_add_95 : decode cX1_add 95 = .ok (.iastore, 1) := by decide +kernel
theorem dX1_add_96 : decode cX1_add 96 = .ok (.aload_n 0, 1) := by decide +kernel
theorem dX1_add_97 : decode cX1_add 97 = .ok (.dup, 1) := by decide +kernel
theorem dX1_add_98 : decode cX1_add 98 = .ok (.getfield 9, 3) := by decide +kernel
theorem dX1_add_101 : decode cX1_add 101 = .ok (.iconst 1, 1) := by decide +kernel
theorem dX1_add_102 : decode cX1_add 102 = .ok (.iadd, 1) := by decide +kernel
theorem dX1_add_103 : decode cX1_add 103 = .ok (.putfield 9, 3) := by decide +kernel
theorem dX1_add_106 : decode cX1_add 106 = .ok (.return_, 1) := by decide +kernel
theorem dX1_takeTop_0 : decode cX1_takeTop 0 = .ok (.aload_n 0, 1) := by decide +kernel
theorem dX1_takeTop_1 : decode cX1_takeTop 1 = .ok (.getfield 15, 3) := by decide +kernel
theorem dX1_takeTop_4 : decode cX1_takeTop 4 = .ok (.iload_n 2, 1) := by decide +kernel
theorem dX1_takeTop_5 : decode cX1_takeTop 5 = .ok (.bipush 15, 2) := by decide +kernel
theorem dX1_takeTop_7 : decode cX1_takeTop 7 = .ok (.imul, 1) := by decide +kernel
theorem dX1_takeTop_8 : decode cX1_takeTop 8 = .ok (.iload_n 1, 1) := by decide +kernel
theorem dX1_takeTop_9 : decode cX1_takeTop 9 = .ok (.iadd, 1) := by decide +kernel
theorem dX1_takeTop_10 : decode cX1_takeTop 10 = .ok (.iconst 0, 1) := by decide +kernel
theorem dX1_takeTop_11 : decode cX1_takeTop 11 = .ok (.iastore, 1) := by decide +kernel
theorem dX1_takeTop_12 : decode cX1_takeTop 12 = .ok (.aload_n 0, 1) := by decide +kernel
theorem dX1_takeTop_13 : decode cX1_takeTop 13 = .ok (.dup, 1) := by decide +kernel
theorem dX1_takeTop_14 : decode cX1_takeTop 14 = .ok (.getfield 9, 3) := by decide +kernel
theorem dX1_takeTop_17 : decode cX1_takeTop 17 = .ok (.iconst 1, 1) := by decide +kernel
theorem dX1_takeTop_18 : decode cX1_takeTop 18 = .ok (.isub, 1) := by decide +kernel
theorem dX1_takeTop_19 : decode cX1_takeTop 19 = .ok (.putfield 9, 3) := by decide +kernel
theorem dX1_takeTop_22 : decode cX1_takeTop 22 = .ok (.iload_n 2, 1) := by decide +kernel
theorem dX1_takeTop_23 : decode cX1_takeTop 23 = .ok (.iconst 1, 1) := by decide +kernel
theorem dX1_takeTop_24 : decode cX1_takeTop 24 = .ok (.isub, 1) := by decide +kernel
theorem dX1_takeTop_25 : decode cX1_takeTop 25 = .ok (.istore_n 3, 1) := by decide +kernel
theorem dX1_takeTop_26 : decode cX1_takeTop 26 = .ok (.iload_n 3, 1) := by decide +kernel
theorem dX1_takeTop_27 : decode cX1_takeTop 27 = .ok (.ifCond .lt 23, 3) := by decide +kernel
theorem dX1_takeTop_30 : decode cX1_takeTop 30 = .ok (.aload_n 0, 1) := by decide +kernel
theorem dX1_takeTop_31 : decode cX1_takeTop 31 = .ok (.getfield 15, 3) := by decide +kernel
theorem dX1_takeTop_34 : decode cX1_takeTop 34 = .ok (.iload_n 3, 1) := by decide +kernel
theorem dX1_takeTop_35 : decode cX1_takeTop 35 = .ok (.bipush 15, 2) := by decide +kernel
theorem dX1_takeTop_37 : decode cX1_takeTop 37 = .ok (.imul, 1) := by decide +kernel
theorem dX1_takeTop_38 : decode cX1_takeTop 38 = .ok (.iload_n 1, 1) := by decide +kernel
theorem dX1_takeTop_39 : decode cX1_takeTop 39 = .ok (.iadd, 1) := by decide +kernel
theorem dX1_takeTop_40 : decode cX1_takeTop 40 = .ok (.iaload, 1) := by decide +kernel
theorem dX1_takeTop_41 : decode cX1_takeTop 41 = .ok (.ifCond .ne 9, 3) := by decide +kernel
theorem dX1_takeTop_44 : decode cX1_takeTop 44 = .ok (.iinc 3 (-1), 3) := by decide +kernel
theorem dX1_takeTop_47 : decode cX1_takeTop 47 = .ok (.goto (-21), 3) := by decide +kernel
theorem dX1_takeTop_50 : decode cX1_takeTop 50 = .ok (.aload_n 0, 1) := by decide +kernel
theorem dX1_takeTop_51 : decode cX1_takeTop 51 = .ok (.getfield 19, 3) := by decide +kernel
theorem dX1_takeTop_54 : decode cX1_takeTop 54 = .ok (.iload_n 1, 1) := by decide +kernel
theorem dX1_takeTop_55 : decode cX1_takeTop 55 = .ok (.iconst 1, 1) := by decide +kernel
theorem dX1_takeTop_56 : decode cX1_takeTop 56 = .ok (.iadd, 1) := by decide +kernel
theorem dX1_takeTop_57 : decode cX1_takeTop 57 = .ok (.iload_n 3, 1) := by decide +kernel
theorem dX1_takeTop_58 : decode cX1_takeTop 58 = .ok (.iastore, 1) := by decide +kernel
theorem dX1_takeTop_59 : decode cX1_takeTop 59 = .ok (.return_, 1) := by decide +kernel
theorem dX1_signAt_0 : decode cX1_signAt 0 = .ok (.iload_n 1, 1) := by decide +kernel
theorem dX1_signAt_1 : decode cX1_signAt 1 = .ok (.bipush 96, 2) := by decide +kernel
theorem dX1_signAt_3 : decode cX1_signAt 3 = .ok (.if_icmp .ge 17, 3) := by decide +kernel
theorem dX1_signAt_6 : decode cX1_signAt 6 = .ok (.aload_n 0, 1) := by decide +kernel
theorem dX1_signAt_7 : decode cX1_signAt 7 = .ok (.getfield 15, 3) := by decide +kernel
theorem dX1_signAt_10 : decode cX1_signAt 10 = .ok (.iload_n 1, 1) := by decide +kernel
theorem dX1_signAt_11 : decode cX1_signAt 11 = .ok (.bipush 15, 2) := by decide +kernel
theorem dX1_signAt_13 : decode cX1_signAt 13 = .ok (.imul, 1) := by decide +kernel
theorem dX1_signAt_14 : decode cX1_signAt 14 = .ok (.iload_n 2, 1) := by decide +kernel
theorem dX1_signAt_15 : decode cX1_signAt 15 = .ok (.iadd, 1) := by decide +kernel
theorem dX1_signAt_16 : decode cX1_signAt 16 = .ok (.iaload, 1) := by decide +kernel
theorem dX1_signAt_17 : decode cX1_signAt 17 = .ok (.goto 4, 3) := by decide +kernel
theorem dX1_signAt_20 : decode cX1_signAt 20 = .ok (.iconst 0, 1) := by decide +kernel
theorem dX1_signAt_21 : decode cX1_signAt 21 = .ok (.ireturn, 1) := by decide +kernel
theorem dX1_countLayers_0 : decode cX1_countLayers 0 = .ok (.iconst 0, 1) := by decide +kernel
theorem dX1_countLayers_1 : decode cX1_countLayers 1 = .ok (.istore_n 1, 1) := by decide +kernel
theorem dX1_countLayers_2 : decode cX1_countLayers 2 = .ok (.iconst 0, 1) := by decide +kernel
theorem dX1_countLayers_3 : decode cX1_countLayers 3 = .ok (.istore_n 2, 1) := by decide +kernel
theorem dX1_countLayers_4 : decode cX1_countLayers 4 = .ok (.iload_n 2, 1) := by decide +kernel
theorem dX1_countLayers_5 : decode cX1_countLayers 5 = .ok (.bipush 15, 2) := by decide +kernel
theorem dX1_countLayers_7 : decode cX1_countLayers 7 = .ok (.if_icmp .ge 24, 3) := by decide +kernel
theorem dX1_countLayers_10 : decode cX1_countLayers 10 = .ok (.iload_n 1, 1) := by decide +kernel
theorem dX1_countLayers_11 : decode cX1_countLayers 11 = .ok (.aload_n 0, 1) := by decide +kernel
theorem dX1_countLayers_12 : decode cX1_countLayers 12 = .ok (.getfield 19, 3) := by decide +kernel
theorem dX1_countLayers_15 : decode cX1_countLayers 15 = .ok (.iload_n 2, 1) := by decide +kernel
theorem dX1_countLayers_16 : decode cX1_countLayers 16 = .ok (.iconst 1, 1) := by decide +kernel
theorem dX1_countLayers_17 : decode cX1_countLayers 17 = .ok (.iadd, 1) := by decide +kernel
theorem dX1_countLayers_18 : decode cX1_countLayers 18 = .ok (.iaload, 1) := by decide +kernel
theorem dX1_countLayers_19 : decode cX1_countLayers 19 = .ok (.iconst 1, 1) := by decide +kernel
theorem dX1_countLayers_20 : decode cX1_countLayers 20 = .ok (.iadd, 1) := by decide +kernel
theorem dX1_countLayers_21 : decode cX1_countLayers 21 = .ok (.invokestatic 34, 3) := by decide +kernel
theorem dX1_countLayers_24 : decode cX1_countLayers 24 = .ok (.istore_n 1, 1) := by decide +kernel
theorem dX1_countLayers_25 : decode cX1_countLayers 25 = .ok (.iinc 2 1, 3) := by decide +kernel
theorem dX1_countLayers_28 : decode cX1_countLayers 28 = .ok (.goto (-24), 3) := by decide +kernel
theorem dX1_countLayers_31 : decode cX1_countLayers 31 = .ok (.iload_n 1, 1) := by decide +kernel
theorem dX1_countLayers_32 : decode cX1_countLayers 32 = .ok (.ireturn, 1) := by decide +kernel
theorem dX1_countSign_0 : decode cX1_countSign 0 = .ok (.iconst 0, 1) := by decide +kernel
theorem dX1_countSign_1 : decode cX1_countSign 1 = .ok (.istore_n 2, 1) := by decide +kernel
theorem dX1_countSign_2 : decode cX1_countSign 2 = .ok (.iconst 0, 1) := by decide +kernel
theorem dX1_countSign_3 : decode cX1_countSign 3 = .ok (.istore_n 3, 1) := by decide +kernel
theorem dX1_countSign_4 : decode cX1_countSign 4 = .ok (.iload_n 3, 1) := by decide +kernel
theorem dX1_countSign_5 : decode cX1_countSign 5 = .ok (.sipush 1440, 3) := by decide +kernel
theorem dX1_countSign_8 : decode cX1_countSign 8 = .ok (.if_icmp .ge 22, 3) := by decide +kernel
theorem dX1_countSign_11 : decode cX1_countSign 11 = .ok (.aload_n 0, 1) := by decide +kernel
theorem dX1_countSign_12 : decode cX1_countSign 12 = .ok (.getfield 15, 3) := by decide +kernel
theorem dX1_countSign_15 : decode cX1_countSign 15 = .ok (.iload_n 3, 1) := by decide +kernel
theorem dX1_countSign_16 : decode cX1_countSign 16 = .ok (.iaload, 1) := by decide +kernel
theorem dX1_countSign_17 : decode cX1_countSign 17 = .ok (.iload_n 1, 1) := by decide +kernel
theorem dX1_countSign_18 : decode cX1_countSign 18 = .ok (.if_icmp .ne 6, 3) := by decide +kernel
theorem dX1_countSign_21 : decode cX1_countSign 21 = .ok (.iinc 2 1, 3) := by decide +kernel
theorem dX1_countSign_24 : decode cX1_countSign 24 = .ok (.iinc 3 1, 3) := by decide +kernel
theorem dX1_countSign_27 : decode cX1_countSign 27 = .ok (.goto (-23), 3) := by decide +kernel
theorem dX1_countSign_30 : decode cX1_countSign 30 = .ok (.iload_n 2, 1) := by decide +kernel
theorem dX1_countSign_31 : decode cX1_countSign 31 = .ok (.ireturn, 1) := by decide +kernel
theorem dX1_isAs_0 : decode cX1_isAs 0 = .ok (.iconst 0, 1) := by decide +kernel
theorem dX1_isAs_1 : decode cX1_isAs 1 = .ok (.istore_n 2, 1) := by decide +kernel
theorem dX1_isAs_2 : decode cX1_isAs 2 = .ok (.iload_n 2, 1) := by decide +kernel
theorem dX1_isAs_3 : decode cX1_isAs 3 = .ok (.sipush 1440, 3) := by decide +kernel
theorem dX1_isAs_6 : decode cX1_isAs 6 = .ok (.if_icmp .ge 26, 3) := by decide +kernel
theorem dX1_isAs_9 : decode cX1_isAs 9 = .ok (.aload_n 0, 1) := by decide +kernel
theorem dX1_isAs_10 : decode cX1_isAs 10 = .ok (.getfield 15, 3) := by decide +kernel
theorem dX1_isAs_13 : decode cX1_isAs 13 = .ok (.iload_n 2, 1) := by decide +kernel
theorem dX1_isAs_14 : decode cX1_isAs 14 = .ok (.iaload, 1) := by decide +kernel
theorem dX1_isAs_15 : decode cX1_isAs 15 = .ok (.aload_n 1, 1) := by decide +kernel
theorem dX1_isAs_16 : decode cX1_isAs 16 = .ok (.getfield 15, 3) := by decide +kernel
theorem dX1_isAs_19 : decode cX1_isAs 19 = .ok (.iload_n 2, 1) := by decide +kernel
theorem dX1_isAs_20 : decode cX1_isAs 20 = .ok (.iaload, 1) := by decide +kernel
theorem dX1_isAs_21 : decode cX1_isAs 21 = .ok (.if_icmp .eq 5, 3) := by decide +kernel
theorem dX1_isAs_24 : decode cX1_isAs 24 = .ok (.iconst 0, 1) := by decide +kernel
theorem dX1_isAs_25 : decode cX1_isAs 25 = .ok (.ireturn, 1) := by decide +kernel
theorem dX1_isAs_26 : decode cX1_isAs 26 = .ok (.iinc 2 1, 3) := by decide +kernel
theorem dX1_isAs_29 : decode cX1_isAs 29 = .ok (.goto (-27), 3) := by decide +kernel
theorem dX1_isAs_32 : decode cX1_isAs 32 = .ok (.iconst 1, 1) := by decide +kernel
theorem dX1_isAs_33 : decode cX1_isAs 33 = .ok (.ireturn, 1) := by decide +kernel
set_option maxRecDepth 20000 in
theorem ggX2_init_J7_fill_53178 : GoodIn wsX2_init wsJ7_fill_53178 := goodIn_r _ [15] (by decide +kernel) (by decide +kernel)
set_option maxRecDepth 20000 in
theorem gX2_init_J7_fill_53178 : GoodIn wsX2_init (va_wsS RX2 34 yJ7_fill_53178 wsJ7_fill_53178) := goodIn_app (goodIn_of _ (by decide +kernel)) ggX2_init_J7_fill_53178
set_option maxRecDepth 20000 in
theorem ggX2_init_X2_firstWord : GoodIn wsX2_init wsX2_firstWord := goodIn_r _ [19] (by decide +kernel) (by decide +kernel)
set_option maxRecDepth 20000 in
theorem gX2_init_X2_firstWord : GoodIn wsX2_init (va_wsS RX2 40 yX2_firstWord wsX2_firstWord) := goodIn_app (goodIn_of _ (by decide +kernel)) ggX2_init_X2_firstWord
set_option maxRecDepth 20000 in
theorem ggX2_init_J0_length_8abf5 : GoodIn wsX2_init wsJ0_length_8abf5 := goodIn_r _ [24, 25, 26, 27, 28, 23, 29, 30, 31] (by decide +kernel) (by decide +kernel)
set_option maxRecDepth 20000 in
theorem gX2_init_J0_length_8abf5 : GoodIn wsX2_init (wsV RX2 44 RJ0 yJ0_length_8abf5 wsJ0_length_8abf5) := goodIn_app (goodIn_of _ (by decide +kernel)) ggX2_init_J0_length_8abf5
set_option maxRecDepth 20000 in
theorem ggX2_init_J0_charAt_5068e : GoodIn wsX2_init wsJ0_charAt_5068e := goodIn_r _ [35, 25, 36, 37, 38, 23, 39, 30, 31, 40, 41, 42, 43, 44, 45, 46, 47, 48, 49, 50, 51, 52, 53, 54, 55, 56, 57, 58, 59, 60, 61, 62, 63, 64, 65, 66, 67, 68] (by decide +kernel) (by decide +kernel)
set_option maxRecDepth 20000 in
theorem gX2_init_J0_charAt_5068e : GoodIn wsX2_init (wsV RX2 50 RJ0 yJ0_charAt_5068e wsJ0_charAt_5068e) := goodIn_app (goodIn_of _ (by decide +kernel)) ggX2_init_J0_charAt_5068e
theorem dX2_init_0 : decode cX2_init 0 = .ok (.aload_n 0, 1) := by decide +kernel
theorem dX2_init_1 : decode cX2_init 1 = .ok (.invokespecial 3, 3) := by decide +kernel
theorem dX2_init_4 : decode cX2_init 4 = .ok (.aload_n 0, 1) := by decide +kernel
theorem dX2_init_5 : decode cX2_init 5 = .ok (.iconst 4, 1) := by decide +kernel
theorem dX2_init_6 : decode cX2_init 6 = .ok (.putfield 9, 3) := by decide +kernel
theorem dX2_init_9 : decode cX2_init 9 = .ok (.aload_n 0, 1) := by decide +kernel
theorem dX2_init_10 : decode cX2_init 10 = .ok (.bipush 84, 2) := by decide +kernel
theorem dX2_init_12 : decode cX2_init 12 = .ok (.newarray .int, 2) := by decide +kernel
theorem dX2_init_14 : decode cX2_init 14 = .ok (.putfield 15, 3) := by decide +kernel
theorem dX2_init_17 : decode cX2_init 17 = .ok (.aload_n 0, 1) := by decide +kernel
theorem dX2_init_18 : decode cX2_init 18 = .ok (.bipush 48, 2) := by decide +kernel
theorem dX2_init_20 : decode cX2_init 20 = .ok (.newarray .int, 2) := by decide +kernel
theorem dX2_init_22 : decode cX2_init 22 = .ok (.putfield 19, 3) := by decide +kernel
theorem dX2_init_25 : decode cX2_init 25 = .ok (.aload_n 0, 1) := by decide +kernel
theorem dX2_init_26 : decode cX2_init 26 = .ok (.bipush 6, 2) := by decide +kernel
theorem dX2_init_28 : decode cX2_init 28 = .ok (.newarray .int, 2) := by decide +kernel
theorem dX2_init_30 : decode cX2_init 30 = .ok (.putfield 22, 3) := by decide +kernel
theorem dX2_init_33 : decode cX2_init 33 = .ok (.aload_n 0, 1) := by decide +kernel
theorem dX2_init_34 : decode cX2_init 34 = .ok (.bipush 16, 2) := by decide +kernel
theorem dX2_init_36 : decode cX2_init 36 = .ok (.newarray .int, 2) := by decide +kernel
theorem dX2_init_38 : decode cX2_init 38 = .ok (.putfield 25, 3) := by decide +kernel
theorem dX2_init_41 : decode cX2_init 41 = .ok (.aload_n 0, 1) := by decide +kernel
theorem dX2_init_42 : decode cX2_init 42 = .ok (.bipush 48, 2) := by decide +kernel
theorem dX2_init_44 : decode cX2_init 44 = .ok (.newarray .int, 2) := by decide +kernel
theorem dX2_init_46 : decode cX2_init 46 = .ok (.putfield 28, 3) := by decide +kernel
theorem dX2_init_49 : decode cX2_init 49 = .ok (.aload_n 0, 1) := by decide +kernel
theorem dX2_init_50 : decode cX2_init 50 = .ok (.iconst 0, 1) := by decide +kernel
theorem dX2_init_51 : decode cX2_init 51 = .ok (.putfield 31, 3) := by decide +kernel
theorem dX2_init_54 : decode cX2_init 54 = .ok (.aload_n 0, 1) := by decide +kernel
theorem dX2_init_55 : decode cX2_init 55 = .ok (.getfield 15, 3) := by decide +kernel
theorem dX2_init_58 : decode cX2_init 58 = .ok (.iconst (-1), 1) := by decide +kernel
theorem dX2_init_59 : decode cX2_init 59 = .ok (.invokestatic 34, 3) := by decide +kernel
theorem dX2_init_62 : decode cX2_init 62 = .ok (.aload_n 0, 1) := by decide +kernel
theorem dX2_init_63 : decode cX2_init 63 = .ok (.getfield 25, 3) := by decide +kernel
theorem dX2_init_66 : decode cX2_init 66 = .ok (.sipush 200, 3) := by decide +kernel
theorem dX2_init_69 : decode cX2_init 69 = .ok (.invokestatic 34, 3) := by decide +kernel
theorem dX2_init_72 : decode cX2_init 72 = .ok (.iconst 0, 1) := by decide +kernel
theorem dX2_init_73 : decode cX2_init 73 = .ok (.istore_n 1, 1) := by decide +kernel
theorem dX2_init_74 : decode cX2_init 74 = .ok (.iload_n 1, 1) := by decide +kernel
theorem dX2_init_75 : decode cX2_init 75 = .ok (.bipush 6, 2) := by decide +kernel
theorem dX2_init_77 : decode cX2_init 77 = .ok (.if_icmp .ge 56, 3) := by decide +kernel
theorem dX2_init_80 : decode cX2_init 80 = .ok (.iload_n 1, 1) := by decide +kernel
theorem dX2_init_81 : decode cX2_init 81 = .ok (.invokestatic 40, 3) := by decide +kernel
theorem dX2_init_84 : decode cX2_init 84 = .ok (.astore_n 2, 1) := by decide +kernel
theorem dX2_init_85 : decode cX2_init 85 = .ok (.aload_n 0, 1) := by decide +kernel
theorem dX2_init_86 : decode cX2_init 86 = .ok (.getfield 22, 3) := by decide +kernel
theorem dX2_init_89 : decode cX2_init 89 = .ok (.iload_n 1, 1) := by decide +kernel
theorem dX2_init_90 : decode cX2_init 90 = .ok (.aload_n 2, 1) := by decide +kernel
theorem dX2_init_91 : decode cX2_init 91 = .ok (.invokevirtual 44, 3) := by decide +kernel
theorem dX2_init_94 : decode cX2_init 94 = .ok (.iastore, 1) := by decide +kernel
theorem dX2_init_95 : decode cX2_init 95 = .ok (.iconst 0, 1) := by decide +kernel
theorem dX2_init_96 : decode cX2_init 96 = .ok (.istore_n 3, 1) := by decide +kernel
theorem dX2_init_97 : decode cX2_init 97 = .ok (.iload_n 3, 1) := by decide +kernel
theorem dX2_init_98 : decode cX2_init 98 = .ok (.aload_n 2, 1) := by decide +kernel
theorem dX2_init_99 : decode cX2_init 99 = .ok (.invokevirtual 44, 3) := by decide +kernel
theorem dX2_init_102 : decode cX2_init 102 = .ok (.if_icmp .ge 25, 3) := by decide +kernel
theorem dX2_init_105 : decode cX2_init 105 = .ok (.aload_n 0, 1) := by decide +kernel
theorem dX2_init_106 : decode cX2_init 106 = .ok (.getfield 19, 3) := by decide +kernel
theorem dX2_init_109 : decode cX2_init 109 = .ok (.iload_n 1, 1) := by decide +kernel
theorem dX2_init_110 : decode cX2_init 110 = .ok (.bipush 8, 2) := by decide +kernel
theorem dX2_init_112 : decode cX2_init 112 = .ok (.imul, 1) := by decide +kernel
theorem dX2_init_113 : decode cX2_init 113 = .ok (.iload_n 3, 1) := by decide +kernel
theorem dX2_init_114 : decode cX2_init 114 = .ok (.iadd, 1) := by decide +kernel
theorem dX2_init_115 : decode cX2_init 115 = .ok (.aload_n 2, 1) := by decide +kernel
theorem dX2_init_116 : decode cX2_init 116 = .ok (.iload_n 3, 1) := by decide +kernel
theorem dX2_init_117 : decode cX2_init 117 = .ok (.invokevirtual 50, 3) := by decide +kernel
theorem dX2_init_120 : decode cX2_init 120 = .ok (.iastore, 1) := by decide +kernel
theorem dX2_init_121 : decode cX2_init 121 = .ok (.iinc 3 1, 3) := by decide +kernel
theorem dX2_init_124 : decode cX2_init 124 = .ok (.goto (-27), 3) := by decide +kernel
theorem dX2_init_127 : decode cX2_init 127 = .ok (.iinc 1 1, 3) := by decide +kernel
theorem dX2_init_130 : decode cX2_init 130 = .ok (.goto (-56), 3) := by decide +kernel
theorem dX2_init_133 : decode cX2_init 133 = .ok (.return_, 1) := by decide +kernel
theorem dX2_firstWord_0 : decode cX2_firstWord 0 = .ok (.iload_n 0, 1) := by decide +kernel
theorem dX2_firstWord_1 : decode cX2_firstWord 1 = .ok (.tableswitch 50 0 4 #[35, 38, 41, 44, 47], 35) := by decide +kernel
theorem dX2_firstWord_36 : decode cX2_firstWord 36 = .ok (.ldc 54, 2) := by decide +kernel
theorem dX2_firstWord_38 : decode cX2_firstWord 38 = .ok (.areturn, 1) := by decide +kernel
theorem dX2_firstWord_39 : decode cX2_firstWord 39 = .ok (.ldc 56, 2) := by decide +kernel
theorem dX2_firstWord_41 : decode cX2_firstWord 41 = .ok (.areturn, 1) := by decide +kernel
theorem dX2_firstWord_42 : decode cX2_firstWord 42 = .ok (.ldc 58, 2) := by decide +kernel
theorem dX2_firstWord_44 : decode cX2_firstWord 44 = .ok (.areturn, 1) := by decide +kernel
theorem dX2_firstWord_45 : decode cX2_firstWord 45 = .ok (.ldc 60, 2) := by decide +kernel
theorem dX2_firstWord_47 : decode cX2_firstWord 47 = .ok (.areturn, 1) := by decide +kernel
theorem dX2_firstWord_48 : decode cX2_firstWord 48 = .ok (.ldc 62, 2) := by decide +kernel
theorem dX2_firstWord_50 : decode cX2_firstWord 50 = .ok (.areturn, 1) := by decide +kernel
theorem dX2_firstWord_51 : decode cX2_firstWord 51 = .ok (.ldc 64, 2) := by decide +kernel
theorem dX2_firstWord_53 : decode cX2_firstWord 53 = .ok (.areturn, 1) := by decide +kernel
theorem dX2_copyFrom_0 : decode cX2_copyFrom 0 = .ok (.aload_n 0, 1) := by decide +kernel
theorem dX2_copyFrom_1 : decode cX2_copyFrom 1 = .ok (.aload_n 1, 1) := by decide +kernel
theorem dX2_copyFrom_2 : decode cX2_copyFrom 2 = .ok (.getfield 9, 3) := by decide +kernel
theorem dX2_copyFrom_5 : decode cX2_copyFrom 5 = .ok (.putfield 9, 3) := by decide +kernel
theorem dX2_copyFrom_8 : decode cX2_copyFrom 8 = .ok (.aload_n 1, 1) := by decide +kernel
theorem dX2_copyFrom_9 : decode cX2_copyFrom 9 = .ok (.getfield 15, 3) := by decide +kernel
theorem dX2_copyFrom_12 : decode cX2_copyFrom 12 = .ok (.iconst 0, 1) := by decide +kernel
