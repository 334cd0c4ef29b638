def RL : String := "LacePillowLaw"
abbrev cL_law : ByteArray := code
def yL_law : MethodName := ⟨RL, "law", "([I)Z"⟩
def wsL_law_r1 : List Cond := [Cond.classLink RL 7 RX7, Cond.instantiable RX7 13, Cond.initialized RX7, Cond.classLink RL 10 RX8, Cond.instantiable RX8 33, Cond.initialized RX8, Cond.constantLong RL 66 (4294967295), Cond.methodLink RL 9 yX7_init, Cond.instanceMethod yX7_init, Cond.code yX7_init cX7_init 2 none, Cond.methodLink RX7 3 objectInit, Cond.instanceMethod objectInit, Cond.code objectInit ⟨#[0xb1]⟩ 1 none, Cond.classLink RX7 9 RX2, Cond.instantiable RX2 7, Cond.initialized RX2, Cond.fieldLink RX7 12 "LacePillow" "plan" "LLacePillow$Plan;", Cond.fieldLink RX7 16 "LacePillow" "kept" "LLacePillow$Plan;", Cond.classLink RX7 19 RX1, Cond.instantiable RX1 3, Cond.initialized RX1, Cond.fieldLink RX7 22 "LacePillow" "keptHeap" "LLacePillow$Heap;", Cond.fieldLink RX7 26 "LacePillow" "imaged" "Z", Cond.classLink RX7 30 RX0]
def wsL_law_r2 : List Cond := [Cond.instantiable RX0 8, Cond.initialized RX0, Cond.fieldLink RX7 33 "LacePillow" "ground" "LLacePillow$Ground;", Cond.classLink RX7 37 RX5, Cond.instantiable RX5 6, Cond.initialized RX5, Cond.fieldLink RX7 40 "LacePillow" "ways" "LLacePillow$Ways;", Cond.classLink RX7 44 RX6, Cond.instantiable RX6 10, Cond.initialized RX6, Cond.fieldLink RX7 47 "LacePillow" "done" "LLacePillow$Weave;", Cond.fieldLink RX7 51 "LacePillow" "thought" "LLacePillow$Weave;", Cond.fieldLink RX7 54 "LacePillow" "thoughtStitches" "I", Cond.fieldLink RX7 58 "LacePillow" "workedBits" "J", Cond.classLink RX7 62 RX4, Cond.instantiable RX4 2, Cond.initialized RX4, Cond.fieldLink RX7 65 "LacePillow" "tape" "LLacePillow$Tape;", Cond.classLink RX7 69 RX3, Cond.fieldLink RX7 71 "LacePillow" "sheets" "[LLacePillow$Sheet;", Cond.arrayClass .int, Cond.fieldLink RX7 75 "LacePillow" "errors" "[I", Cond.instantiable RX3 3, Cond.initialized RX3]
def wsL_law_r3 : List Cond := [Cond.methodLink RX7 11 yX2_init, Cond.instanceMethod yX2_init, Cond.code yX2_init cX2_init 4 none, Cond.methodLink RX2 3 objectInit, Cond.fieldLink RX2 9 "LacePillow$Plan" "pairs" "I", Cond.fieldLink RX2 15 "LacePillow$Plan" "cells" "[I", Cond.fieldLink RX2 19 "LacePillow$Plan" "letters" "[I", Cond.fieldLink RX2 22 "LacePillow$Plan" "lengths" "[I", Cond.fieldLink RX2 25 "LacePillow$Plan" "wound" "[I", Cond.fieldLink RX2 28 "LacePillow$Plan" "work" "[I", Cond.fieldLink RX2 31 "LacePillow$Plan" "worked" "I", Cond.methodLink RX2 34 yJ7_fill_53178, Cond.static yJ7_fill_53178, Cond.initialized RJ7, Cond.code yJ7_fill_53178 cJ7_fill_53178 4 none, Cond.methodLink RX2 40 yX2_firstWord, Cond.static yX2_firstWord, Cond.code yX2_firstWord cX2_firstWord 1 (some (.object "java/lang/String")), Cond.methodLink RX2 44 yJ0_length_8abf5, Cond.instanceMethod yJ0_length_8abf5, Cond.selects RJ0 yJ0_length_8abf5 yJ0_length_8abf5, Cond.initialized RJ0, Cond.code yJ0_length_8abf5 cJ0_length_8abf5 1 (some .int), Cond.fieldLink RJ0 9 "java/lang/String" "value" "[B"]
def wsL_law_r4 : List Cond := [Cond.methodLink RJ0 335 yJ0_coder_7d493, Cond.instanceMethod yJ0_coder_7d493, Cond.selects RJ0 yJ0_coder_7d493 yJ0_coder_7d493, Cond.code yJ0_coder_7d493 cJ0_coder_7d493 1 (some .byte), Cond.fieldLink RJ0 38 "java/lang/String" "COMPACT_STRINGS" "Z", Cond.fieldLink RJ0 15 "java/lang/String" "coder" "B", Cond.methodLink RX2 50 yJ0_charAt_5068e, Cond.instanceMethod yJ0_charAt_5068e, Cond.selects RJ0 yJ0_charAt_5068e yJ0_charAt_5068e, Cond.code yJ0_charAt_5068e cJ0_charAt_5068e 2 (some .char), Cond.methodLink RJ0 492 yJ0_isLatin1_aae02, Cond.instanceMethod yJ0_isLatin1_aae02, Cond.selects RJ0 yJ0_isLatin1_aae02 yJ0_isLatin1_aae02, Cond.code yJ0_isLatin1_aae02 cJ0_isLatin1_aae02 1 (some .boolean), Cond.methodLink RJ0 495 yJ1_charAt_3b067, Cond.static yJ1_charAt_3b067, Cond.initialized RJ1, Cond.code yJ1_charAt_3b067 cJ1_charAt_3b067 2 (some .char), Cond.methodLink RJ1 9 yJ0_checkIndex_df160, Cond.static yJ0_checkIndex_df160, Cond.code yJ0_checkIndex_df160 cJ0_checkIndex_df160 2 none, Cond.fieldLink RJ0 1053 "jdk/internal/util/Preconditions" "SIOOBE_FORMATTER" "Ljava/util/function/BiFunction;", Cond.methodLink RJ0 1059 yJ3_checkIndex_8e157, Cond.static yJ3_checkIndex_8e157]
def wsL_law_r5 : List Cond := [Cond.initialized RJ3, Cond.code yJ3_checkIndex_8e157 cJ3_checkIndex_8e157 3 (some .int), Cond.methodLink RJ0 498 yJ2_charAt_3b067, Cond.static yJ2_charAt_3b067, Cond.initialized RJ2, Cond.code yJ2_charAt_3b067 cJ2_charAt_3b067 2 (some .char), Cond.methodLink RJ2 67 yJ2_checkIndex_2214a, Cond.static yJ2_checkIndex_2214a, Cond.code yJ2_checkIndex_2214a cJ2_checkIndex_2214a 2 none, Cond.methodLink RJ2 48 yJ2_length_9d52b, Cond.static yJ2_length_9d52b, Cond.code yJ2_length_9d52b cJ2_length_9d52b 1 (some .int), Cond.methodLink RJ2 414 yJ0_checkIndex_df160, Cond.methodLink RJ2 71 yJ2_getChar_3b067, Cond.static yJ2_getChar_3b067, Cond.code yJ2_getChar_3b067 cJ2_getChar_3b067 2 (some .char), Cond.fieldLink RJ2 44 "java/lang/StringUTF16" "$assertionsDisabled" "Z", Cond.fieldLink RJ2 59 "java/lang/StringUTF16" "HI_BYTE_SHIFT" "I", Cond.fieldLink RJ2 63 "java/lang/StringUTF16" "LO_BYTE_SHIFT" "I", Cond.methodLink RX7 21 yX1_init, Cond.instanceMethod yX1_init, Cond.code yX1_init cX1_init 1 none, Cond.methodLink RX1 3 objectInit, Cond.fieldLink RX1 9 "LacePillow$Heap" "size" "I"]
def wsL_law_r6 : List Cond := [Cond.fieldLink RX1 15 "LacePillow$Heap" "signs" "[I", Cond.fieldLink RX1 19 "LacePillow$Heap" "tops" "[I", Cond.methodLink RX1 22 yJ7_fill_53178, Cond.instanceMethod yX0_init, Cond.code yX0_init cX0_init 1 none, Cond.methodLink RX0 3 objectInit, Cond.fieldLink RX0 9 "LacePillow$Ground" "size" "I", Cond.fieldLink RX0 15 "LacePillow$Ground" "deep" "I", Cond.fieldLink RX0 18 "LacePillow$Ground" "rows" "[I", Cond.fieldLink RX0 22 "LacePillow$Ground" "gaps" "[I", Cond.fieldLink RX0 25 "LacePillow$Ground" "kinds" "[I", Cond.fieldLink RX0 28 "LacePillow$Ground" "levels" "[I", Cond.arrayClass .long, Cond.fieldLink RX0 31 "LacePillow$Ground" "before" "[J", Cond.fieldLink RX0 35 "LacePillow$Ground" "wides" "[I", Cond.instanceMethod yX5_init, Cond.code yX5_init cX5_init 1 none, Cond.methodLink RX5 3 objectInit, Cond.fieldLink RX5 9 "LacePillow$Ways" "known" "Z", Cond.fieldLink RX5 15 "LacePillow$Ways" "counts" "[J", Cond.fieldLink RX5 19 "LacePillow$Ways" "lengths" "[I", Cond.fieldLink RX5 23 "LacePillow$Ways" "strides" "[I", Cond.fieldLink RX5 26 "LacePillow$Ways" "stitches" "[I", Cond.fieldLink RX5 29 "LacePillow$Ways" "bits" "[J"]
def wsL_law_r7 : List Cond := [Cond.methodLink RX7 46 yX6_init, Cond.instanceMethod yX6_init, Cond.code yX6_init cX6_init 1 none, Cond.methodLink RX6 3 objectInit, Cond.fieldLink RX6 9 "LacePillow$Weave" "threads" "[I", Cond.fieldLink RX6 15 "LacePillow$Weave" "places" "[I", Cond.fieldLink RX6 18 "LacePillow$Weave" "used" "[I", Cond.fieldLink RX6 21 "LacePillow$Weave" "overs" "[I", Cond.fieldLink RX6 24 "LacePillow$Weave" "unders" "[I", Cond.fieldLink RX6 27 "LacePillow$Weave" "falses" "[I", Cond.fieldLink RX6 30 "LacePillow$Weave" "sides" "[I", Cond.fieldLink RX6 33 "LacePillow$Weave" "passes" "[I", Cond.classLink RX6 36 RX1, Cond.fieldLink RX6 39 "LacePillow$Weave" "heap" "LLacePillow$Heap;", Cond.fieldLink RX6 43 "LacePillow$Weave" "crossings" "I", Cond.methodLink RX6 38 yX1_init, Cond.methodLink RX6 47 yX6_sendHome, Cond.instanceMethod yX6_sendHome, Cond.selects RX6 yX6_sendHome yX6_sendHome, Cond.code yX6_sendHome cX6_sendHome 2 none, Cond.methodLink RX6 50 yJ7_fill_53178, Cond.instanceMethod yX4_init, Cond.code yX4_init cX4_init 1 none, Cond.methodLink RX4 3 objectInit]
def wsL_law_r8 : List Cond := [Cond.fieldLink RX4 9 "LacePillow$Tape" "bytes" "[I", Cond.fieldLink RX4 15 "LacePillow$Tape" "size" "I", Cond.instanceMethod yX3_init, Cond.code yX3_init cX3_init 1 none, Cond.methodLink RX3 3 objectInit, Cond.fieldLink RX3 9 "LacePillow$Sheet" "sort" "I", Cond.fieldLink RX3 15 "LacePillow$Sheet" "size" "I", Cond.fieldLink RX3 18 "LacePillow$Sheet" "numbers" "[J", Cond.methodLink RL 12 yX8_init, Cond.instanceMethod yX8_init, Cond.code yX8_init cX8_init 4 none, Cond.methodLink RX8 3 objectInit, Cond.fieldLink RX8 9 "LacePillowModel" "now" "[I", Cond.fieldLink RX8 13 "LacePillowModel" "kept" "[I", Cond.fieldLink RX8 16 "LacePillowModel" "aside" "[I", Cond.fieldLink RX8 19 "LacePillowModel" "met" "[I", Cond.fieldLink RX8 22 "LacePillowModel" "row" "[I", Cond.fieldLink RX8 25 "LacePillowModel" "gap" "[I", Cond.fieldLink RX8 28 "LacePillowModel" "kind" "[I", Cond.fieldLink RX8 31 "LacePillowModel" "level" "[I", Cond.fieldLink RX8 34 "LacePillowModel" "ahead" "[J", Cond.fieldLink RX8 38 "LacePillowModel" "tape" "[I", Cond.fieldLink RX8 41 "LacePillowModel" "at" "[I", Cond.fieldLink RX8 44 "LacePillowModel" "used" "[I"]
def wsL_law_r9 : List Cond := [Cond.fieldLink RX8 47 "LacePillowModel" "place" "[I", Cond.fieldLink RX8 50 "LacePillowModel" "sign" "[I", Cond.fieldLink RX8 53 "LacePillowModel" "over" "[I", Cond.fieldLink RX8 56 "LacePillowModel" "under" "[I", Cond.fieldLink RX8 59 "LacePillowModel" "by" "[I", Cond.fieldLink RX8 62 "LacePillowModel" "leftPlace" "[I", Cond.fieldLink RX8 65 "LacePillowModel" "leftSign" "[I", Cond.fieldLink RX8 68 "LacePillowModel" "layerOf" "[I", Cond.fieldLink RX8 71 "LacePillowModel" "takenBy" "[I", Cond.fieldLink RX8 74 "LacePillowModel" "setMet" "[I", Cond.fieldLink RX8 77 "LacePillowModel" "waysMet" "[J", Cond.fieldLink RX8 80 "LacePillowModel" "sort" "[I", Cond.fieldLink RX8 83 "LacePillowModel" "size" "[I", Cond.fieldLink RX8 86 "LacePillowModel" "items" "[J", Cond.fieldLink RX8 89 "LacePillowModel" "shown" "[I", Cond.classLink RX8 92 RJ0, Cond.methodLink RX8 106 yJ0_length_8abf5, Cond.methodLink RX8 110 yJ0_charAt_5068e, Cond.methodLink RX8 114 yX8_lists, Cond.instanceMethod yX8_lists, Cond.selects RX8 yX8_lists yX8_lists, Cond.code yX8_lists cX8_lists 3 none, Cond.fieldLink RX8 120 "LacePillowModel" "many" "I", Cond.methodLink RX8 124 yX8_gaps]
def wsL_law_r10 : List Cond := [Cond.instanceMethod yX8_gaps, Cond.selects RX8 yX8_gaps yX8_gaps, Cond.code yX8_gaps cX8_gaps 1 (some .int), Cond.methodLink RX8 127 yX8_held, Cond.instanceMethod yX8_held, Cond.selects RX8 yX8_held yX8_held, Cond.code yX8_held cX8_held 3 (some .int), Cond.methodLink RX8 131 yX8_add, Cond.instanceMethod yX8_add, Cond.selects RX8 yX8_add yX8_add, Cond.code yX8_add cX8_add 5 none, Cond.methodLink RL 13 yX7_pairs, Cond.instanceMethod yX7_pairs, Cond.selects RX7 yX7_pairs yX7_pairs, Cond.code yX7_pairs cX7_pairs 3 (some .int), Cond.fieldLink RX7 84 "LacePillow$Plan" "pairs" "I", Cond.fieldLink RX7 87 "LacePillow$Plan" "cells" "[I", Cond.methodLink RX7 80 yX7_fail, Cond.instanceMethod yX7_fail, Cond.selects RX7 yX7_fail yX7_fail, Cond.code yX7_fail cX7_fail 2 (some .int), Cond.constant RX7 343 (-1000000000), Cond.methodLink RX7 90 yJ7_fill_53178, Cond.methodLink RX7 96 yX7_beginAnew]
def wsL_law_r11 : List Cond := [Cond.instanceMethod yX7_beginAnew, Cond.selects RX7 yX7_beginAnew yX7_beginAnew, Cond.code yX7_beginAnew cX7_beginAnew 1 none, Cond.fieldLink RX7 169 "LacePillow$Plan" "worked" "I", Cond.methodLink RX7 346 yX6_clear, Cond.instanceMethod yX6_clear, Cond.selects RX6 yX6_clear yX6_clear, Cond.code yX6_clear cX6_clear 1 none, Cond.methodLink RX6 56 yX1_clear, Cond.instanceMethod yX1_clear, Cond.selects RX1 yX1_clear yX1_clear, Cond.code yX1_clear cX1_clear 1 none, Cond.methodLink RX7 329 yX7_regard, Cond.instanceMethod yX7_regard, Cond.selects RX7 yX7_regard yX7_regard, Cond.code yX7_regard cX7_regard 1 none, Cond.fieldLink RX7 352 "LacePillow$Ways" "known" "Z", Cond.methodLink RX7 349 yX0_gather, Cond.instanceMethod yX0_gather, Cond.selects RX0 yX0_gather yX0_gather, Cond.code yX0_gather cX0_gather 5 none, Cond.fieldLink RX0 38 "LacePillow$Plan" "pairs" "I", Cond.fieldLink RX0 43 "LacePillow$Plan" "cells" "[I", Cond.methodLink RX0 46 yX0_enter]
def wsL_law_r12 : List Cond := [Cond.instanceMethod yX0_enter, Cond.selects RX0 yX0_enter yX0_enter, Cond.code yX0_enter cX0_enter 6 none, Cond.methodLink RX0 50 Lib.Math.abs.name, Cond.static Lib.Math.abs.name, Cond.initialized "java/lang/Math", Cond.code Lib.Math.abs.name Lib.Math.abs.code 1 (some .int), Cond.methodLink RX0 56 Lib.Math.max.name, Cond.static Lib.Math.max.name, Cond.code Lib.Math.max.name Lib.Math.max.code 2 (some .int), Cond.methodLink RL 17 yX8_pairs, Cond.instanceMethod yX8_pairs, Cond.selects RX8 yX8_pairs yX8_pairs, Cond.code yX8_pairs cX8_pairs 4 (some .int), Cond.constantLong RX8 141 (2), Cond.constantLong RX8 143 (8), Cond.constant RX8 149 (-1000000001), Cond.methodLink RX8 145 yX8_in, Cond.static yX8_in, Cond.code yX8_in cX8_in 6 (some .boolean), Cond.methodLink RX8 150 yX8_errs, Cond.instanceMethod yX8_errs, Cond.selects RX8 yX8_errs yX8_errs, Cond.code yX8_errs cX8_errs 2 (some .int)]
def wsL_law_r13 : List Cond := [Cond.constant RX8 117 (-1000000000), Cond.methodLink RX8 154 yX8_anew, Cond.instanceMethod yX8_anew, Cond.selects RX8 yX8_anew yX8_anew, Cond.code yX8_anew cX8_anew 1 none, Cond.methodLink RL 18 yX7_lay, Cond.instanceMethod yX7_lay, Cond.selects RX7 yX7_lay yX7_lay, Cond.code yX7_lay cX7_lay 5 (some .int), Cond.methodLink RX7 99 yX7_isCell, Cond.instanceMethod yX7_isCell, Cond.selects RX7 yX7_isCell yX7_isCell, Cond.code yX7_isCell cX7_isCell 3 (some .boolean), Cond.methodLink RX7 103 yX7_holds, Cond.instanceMethod yX7_holds, Cond.selects RX7 yX7_holds yX7_holds, Cond.code yX7_holds cX7_holds 3 (some .boolean), Cond.methodLink RL 22 yX8_lay, Cond.instanceMethod yX8_lay, Cond.selects RX8 yX8_lay yX8_lay, Cond.code yX8_lay cX8_lay 7 (some .int), Cond.constantLong RX8 139 (-1), Cond.constantLong RX8 163 (5), Cond.constant RX8 165 (-1000000003)]
def wsL_law_r14 : List Cond := [Cond.methodLink RX8 159 yX8_isPlaceOf, Cond.instanceMethod yX8_isPlaceOf, Cond.selects RX8 yX8_isPlaceOf yX8_isPlaceOf, Cond.code yX8_isPlaceOf cX8_isPlaceOf 3 (some .boolean), Cond.constantLong RX8 157 (11), Cond.methodLink RL 23 yX7_look, Cond.instanceMethod yX7_look, Cond.selects RX7 yX7_look yX7_look, Cond.code yX7_look cX7_look 3 (some .int), Cond.methodLink RL 27 yX8_look, Cond.instanceMethod yX8_look, Cond.selects RX8 yX8_look yX8_look, Cond.code yX8_look cX8_look 3 (some .int), Cond.methodLink RL 28 yX7_feed, Cond.instanceMethod yX7_feed, Cond.selects RX7 yX7_feed yX7_feed, Cond.code yX7_feed cX7_feed 2 (some .int), Cond.fieldLink RX7 106 "LacePillow$Tape" "size" "I", Cond.fieldLink RX7 109 "LacePillow$Tape" "bytes" "[I", Cond.methodLink RL 31 yX8_feed, Cond.instanceMethod yX8_feed, Cond.selects RX8 yX8_feed yX8_feed, Cond.code yX8_feed cX8_feed 2 (some .int), Cond.constantLong RX8 166 (255)]
def wsL_law_r15 : List Cond := [Cond.fieldLink RX8 168 "LacePillowModel" "taped" "I", Cond.constant RX8 171 (-1000000004), Cond.methodLink RL 32 yX7_read, Cond.instanceMethod yX7_read, Cond.selects RX7 yX7_read yX7_read, Cond.code yX7_read cX7_read 2 (some .int), Cond.fieldLink RX7 119 "LacePillow$Ground" "size" "I", Cond.methodLink RX7 112 yX4_prickingFault, Cond.instanceMethod yX4_prickingFault, Cond.selects RX4 yX4_prickingFault yX4_prickingFault, Cond.code yX4_prickingFault cX4_prickingFault 8 (some .int), Cond.methodLink RX7 115 yX4_prickInto, Cond.instanceMethod yX4_prickInto, Cond.selects RX4 yX4_prickInto yX4_prickInto, Cond.code yX4_prickInto cX4_prickInto 5 none, Cond.fieldLink RX4 19 "LacePillow$Plan" "cells" "[I", Cond.methodLink RX4 24 yJ7_fill_53178, Cond.methodLink RL 36 yX8_read, Cond.instanceMethod yX8_read, Cond.selects RX8 yX8_read yX8_read, Cond.code yX8_read cX8_read 5 (some .int), Cond.methodLink RX8 176 yX8_prickingFault, Cond.instanceMethod yX8_prickingFault, Cond.selects RX8 yX8_prickingFault yX8_prickingFault]
def wsL_law_r16 : List Cond := [Cond.code yX8_prickingFault cX8_prickingFault 7 (some .int), Cond.constantLong RX8 172 (97), Cond.constantLong RX8 174 (102), Cond.methodLink RL 37 yX7_spell, Cond.instanceMethod yX7_spell, Cond.selects RX7 yX7_spell yX7_spell, Cond.code yX7_spell cX7_spell 3 (some .int), Cond.fieldLink RX7 132 "LacePillow$Plan" "lengths" "[I", Cond.methodLink RX7 120 yX7_isKind, Cond.static yX7_isKind, Cond.code yX7_isKind cX7_isKind 1 (some .boolean), Cond.methodLink RX7 124 yX4_wordFault, Cond.instanceMethod yX4_wordFault, Cond.selects RX4 yX4_wordFault yX4_wordFault, Cond.code yX4_wordFault cX4_wordFault 3 (some .int), Cond.methodLink RX7 128 yX4_spellInto, Cond.instanceMethod yX4_spellInto, Cond.selects RX4 yX4_spellInto yX4_spellInto, Cond.code yX4_spellInto cX4_spellInto 4 none, Cond.fieldLink RX4 30 "LacePillow$Plan" "letters" "[I", Cond.fieldLink RX4 33 "LacePillow$Plan" "lengths" "[I", Cond.methodLink RX4 36 Lib.Math.min.name, Cond.static Lib.Math.min.name, Cond.code Lib.Math.min.name Lib.Math.min.code 2 (some .int)]
def wsL_law_r17 : List Cond := [Cond.methodLink RL 40 yX8_spell, Cond.instanceMethod yX8_spell, Cond.selects RX8 yX8_spell yX8_spell, Cond.code yX8_spell cX8_spell 5 (some .int), Cond.methodLink RX8 179 yX8_isTold, Cond.static yX8_isTold, Cond.code yX8_isTold cX8_isTold 1 (some .boolean), Cond.methodLink RL 41 yX7_word, Cond.instanceMethod yX7_word, Cond.selects RX7 yX7_word yX7_word, Cond.code yX7_word cX7_word 3 (some .int), Cond.fieldLink RX7 139 "LacePillow$Weave" "crossings" "I", Cond.fieldLink RX7 142 "LacePillow$Weave" "heap" "LLacePillow$Heap;", Cond.fieldLink RX7 145 "LacePillow$Heap" "size" "I", Cond.fieldLink RX7 150 "LacePillow$Weave" "places" "[I", Cond.methodLink RX7 135 yX7_thinkWord, Cond.instanceMethod yX7_thinkWord, Cond.selects RX7 yX7_thinkWord yX7_thinkWord, Cond.code yX7_thinkWord cX7_thinkWord 2 none, Cond.methodLink RX7 355 yX6_make, Cond.instanceMethod yX6_make, Cond.selects RX6 yX6_make yX6_make, Cond.code yX6_make cX6_make 7 none, Cond.fieldLink RX6 59 "LacePillow$Plan" "lengths" "[I"]
def wsL_law_r18 : List Cond := [Cond.fieldLink RX6 64 "LacePillow$Plan" "letters" "[I", Cond.methodLink RX6 67 yX6_cross, Cond.instanceMethod yX6_cross, Cond.selects RX6 yX6_cross yX6_cross, Cond.code yX6_cross cX6_cross 5 none, Cond.methodLink RX6 71 yX6_pass, Cond.instanceMethod yX6_pass, Cond.selects RX6 yX6_pass yX6_pass, Cond.code yX6_pass cX6_pass 3 none, Cond.methodLink RX6 77 yX6_noteSide, Cond.instanceMethod yX6_noteSide, Cond.selects RX6 yX6_noteSide yX6_noteSide, Cond.code yX6_noteSide cX6_noteSide 3 none, Cond.methodLink RX6 74 yX1_add, Cond.instanceMethod yX1_add, Cond.selects RX1 yX1_add yX1_add, Cond.code yX1_add cX1_add 6 none, Cond.methodLink RX1 34 Lib.Math.max.name, Cond.methodLink RX1 40 yX1_takeTop, Cond.instanceMethod yX1_takeTop, Cond.selects RX1 yX1_takeTop yX1_takeTop, Cond.code yX1_takeTop cX1_takeTop 4 none, Cond.methodLink RX7 146 yX6_commonTurns, Cond.instanceMethod yX6_commonTurns]
def wsL_law_r19 : List Cond := [Cond.selects RX6 yX6_commonTurns yX6_commonTurns, Cond.code yX6_commonTurns cX6_commonTurns 4 (some .long), Cond.methodLink RX6 80 yX6_turnsOf, Cond.instanceMethod yX6_turnsOf, Cond.selects RX6 yX6_turnsOf yX6_turnsOf, Cond.code yX6_turnsOf cX6_turnsOf 4 (some .int), Cond.methodLink RX6 84 yX6_leastCommonMultiple, Cond.static yX6_leastCommonMultiple, Cond.code yX6_leastCommonMultiple cX6_leastCommonMultiple 4 (some .long), Cond.methodLink RL 44 yX8_word, Cond.instanceMethod yX8_word, Cond.selects RX8 yX8_word yX8_word, Cond.code yX8_word cX8_word 5 (some .int), Cond.constantLong RX8 219 (7), Cond.fieldLink RX8 186 "LacePillowModel" "crossings" "I", Cond.fieldLink RX8 210 "LacePillowModel" "left" "I", Cond.methodLink RX8 196 yX8_begins, Cond.instanceMethod yX8_begins, Cond.selects RX8 yX8_begins yX8_begins, Cond.code yX8_begins cX8_begins 2 none, Cond.methodLink RX8 193 yX8_spells, Cond.instanceMethod yX8_spells, Cond.selects RX8 yX8_spells yX8_spells, Cond.code yX8_spells cX8_spells 6 none]
def wsL_law_r20 : List Cond := [Cond.methodLink RX8 183 yX8_letterOf, Cond.instanceMethod yX8_letterOf, Cond.selects RX8 yX8_letterOf yX8_letterOf, Cond.code yX8_letterOf cX8_letterOf 3 (some .int), Cond.methodLink RX8 189 yX8_cross, Cond.instanceMethod yX8_cross, Cond.selects RX8 yX8_cross yX8_cross, Cond.code yX8_cross cX8_cross 6 none, Cond.methodLink RX8 221 yX8_layers, Cond.instanceMethod yX8_layers, Cond.selects RX8 yX8_layers yX8_layers, Cond.code yX8_layers cX8_layers 5 (some .int), Cond.methodLink RX8 216 yX8_comes, Cond.instanceMethod yX8_comes, Cond.selects RX8 yX8_comes yX8_comes, Cond.code yX8_comes cX8_comes 4 none, Cond.methodLink RX8 213 yX8_drop, Cond.instanceMethod yX8_drop, Cond.selects RX8 yX8_drop yX8_drop, Cond.code yX8_drop cX8_drop 3 none, Cond.methodLink RL 45 yX7_letter, Cond.instanceMethod yX7_letter, Cond.selects RX7 yX7_letter yX7_letter, Cond.code yX7_letter cX7_letter 3 (some .int)]
def wsL_law_r21 : List Cond := [Cond.fieldLink RX7 153 "LacePillow$Plan" "letters" "[I", Cond.methodLink RL 48 yX8_letter, Cond.instanceMethod yX8_letter, Cond.selects RX8 yX8_letter yX8_letter, Cond.code yX8_letter cX8_letter 3 (some .int), Cond.methodLink RL 49 yX7_stitches, Cond.instanceMethod yX7_stitches, Cond.selects RX7 yX7_stitches yX7_stitches, Cond.code yX7_stitches cX7_stitches 2 (some .int), Cond.fieldLink RX7 156 "LacePillow$Ground" "deep" "I", Cond.methodLink RX7 159 yX0_longestChain, Cond.instanceMethod yX0_longestChain, Cond.selects RX0 yX0_longestChain yX0_longestChain, Cond.code yX0_longestChain cX0_longestChain 3 (some .int), Cond.methodLink RX7 162 yX0_widest, Cond.instanceMethod yX0_widest, Cond.selects RX0 yX0_widest yX0_widest, Cond.code yX0_widest cX0_widest 4 (some .int), Cond.methodLink RX0 70 yX0_widestLeftOf, Cond.instanceMethod yX0_widestLeftOf, Cond.selects RX0 yX0_widestLeftOf yX0_widestLeftOf, Cond.code yX0_widestLeftOf cX0_widestLeftOf 4 (some .int), Cond.methodLink RX0 66 yX0_leads, Cond.instanceMethod yX0_leads]
def wsL_law_r22 : List Cond := [Cond.selects RX0 yX0_leads yX0_leads, Cond.code yX0_leads cX0_leads 3 (some .boolean), Cond.methodLink RX7 165 yX0_countFree, Cond.instanceMethod yX0_countFree, Cond.selects RX0 yX0_countFree yX0_countFree, Cond.code yX0_countFree cX0_countFree 5 (some .int), Cond.methodLink RX0 62 yX0_isFree, Cond.instanceMethod yX0_isFree, Cond.selects RX0 yX0_isFree yX0_isFree, Cond.code yX0_isFree cX0_isFree 4 (some .boolean), Cond.constantLong RX0 60 (-1), Cond.methodLink RX7 172 yX0_leastFree, Cond.instanceMethod yX0_leastFree, Cond.selects RX0 yX0_leastFree yX0_leastFree, Cond.code yX0_leastFree cX0_leastFree 4 (some .int), Cond.methodLink RX7 175 yX7_noneIfBelow0, Cond.instanceMethod yX7_noneIfBelow0, Cond.selects RX7 yX7_noneIfBelow0 yX7_noneIfBelow0, Cond.code yX7_noneIfBelow0 cX7_noneIfBelow0 2 (some .int), Cond.methodLink RL 52 yX8_stitches, Cond.instanceMethod yX8_stitches, Cond.selects RX8 yX8_stitches yX8_stitches, Cond.code yX8_stitches cX8_stitches 2 (some .int), Cond.constant RX8 249 (-1000000002)]
def wsL_law_r23 : List Cond := [Cond.methodLink RX8 234 yX8_deep, Cond.instanceMethod yX8_deep, Cond.selects RX8 yX8_deep yX8_deep, Cond.code yX8_deep cX8_deep 1 (some .int), Cond.methodLink RX8 237 yX8_chain, Cond.instanceMethod yX8_chain, Cond.selects RX8 yX8_chain yX8_chain, Cond.code yX8_chain cX8_chain 3 (some .int), Cond.methodLink RX8 240 yX8_wide, Cond.instanceMethod yX8_wide, Cond.selects RX8 yX8_wide yX8_wide, Cond.code yX8_wide cX8_wide 3 (some .int), Cond.fieldLink RX8 224 "LacePillowModel" "seen" "J", Cond.methodLink RX8 228 yX8_takes, Cond.instanceMethod yX8_takes, Cond.selects RX8 yX8_takes yX8_takes, Cond.code yX8_takes cX8_takes 3 (some .boolean), Cond.methodLink RX8 243 yX8_freeMany, Cond.instanceMethod yX8_freeMany, Cond.selects RX8 yX8_freeMany yX8_freeMany, Cond.code yX8_freeMany cX8_freeMany 3 (some .int), Cond.methodLink RX8 231 yX8_isFree, Cond.instanceMethod yX8_isFree, Cond.selects RX8 yX8_isFree yX8_isFree]
def wsL_law_r24 : List Cond := [Cond.code yX8_isFree cX8_isFree 4 (some .boolean), Cond.methodLink RX8 135 yX8_workedSet, Cond.instanceMethod yX8_workedSet, Cond.selects RX8 yX8_workedSet yX8_workedSet, Cond.code yX8_workedSet cX8_workedSet 4 (some .long), Cond.methodLink RX8 246 yX8_leastFree, Cond.instanceMethod yX8_leastFree, Cond.selects RX8 yX8_leastFree yX8_leastFree, Cond.code yX8_leastFree cX8_leastFree 2 (some .int), Cond.methodLink RL 53 yX7_stitch, Cond.instanceMethod yX7_stitch, Cond.selects RX7 yX7_stitch yX7_stitch, Cond.code yX7_stitch cX7_stitch 3 (some .int), Cond.fieldLink RX7 182 "LacePillow$Ground" "rows" "[I", Cond.fieldLink RX7 185 "LacePillow$Ground" "gaps" "[I", Cond.fieldLink RX7 188 "LacePillow$Ground" "kinds" "[I", Cond.fieldLink RX7 191 "LacePillow$Ground" "levels" "[I", Cond.fieldLink RX7 194 "LacePillow$Ground" "before" "[J", Cond.methodLink RX7 178 yX7_isStitch, Cond.instanceMethod yX7_isStitch, Cond.selects RX7 yX7_isStitch yX7_isStitch, Cond.code yX7_isStitch cX7_isStitch 3 (some .boolean), Cond.methodLink RX7 198 yJ13_bitCount_95d88, Cond.static yJ13_bitCount_95d88]
def wsL_law_r25 : List Cond := [Cond.initialized RJ13, Cond.code yJ13_bitCount_95d88 cJ13_bitCount_95d88 2 (some .int), Cond.constantLong RJ13 314 (6148914691236517205), Cond.constantLong RJ13 316 (3689348814741910323), Cond.constantLong RJ13 318 (1085102592571150095), Cond.methodLink RX7 203 yX0_countBehind, Cond.instanceMethod yX0_countBehind, Cond.selects RX0 yX0_countBehind yX0_countBehind, Cond.code yX0_countBehind cX0_countBehind 4 (some .int), Cond.methodLink RX7 206 yX0_isFree, Cond.methodLink RL 56 yX8_stitch, Cond.instanceMethod yX8_stitch, Cond.selects RX8 yX8_stitch yX8_stitch, Cond.code yX8_stitch cX8_stitch 3 (some .int), Cond.methodLink RX8 250 yX8_isStitch, Cond.instanceMethod yX8_isStitch, Cond.selects RX8 yX8_isStitch yX8_isStitch, Cond.code yX8_isStitch cX8_isStitch 3 (some .boolean), Cond.methodLink RX8 254 yX8_bits, Cond.static yX8_bits, Cond.code yX8_bits cX8_bits 5 (some .int), Cond.methodLink RX8 258 yX8_behind, Cond.instanceMethod yX8_behind, Cond.selects RX8 yX8_behind yX8_behind]
def wsL_law_r26 : List Cond := [Cond.code yX8_behind cX8_behind 4 (some .int), Cond.methodLink RL 57 yX7_ahead, Cond.instanceMethod yX7_ahead, Cond.selects RX7 yX7_ahead yX7_ahead, Cond.code yX7_ahead cX7_ahead 3 (some .int), Cond.methodLink RX7 210 yX0_leads, Cond.methodLink RL 60 yX8_ahead, Cond.instanceMethod yX8_ahead, Cond.selects RX8 yX8_ahead yX8_ahead, Cond.code yX8_ahead cX8_ahead 3 (some .int), Cond.methodLink RL 61 yX7_orders, Cond.instanceMethod yX7_orders, Cond.selects RX7 yX7_orders yX7_orders, Cond.code yX7_orders cX7_orders 1 (some .long), Cond.fieldLink RX7 221 "LacePillow$Ways" "counts" "[J", Cond.methodLink RX7 213 yX7_failLong, Cond.instanceMethod yX7_failLong, Cond.selects RX7 yX7_failLong yX7_failLong, Cond.code yX7_failLong cX7_failLong 2 (some .long), Cond.constantLong RX7 344 (-9000000000000000000), Cond.methodLink RX7 217 yX5_reckon, Cond.instanceMethod yX5_reckon, Cond.selects RX5 yX5_reckon yX5_reckon, Cond.code yX5_reckon cX5_reckon 6 none]
def wsL_law_r27 : List Cond := [Cond.methodLink RX5 32 yX5_sortIntoLines, Cond.instanceMethod yX5_sortIntoLines, Cond.selects RX5 yX5_sortIntoLines yX5_sortIntoLines, Cond.code yX5_sortIntoLines cX5_sortIntoLines 5 none, Cond.fieldLink RX5 49 "LacePillow$Ground" "size" "I", Cond.fieldLink RX5 55 "LacePillow$Ground" "gaps" "[I", Cond.methodLink RX5 40 yJ7_fill_53178, Cond.methodLink RX5 46 yJ7_fill_d0a16, Cond.static yJ7_fill_d0a16, Cond.code yJ7_fill_d0a16 cJ7_fill_d0a16 5 none, Cond.methodLink RX5 36 yX5_reckonState, Cond.instanceMethod yX5_reckonState, Cond.selects RX5 yX5_reckonState yX5_reckonState, Cond.code yX5_reckonState cX5_reckonState 9 none, Cond.methodLink RX5 58 yX5_bitsOf, Cond.instanceMethod yX5_bitsOf, Cond.selects RX5 yX5_bitsOf yX5_bitsOf, Cond.code yX5_bitsOf cX5_bitsOf 3 (some .long), Cond.methodLink RX5 62 yJ13_bitCount_95d88, Cond.methodLink RX5 68 yX5_onward, Cond.instanceMethod yX5_onward, Cond.selects RX5 yX5_onward yX5_onward, Cond.code yX5_onward cX5_onward 7 (some .long), Cond.methodLink RX5 72 yX0_isFree]
def wsL_law_r28 : List Cond := [Cond.methodLink RX5 76 yX5_countOf, Cond.instanceMethod yX5_countOf, Cond.selects RX5 yX5_countOf yX5_countOf, Cond.code yX5_countOf cX5_countOf 2 (some .long), Cond.methodLink RL 65 yX8_orders, Cond.instanceMethod yX8_orders, Cond.selects RX8 yX8_orders yX8_orders, Cond.code yX8_orders cX8_orders 1 (some .long), Cond.methodLink RX8 266 yX8_errsLong, Cond.instanceMethod yX8_errsLong, Cond.selects RX8 yX8_errsLong yX8_errsLong, Cond.code yX8_errsLong cX8_errsLong 2 (some .long), Cond.constantLong RX8 118 (-9000000000000000000), Cond.methodLink RX8 269 yX8_forgets, Cond.instanceMethod yX8_forgets, Cond.selects RX8 yX8_forgets yX8_forgets, Cond.code yX8_forgets cX8_forgets 2 none, Cond.methodLink RX8 262 yX8_ways, Cond.instanceMethod yX8_ways, Cond.selects RX8 yX8_ways yX8_ways, Cond.code yX8_ways cX8_ways 6 (some .long), Cond.constant RX8 261 (40503), Cond.methodLink RL 68 yX7_order, Cond.instanceMethod yX7_order]
def wsL_law_r29 : List Cond := [Cond.selects RX7 yX7_order yX7_order, Cond.code yX7_order cX7_order 4 (some .int), Cond.methodLink RX7 224 yX5_stitchOf, Cond.instanceMethod yX5_stitchOf, Cond.selects RX5 yX5_stitchOf yX5_stitchOf, Cond.code yX5_stitchOf cX5_stitchOf 15 (some .int), Cond.methodLink RX5 80 yX5_strideOf, Cond.instanceMethod yX5_strideOf, Cond.selects RX5 yX5_strideOf yX5_strideOf, Cond.code yX5_strideOf cX5_strideOf 3 (some .int), Cond.methodLink RL 72 yX8_order, Cond.instanceMethod yX8_order, Cond.selects RX8 yX8_order yX8_order, Cond.code yX8_order cX8_order 12 (some .int), Cond.methodLink RL 73 yX7_rank, Cond.instanceMethod yX7_rank, Cond.selects RX7 yX7_rank yX7_rank, Cond.code yX7_rank cX7_rank 4 (some .long), Cond.fieldLink RX7 231 "LacePillow$Sheet" "sort" "I", Cond.methodLink RX7 228 yX7_isSheet, Cond.static yX7_isSheet, Cond.code yX7_isSheet cX7_isSheet 1 (some .boolean), Cond.methodLink RX7 234 yX5_numberOf, Cond.instanceMethod yX5_numberOf]
def wsL_law_r30 : List Cond := [Cond.selects RX5 yX5_numberOf yX5_numberOf, Cond.code yX5_numberOf cX5_numberOf 13 (some .long), Cond.fieldLink RX5 84 "LacePillow$Sheet" "size" "I", Cond.constantLong RX5 87 (-1), Cond.fieldLink RX5 89 "LacePillow$Sheet" "numbers" "[J", Cond.methodLink RL 77 yX8_rank, Cond.instanceMethod yX8_rank, Cond.selects RX8 yX8_rank yX8_rank, Cond.code yX8_rank cX8_rank 4 (some .long), Cond.constant RX8 275 (-1000000007), Cond.methodLink RX8 272 yX8_isSheet, Cond.static yX8_isSheet, Cond.code yX8_isSheet cX8_isSheet 1 (some .boolean), Cond.constantLong RX8 314 (3), Cond.methodLink RX8 276 yX8_rankOf, Cond.instanceMethod yX8_rankOf, Cond.selects RX8 yX8_rankOf yX8_rankOf, Cond.code yX8_rankOf cX8_rankOf 9 (some .long), Cond.methodLink RL 78 yX7_work, Cond.instanceMethod yX7_work, Cond.selects RX7 yX7_work yX7_work, Cond.code yX7_work cX7_work 3 (some .int), Cond.methodLink RX7 238 yX7_tryStitch, Cond.instanceMethod yX7_tryStitch]
def wsL_law_r31 : List Cond := [Cond.selects RX7 yX7_tryStitch yX7_tryStitch, Cond.code yX7_tryStitch cX7_tryStitch 4 (some .int), Cond.fieldLink RX7 263 "LacePillow$Plan" "wound" "[I", Cond.fieldLink RX7 251 "LacePillow$Plan" "work" "[I", Cond.methodLink RX7 287 yX6_leastLacking, Cond.instanceMethod yX6_leastLacking, Cond.selects RX6 yX6_leastLacking yX6_leastLacking, Cond.code yX6_leastLacking cX6_leastLacking 3 (some .int), Cond.methodLink RX7 248 yX7_replay, Cond.instanceMethod yX7_replay, Cond.selects RX7 yX7_replay yX7_replay, Cond.code yX7_replay cX7_replay 3 none, Cond.methodLink RX7 241 yX2_crossingsOf, Cond.instanceMethod yX2_crossingsOf, Cond.selects RX2 yX2_crossingsOf yX2_crossingsOf, Cond.code yX2_crossingsOf cX2_crossingsOf 5 (some .int), Cond.methodLink RL 81 yX8_work, Cond.instanceMethod yX8_work, Cond.selects RX8 yX8_work yX8_work, Cond.code yX8_work cX8_work 3 (some .int), Cond.methodLink RX8 283 yX8_wrong, Cond.instanceMethod yX8_wrong, Cond.selects RX8 yX8_wrong yX8_wrong, Cond.code yX8_wrong cX8_wrong 4 (some .int)]
def wsL_law_r32 : List Cond := [Cond.constant RX8 282 (-1000000006), Cond.methodLink RX8 203 yX8_theWork, Cond.instanceMethod yX8_theWork, Cond.selects RX8 yX8_theWork yX8_theWork, Cond.code yX8_theWork cX8_theWork 2 none, Cond.methodLink RX8 199 yX8_works, Cond.instanceMethod yX8_works, Cond.selects RX8 yX8_works yX8_works, Cond.code yX8_works cX8_works 4 none, Cond.methodLink RX8 279 yX8_threads, Cond.instanceMethod yX8_threads, Cond.selects RX8 yX8_threads yX8_threads, Cond.code yX8_threads cX8_threads 1 (some .int), Cond.methodLink RX8 286 yX8_doWork, Cond.instanceMethod yX8_doWork, Cond.selects RX8 yX8_doWork yX8_doWork, Cond.code yX8_doWork cX8_doWork 4 (some .int), Cond.methodLink RL 82 yX7_works, Cond.instanceMethod yX7_works, Cond.selects RX7 yX7_works yX7_works, Cond.code yX7_works cX7_works 4 (some .int), Cond.fieldLink RX7 244 "LacePillow$Sheet" "size" "I", Cond.fieldLink RX7 245 "LacePillow$Sheet" "numbers" "[J", Cond.methodLink RL 85 yX8_works_]
def wsL_law_r33 : List Cond := [Cond.instanceMethod yX8_works_, Cond.selects RX8 yX8_works_ yX8_works_, Cond.code yX8_works_ cX8_works_ 4 (some .int), Cond.methodLink RL 86 yX7_back, Cond.instanceMethod yX7_back, Cond.selects RX7 yX7_back yX7_back, Cond.code yX7_back cX7_back 1 (some .int), Cond.methodLink RL 89 yX8_back, Cond.instanceMethod yX8_back, Cond.selects RX8 yX8_back yX8_back, Cond.code yX8_back cX8_back 1 (some .int), Cond.methodLink RL 90 yX7_worked, Cond.instanceMethod yX7_worked, Cond.selects RX7 yX7_worked yX7_worked, Cond.code yX7_worked cX7_worked 2 (some .int), Cond.methodLink RL 93 yX8_worked, Cond.instanceMethod yX8_worked, Cond.selects RX8 yX8_worked yX8_worked, Cond.code yX8_worked cX8_worked 2 (some .int), Cond.methodLink RL 94 yX7_at, Cond.instanceMethod yX7_at, Cond.selects RX7 yX7_at yX7_at, Cond.code yX7_at cX7_at 2 (some .int), Cond.fieldLink RX7 257 "LacePillow$Weave" "threads" "[I"]
def wsL_law_r34 : List Cond := [Cond.methodLink RX7 254 yX7_isThread, Cond.instanceMethod yX7_isThread, Cond.selects RX7 yX7_isThread yX7_isThread, Cond.code yX7_isThread cX7_isThread 2 (some .boolean), Cond.methodLink RL 97 yX8_at, Cond.instanceMethod yX8_at, Cond.selects RX8 yX8_at yX8_at, Cond.code yX8_at cX8_at 2 (some .int), Cond.methodLink RL 98 yX7_wind, Cond.instanceMethod yX7_wind, Cond.selects RX7 yX7_wind yX7_wind, Cond.code yX7_wind cX7_wind 4 (some .int), Cond.fieldLink RX7 260 "LacePillow$Weave" "used" "[I", Cond.methodLink RL 101 yX8_wind, Cond.instanceMethod yX8_wind, Cond.selects RX8 yX8_wind yX8_wind, Cond.code yX8_wind cX8_wind 4 (some .int), Cond.constantLong RX8 292 (9999), Cond.methodLink RX8 289 yX8_isThread, Cond.instanceMethod yX8_isThread, Cond.selects RX8 yX8_isThread yX8_isThread, Cond.code yX8_isThread cX8_isThread 2 (some .boolean), Cond.methodLink RL 102 yX7_thread, Cond.instanceMethod yX7_thread]
def wsL_law_r35 : List Cond := [Cond.selects RX7 yX7_thread yX7_thread, Cond.code yX7_thread cX7_thread 3 (some .int), Cond.fieldLink RX7 272 "LacePillow$Weave" "overs" "[I", Cond.fieldLink RX7 275 "LacePillow$Weave" "unders" "[I", Cond.fieldLink RX7 278 "LacePillow$Weave" "falses" "[I", Cond.methodLink RX7 266 yX7_thinkStitches, Cond.instanceMethod yX7_thinkStitches, Cond.selects RX7 yX7_thinkStitches yX7_thinkStitches, Cond.code yX7_thinkStitches cX7_thinkStitches 3 none, Cond.methodLink RX7 269 yX6_turnsOf, Cond.methodLink RL 105 yX8_thread, Cond.instanceMethod yX8_thread, Cond.selects RX8 yX8_thread yX8_thread, Cond.code yX8_thread cX8_thread 3 (some .int), Cond.methodLink RX8 297 yX8_whole, Cond.instanceMethod yX8_whole, Cond.selects RX8 yX8_whole yX8_whole, Cond.code yX8_whole cX8_whole 2 none, Cond.methodLink RX8 206 yX8_first, Cond.instanceMethod yX8_first, Cond.selects RX8 yX8_first yX8_first, Cond.code yX8_first cX8_first 3 none, Cond.methodLink RX8 294 yX8_placeOf, Cond.instanceMethod yX8_placeOf]
def wsL_law_r36 : List Cond := [Cond.selects RX8 yX8_placeOf yX8_placeOf, Cond.code yX8_placeOf cX8_placeOf 3 (some .int), Cond.methodLink RX8 300 yX8_roundsOf, Cond.instanceMethod yX8_roundsOf, Cond.selects RX8 yX8_roundsOf yX8_roundsOf, Cond.code yX8_roundsOf cX8_roundsOf 4 (some .int), Cond.methodLink RX8 303 yX8_overs, Cond.instanceMethod yX8_overs, Cond.selects RX8 yX8_overs yX8_overs, Cond.code yX8_overs cX8_overs 5 (some .int), Cond.methodLink RX8 307 yX8_falseOf, Cond.instanceMethod yX8_falseOf, Cond.selects RX8 yX8_falseOf yX8_falseOf, Cond.code yX8_falseOf cX8_falseOf 6 (some .int), Cond.methodLink RL 106 yX7_place, Cond.instanceMethod yX7_place, Cond.selects RX7 yX7_place yX7_place, Cond.code yX7_place cX7_place 3 (some .int), Cond.methodLink RL 109 yX8_place, Cond.instanceMethod yX8_place, Cond.selects RX8 yX8_place yX8_place, Cond.code yX8_place cX8_place 3 (some .int), Cond.methodLink RL 110 yX7_rounds, Cond.instanceMethod yX7_rounds]
def wsL_law_r37 : List Cond := [Cond.selects RX7 yX7_rounds yX7_rounds, Cond.code yX7_rounds cX7_rounds 1 (some .long), Cond.methodLink RL 113 yX8_rounds, Cond.instanceMethod yX8_rounds, Cond.selects RX8 yX8_rounds yX8_rounds, Cond.code yX8_rounds cX8_rounds 6 (some .long), Cond.methodLink RX8 310 yX8_divisor, Cond.static yX8_divisor, Cond.code yX8_divisor cX8_divisor 10 (some .long), Cond.methodLink RL 114 yX7_link, Cond.instanceMethod yX7_link, Cond.selects RX7 yX7_link yX7_link, Cond.code yX7_link cX7_link 3 (some .int), Cond.fieldLink RX7 281 "LacePillow$Weave" "passes" "[I", Cond.methodLink RL 117 yX8_link, Cond.instanceMethod yX8_link, Cond.selects RX8 yX8_link yX8_link, Cond.code yX8_link cX8_link 5 (some .int), Cond.methodLink RL 118 yX7_meet, Cond.instanceMethod yX7_meet, Cond.selects RX7 yX7_meet yX7_meet, Cond.code yX7_meet cX7_meet 4 (some .int), Cond.methodLink RX7 284 yX6_haveCrossed, Cond.instanceMethod yX6_haveCrossed]
def wsL_law_r38 : List Cond := [Cond.selects RX6 yX6_haveCrossed yX6_haveCrossed, Cond.code yX6_haveCrossed cX6_haveCrossed 3 (some .boolean), Cond.methodLink RL 121 yX8_meet, Cond.instanceMethod yX8_meet, Cond.selects RX8 yX8_meet yX8_meet, Cond.code yX8_meet cX8_meet 4 (some .int), Cond.methodLink RL 122 yX7_lacks, Cond.instanceMethod yX7_lacks, Cond.selects RX7 yX7_lacks yX7_lacks, Cond.code yX7_lacks cX7_lacks 4 (some .int), Cond.methodLink RL 125 yX8_lacks, Cond.instanceMethod yX8_lacks, Cond.selects RX8 yX8_lacks yX8_lacks, Cond.code yX8_lacks cX8_lacks 4 (some .int), Cond.methodLink RL 126 yX7_lace, Cond.instanceMethod yX7_lace, Cond.selects RX7 yX7_lace yX7_lace, Cond.code yX7_lace cX7_lace 4 (some .int), Cond.methodLink RX7 291 yX7_weaveOf, Cond.instanceMethod yX7_weaveOf, Cond.selects RX7 yX7_weaveOf yX7_weaveOf, Cond.code yX7_weaveOf cX7_weaveOf 2 (some (.object "LacePillow$Weave")), Cond.methodLink RX7 295 yX1_countLayers, Cond.instanceMethod yX1_countLayers]
def wsL_law_r39 : List Cond := [Cond.selects RX1 yX1_countLayers yX1_countLayers, Cond.code yX1_countLayers cX1_countLayers 3 (some .int), Cond.methodLink RX7 298 yX1_countSign, Cond.instanceMethod yX1_countSign, Cond.selects RX1 yX1_countSign yX1_countSign, Cond.code yX1_countSign cX1_countSign 4 (some .int), Cond.methodLink RL 129 yX8_lace, Cond.instanceMethod yX8_lace, Cond.selects RX8 yX8_lace yX8_lace, Cond.code yX8_lace cX8_lace 6 (some .int), Cond.methodLink RL 130 yX7_layer, Cond.instanceMethod yX7_layer, Cond.selects RX7 yX7_layer yX7_layer, Cond.code yX7_layer cX7_layer 4 (some .int), Cond.methodLink RX7 301 yX1_signAt, Cond.instanceMethod yX1_signAt, Cond.selects RX1 yX1_signAt yX1_signAt, Cond.code yX1_signAt cX1_signAt 3 (some .int), Cond.methodLink RL 133 yX8_layer, Cond.instanceMethod yX8_layer, Cond.selects RX8 yX8_layer yX8_layer, Cond.code yX8_layer cX8_layer 5 (some .int), Cond.methodLink RX8 316 yX8_signIn, Cond.instanceMethod yX8_signIn]
def wsL_law_r40 : List Cond := [Cond.selects RX8 yX8_signIn yX8_signIn, Cond.code yX8_signIn cX8_signIn 4 (some .int), Cond.methodLink RL 134 yX7_repeat, Cond.instanceMethod yX7_repeat, Cond.selects RX7 yX7_repeat yX7_repeat, Cond.code yX7_repeat cX7_repeat 2 (some .int), Cond.methodLink RX7 305 yX2_repeatsBy, Cond.instanceMethod yX2_repeatsBy, Cond.selects RX2 yX2_repeatsBy yX2_repeatsBy, Cond.code yX2_repeatsBy cX2_repeatsBy 5 (some .boolean), Cond.methodLink RL 137 yX8_repeat, Cond.instanceMethod yX8_repeat, Cond.selects RX8 yX8_repeat yX8_repeat, Cond.code yX8_repeat cX8_repeat 4 (some .int), Cond.methodLink RX8 319 yX8_areRowsAlike, Cond.instanceMethod yX8_areRowsAlike, Cond.selects RX8 yX8_areRowsAlike yX8_areRowsAlike, Cond.code yX8_areRowsAlike cX8_areRowsAlike 4 (some .boolean), Cond.methodLink RL 138 yX7_motif, Cond.instanceMethod yX7_motif, Cond.selects RX7 yX7_motif yX7_motif, Cond.code yX7_motif cX7_motif 8 (some .int), Cond.methodLink RX7 308 yX2_fits, Cond.instanceMethod yX2_fits]
def wsL_law_r41 : List Cond := [Cond.selects RX2 yX2_fits yX2_fits, Cond.code yX2_fits cX2_fits 8 (some .boolean), Cond.fieldLink RX2 72 "LacePillow$Sheet" "size" "I", Cond.fieldLink RX2 77 "LacePillow$Sheet" "numbers" "[J", Cond.methodLink RX2 81 yX2_fitsCell, Cond.static yX2_fitsCell, Cond.code yX2_fitsCell cX2_fitsCell 3 (some .boolean), Cond.constantLong RX2 85 (-2), Cond.methodLink RL 141 yX8_motif, Cond.instanceMethod yX8_motif, Cond.selects RX8 yX8_motif yX8_motif, Cond.code yX8_motif cX8_motif 9 (some .int), Cond.methodLink RX8 328 yX8_isFound, Cond.instanceMethod yX8_isFound, Cond.selects RX8 yX8_isFound yX8_isFound, Cond.code yX8_isFound cX8_isFound 6 (some .boolean), Cond.methodLink RX8 324 yX8_fits, Cond.instanceMethod yX8_fits, Cond.selects RX8 yX8_fits yX8_fits, Cond.code yX8_fits cX8_fits 5 (some .boolean), Cond.constantLong RX8 322 (-2), Cond.methodLink RL 142 yX7_sheet, Cond.instanceMethod yX7_sheet, Cond.selects RX7 yX7_sheet yX7_sheet]
def wsL_law_r42 : List Cond := [Cond.code yX7_sheet cX7_sheet 4 (some .int), Cond.methodLink RX7 312 yX3_begin, Cond.instanceMethod yX3_begin, Cond.selects RX3 yX3_begin yX3_begin, Cond.code yX3_begin cX3_begin 3 none, Cond.methodLink RX3 22 yJ7_fill_d0a16, Cond.methodLink RL 145 yX8_sheet, Cond.instanceMethod yX8_sheet, Cond.selects RX8 yX8_sheet yX8_sheet, Cond.code yX8_sheet cX8_sheet 5 (some .int), Cond.methodLink RL 146 yX7_put, Cond.instanceMethod yX7_put, Cond.selects RX7 yX7_put yX7_put, Cond.code yX7_put cX7_put 5 (some .int), Cond.methodLink RX7 316 yX3_has, Cond.instanceMethod yX3_has, Cond.selects RX3 yX3_has yX3_has, Cond.code yX3_has cX3_has 2 (some .boolean), Cond.methodLink RX7 319 yX3_cut, Cond.instanceMethod yX3_cut, Cond.selects RX3 yX3_cut yX3_cut, Cond.code yX3_cut cX3_cut 3 (some .long), Cond.methodLink RL 150 yX8_put, Cond.instanceMethod yX8_put]
def wsL_law_r43 : List Cond := [Cond.selects RX8 yX8_put yX8_put, Cond.code yX8_put cX8_put 5 (some .int), Cond.methodLink RX8 332 yX8_isItem, Cond.instanceMethod yX8_isItem, Cond.selects RX8 yX8_isItem yX8_isItem, Cond.code yX8_isItem cX8_isItem 3 (some .boolean), Cond.methodLink RL 151 yX7_number, Cond.instanceMethod yX7_number, Cond.selects RX7 yX7_number yX7_number, Cond.code yX7_number cX7_number 3 (some .long), Cond.methodLink RL 155 yX8_number, Cond.instanceMethod yX8_number, Cond.selects RX8 yX8_number yX8_number, Cond.code yX8_number cX8_number 3 (some .long), Cond.methodLink RL 156 yX7_image, Cond.instanceMethod yX7_image, Cond.selects RX7 yX7_image yX7_image, Cond.code yX7_image cX7_image 1 (some .int), Cond.methodLink RX7 323 yX2_copyFrom, Cond.instanceMethod yX2_copyFrom, Cond.selects RX2 yX2_copyFrom yX2_copyFrom, Cond.code yX2_copyFrom cX2_copyFrom 2 none, Cond.methodLink RX2 66 arraycopyName, Cond.native arraycopyName]
def wsL_law_r44 : List Cond := [Cond.static arraycopyName, Cond.initialized "java/lang/System", Cond.methodLink RX7 326 yX1_copyFrom, Cond.instanceMethod yX1_copyFrom, Cond.selects RX1 yX1_copyFrom yX1_copyFrom, Cond.code yX1_copyFrom cX1_copyFrom 2 none, Cond.methodLink RX1 28 arraycopyName, Cond.methodLink RL 159 yX8_image, Cond.instanceMethod yX8_image, Cond.selects RX8 yX8_image yX8_image, Cond.code yX8_image cX8_image 1 (some .int), Cond.fieldLink RX8 339 "LacePillowModel" "isKept" "Z", Cond.methodLink RX8 335 yX8_copy, Cond.static yX8_copy, Cond.code yX8_copy cX8_copy 3 none, Cond.methodLink RL 160 yX7_restore, Cond.instanceMethod yX7_restore, Cond.selects RX7 yX7_restore yX7_restore, Cond.code yX7_restore cX7_restore 1 (some .int), Cond.methodLink RL 163 yX8_restore, Cond.instanceMethod yX8_restore, Cond.selects RX8 yX8_restore yX8_restore, Cond.code yX8_restore cX8_restore 1 (some .int), Cond.methodLink RL 164 yX7_alike]
def wsL_law_r45 : List Cond := [Cond.instanceMethod yX7_alike, Cond.selects RX7 yX7_alike yX7_alike, Cond.code yX7_alike cX7_alike 1 (some .int), Cond.methodLink RX7 332 yX1_isAs, Cond.instanceMethod yX1_isAs, Cond.selects RX1 yX1_isAs yX1_isAs, Cond.code yX1_isAs cX1_isAs 3 (some .boolean), Cond.methodLink RL 167 yX8_alike, Cond.instanceMethod yX8_alike, Cond.selects RX8 yX8_alike yX8_alike, Cond.code yX8_alike cX8_alike 5 (some .int), Cond.methodLink RL 168 yX7_count, Cond.instanceMethod yX7_count, Cond.selects RX7 yX7_count yX7_count, Cond.code yX7_count cX7_count 3 (some .int), Cond.methodLink RX7 336 yX7_sumOf, Cond.static yX7_sumOf, Cond.code yX7_sumOf cX7_sumOf 4 (some .int), Cond.methodLink RX7 340 yX6_countAtHome, Cond.instanceMethod yX6_countAtHome, Cond.selects RX6 yX6_countAtHome yX6_countAtHome, Cond.code yX6_countAtHome cX6_countAtHome 4 (some .int), Cond.methodLink RL 171 yX8_count, Cond.instanceMethod yX8_count]
def wsL_law_r46 : List Cond := [Cond.selects RX8 yX8_count yX8_count, Cond.code yX8_count cX8_count 2 (some .int), Cond.methodLink RX8 343 yX8_all, Cond.instanceMethod yX8_all, Cond.selects RX8 yX8_all yX8_all, Cond.code yX8_all cX8_all 4 (some .int), Cond.methodLink RX8 347 yX8_made, Cond.instanceMethod yX8_made, Cond.selects RX8 yX8_made yX8_made, Cond.code yX8_made cX8_made 1 (some .int), Cond.methodLink RX8 350 yX8_atHome, Cond.instanceMethod yX8_atHome, Cond.selects RX8 yX8_atHome yX8_atHome, Cond.code yX8_atHome cX8_atHome 3 (some .int), Cond.methodLink RL 172 yX7_told, Cond.instanceMethod yX7_told, Cond.selects RX7 yX7_told yX7_told, Cond.code yX7_told cX7_told 2 (some .int), Cond.methodLink RL 175 yX8_told, Cond.instanceMethod yX8_told, Cond.selects RX8 yX8_told yX8_told, Cond.code yX8_told cX8_told 2 (some .int)]
def wsL_law : List Cond := (wsL_law_r1 ++ (wsL_law_r2 ++ (wsL_law_r3 ++ (wsL_law_r4 ++ (wsL_law_r5 ++ (wsL_law_r6 ++ (wsL_law_r7 ++ (wsL_law_r8 ++ (wsL_law_r9 ++ (wsL_law_r10 ++ (wsL_law_r11 ++ (wsL_law_r12 ++ (wsL_law_r13 ++ (wsL_law_r14 ++ (wsL_law_r15 ++ (wsL_law_r16 ++ (wsL_law_r17 ++ (wsL_law_r18 ++ (wsL_law_r19 ++ (wsL_law_r20 ++ (wsL_law_r21 ++ (wsL_law_r22 ++ (wsL_law_r23 ++ (wsL_law_r24 ++ (wsL_law_r25 ++ (wsL_law_r26 ++ (wsL_law_r27 ++ (wsL_law_r28 ++ (wsL_law_r29 ++ (wsL_law_r30 ++ (wsL_law_r31 ++ (wsL_law_r32 ++ (wsL_law_r33 ++ (wsL_law_r34 ++ (wsL_law_r35 ++ (wsL_law_r36 ++ (wsL_law_r37 ++ (wsL_law_r38 ++ (wsL_law_r39 ++ (wsL_law_r40 ++ (wsL_law_r41 ++ (wsL_law_r42 ++ (wsL_law_r43 ++ (wsL_law_r44 ++ (wsL_law_r45 ++ wsL_law_r46))))))))))))))))))))))))))))))))))))))))))))) ++ wsX70 ++ wsX80 ++ wsX20 ++ wsX10 ++ wsX00 ++ wsX50 ++ wsX60 ++ wsX40 ++ wsX30 ++ ([] : List Cond)
set_option maxRecDepth 20000 in
theorem wsL_in_r1 : ∀ w ∈ wsL_law_r1, w ∈ lw_tbl := fun w h => (goodIn_p wsL_law_r1 [98, 101] (by decide +kernel) (by decide +kernel) w h).1
set_option maxRecDepth 20000 in
theorem wsL_in_r2 : ∀ w ∈ wsL_law_r2, w ∈ lw_tbl := fun w h => (goodIn_p wsL_law_r2 [] (by decide +kernel) (by decide +kernel) w h).1
set_option maxRecDepth 20000 in
theorem wsL_in_r3 : ∀ w ∈ wsL_law_r3, w ∈ lw_tbl := fun w h => (goodIn_p wsL_law_r3 [106, 110, 113, 123] (by decide +kernel) (by decide +kernel) w h).1
set_option maxRecDepth 20000 in
theorem wsL_in_r4 : ∀ w ∈ wsL_law_r4, w ∈ lw_tbl := fun w h => (goodIn_p wsL_law_r4 [127, 133, 137, 140, 143] (by decide +kernel) (by decide +kernel) w h).1
set_option maxRecDepth 20000 in
theorem wsL_in_r5 : ∀ w ∈ wsL_law_r5, w ∈ lw_tbl := fun w h => (goodIn_p wsL_law_r5 [148, 151, 154, 157, 161, 210] (by decide +kernel) (by decide +kernel) w h).1
set_option maxRecDepth 20000 in
theorem wsL_in_r6 : ∀ w ∈ wsL_law_r6, w ∈ lw_tbl := fun w h => (goodIn_p wsL_law_r6 [228, 269] (by decide +kernel) (by decide +kernel) w h).1
set_option maxRecDepth 20000 in
theorem wsL_in_r7 : ∀ w ∈ wsL_law_r7, w ∈ lw_tbl := fun w h => (goodIn_p wsL_law_r7 [296, 303, 349] (by decide +kernel) (by decide +kernel) w h).1
set_option maxRecDepth 20000 in
theorem wsL_in_r8 : ∀ w ∈ wsL_law_r8, w ∈ lw_tbl := fun w h => (goodIn_p wsL_law_r8 [365, 880] (by decide +kernel) (by decide +kernel) w h).1
set_option maxRecDepth 20000 in
theorem wsL_in_r9 : ∀ w ∈ wsL_law_r9, w ∈ lw_tbl := fun w h => (goodIn_p wsL_law_r9 [895] (by decide +kernel) (by decide +kernel) w h).1
set_option maxRecDepth 20000 in
theorem wsL_in_r10 : ∀ w ∈ wsL_law_r10, w ∈ lw_tbl := fun w h => (goodIn_p wsL_law_r10 [899, 903, 907, 427, 431] (by decide +kernel) (by decide +kernel) w h).1
set_option maxRecDepth 20000 in
theorem wsL_in_r11 : ∀ w ∈ wsL_law_r11, w ∈ lw_tbl := fun w h => (goodIn_p wsL_law_r11 [437, 441, 445, 449, 453] (by decide +kernel) (by decide +kernel) w h).1
set_option maxRecDepth 20000 in
theorem wsL_in_r12 : ∀ w ∈ wsL_law_r12, w ∈ lw_tbl := fun w h => (goodIn_p wsL_law_r12 [457, 460, 463, 1011, 1016, 1021] (by decide +kernel) (by decide +kernel) w h).1
set_option maxRecDepth 20000 in
theorem wsL_in_r13 : ∀ w ∈ wsL_law_r13, w ∈ lw_tbl := fun w h => (goodIn_p wsL_law_r13 [1026, 467, 471, 475, 1030] (by decide +kernel) (by decide +kernel) w h).1
set_option maxRecDepth 20000 in
theorem wsL_in_r14 : ∀ w ∈ wsL_law_r14, w ∈ lw_tbl := fun w h => (goodIn_p wsL_law_r14 [1034, 479, 1042, 483, 1046] (by decide +kernel) (by decide +kernel) w h).1
set_option maxRecDepth 20000 in
theorem wsL_in_r15 : ∀ w ∈ wsL_law_r15, w ∈ lw_tbl := fun w h => (goodIn_p wsL_law_r15 [487, 491, 495, 1052] (by decide +kernel) (by decide +kernel) w h).1
set_option maxRecDepth 20000 in
theorem wsL_in_r16 : ∀ w ∈ wsL_law_r16, w ∈ lw_tbl := fun w h => (goodIn_p wsL_law_r16 [1056, 500, 503, 507, 511, 514] (by decide +kernel) (by decide +kernel) w h).1
set_option maxRecDepth 20000 in
theorem wsL_in_r17 : ∀ w ∈ wsL_law_r17, w ∈ lw_tbl := fun w h => (goodIn_p wsL_law_r17 [1062, 1065, 518, 522, 526] (by decide +kernel) (by decide +kernel) w h).1
set_option maxRecDepth 20000 in
theorem wsL_in_r18 : ∀ w ∈ wsL_law_r18, w ∈ lw_tbl := fun w h => (goodIn_p wsL_law_r18 [530, 534, 538, 542, 547] (by decide +kernel) (by decide +kernel) w h).1
set_option maxRecDepth 20000 in
theorem wsL_in_r19 : ∀ w ∈ wsL_law_r19, w ∈ lw_tbl := fun w h => (goodIn_p wsL_law_r19 [551, 555, 558, 1077, 1082, 1086] (by decide +kernel) (by decide +kernel) w h).1
set_option maxRecDepth 20000 in
theorem wsL_in_r20 : ∀ w ∈ wsL_law_r20, w ∈ lw_tbl := fun w h => (goodIn_p wsL_law_r20 [1073, 1090, 1094, 1098, 1102, 562] (by decide +kernel) (by decide +kernel) w h).1
set_option maxRecDepth 20000 in
theorem wsL_in_r21 : ∀ w ∈ wsL_law_r21, w ∈ lw_tbl := fun w h => (goodIn_p wsL_law_r21 [1069, 566, 570, 574, 578] (by decide +kernel) (by decide +kernel) w h).1
set_option maxRecDepth 20000 in
theorem wsL_in_r22 : ∀ w ∈ wsL_law_r22, w ∈ lw_tbl := fun w h => (goodIn_p wsL_law_r22 [582, 586, 590, 595, 599, 1106] (by decide +kernel) (by decide +kernel) w h).1
set_option maxRecDepth 20000 in
theorem wsL_in_r23 : ∀ w ∈ wsL_law_r23, w ∈ lw_tbl := fun w h => (goodIn_p wsL_law_r23 [1110, 1114, 1118, 1122, 1126] (by decide +kernel) (by decide +kernel) w h).1
set_option maxRecDepth 20000 in
theorem wsL_in_r24 : ∀ w ∈ wsL_law_r24, w ∈ lw_tbl := fun w h => (goodIn_p wsL_law_r24 [1130, 1134, 1138, 603, 607] (by decide +kernel) (by decide +kernel) w h).1
set_option maxRecDepth 20000 in
theorem wsL_in_r25 : ∀ w ∈ wsL_law_r25, w ∈ lw_tbl := fun w h => (goodIn_p wsL_law_r25 [610, 617, 1143, 1147, 1150] (by decide +kernel) (by decide +kernel) w h).1
set_option maxRecDepth 20000 in
theorem wsL_in_r26 : ∀ w ∈ wsL_law_r26, w ∈ lw_tbl := fun w h => (goodIn_p wsL_law_r26 [1154, 622, 1158, 627, 631, 636] (by decide +kernel) (by decide +kernel) w h).1
set_option maxRecDepth 20000 in
theorem wsL_in_r27 : ∀ w ∈ wsL_law_r27, w ∈ lw_tbl := fun w h => (goodIn_p wsL_law_r27 [640, 644, 648, 652, 657] (by decide +kernel) (by decide +kernel) w h).1
set_option maxRecDepth 20000 in
theorem wsL_in_r28 : ∀ w ∈ wsL_law_r28, w ∈ lw_tbl := fun w h => (goodIn_p wsL_law_r28 [662, 1162, 1166, 1171, 1175] (by decide +kernel) (by decide +kernel) w h).1
set_option maxRecDepth 20000 in
theorem wsL_in_r29 : ∀ w ∈ wsL_law_r29, w ∈ lw_tbl := fun w h => (goodIn_p wsL_law_r29 [666, 670, 674, 1180, 678, 681] (by decide +kernel) (by decide +kernel) w h).1
set_option maxRecDepth 20000 in
theorem wsL_in_r30 : ∀ w ∈ wsL_law_r30, w ∈ lw_tbl := fun w h => (goodIn_p wsL_law_r30 [685, 1184, 1187, 1193, 690] (by decide +kernel) (by decide +kernel) w h).1
set_option maxRecDepth 20000 in
theorem wsL_in_r31 : ∀ w ∈ wsL_law_r31, w ∈ lw_tbl := fun w h => (goodIn_p wsL_law_r31 [694, 698, 702, 706, 1197, 1201] (by decide +kernel) (by decide +kernel) w h).1
set_option maxRecDepth 20000 in
theorem wsL_in_r32 : ∀ w ∈ wsL_law_r32, w ∈ lw_tbl := fun w h => (goodIn_p wsL_law_r32 [1205, 1209, 1213, 1218, 710] (by decide +kernel) (by decide +kernel) w h).1
set_option maxRecDepth 20000 in
theorem wsL_in_r33 : ∀ w ∈ wsL_law_r33, w ∈ lw_tbl := fun w h => (goodIn_p wsL_law_r33 [1222, 714, 1226, 718, 1230, 722] (by decide +kernel) (by decide +kernel) w h).1
set_option maxRecDepth 20000 in
theorem wsL_in_r34 : ∀ w ∈ wsL_law_r34, w ∈ lw_tbl := fun w h => (goodIn_p wsL_law_r34 [726, 1234, 730, 1238, 1242] (by decide +kernel) (by decide +kernel) w h).1
set_option maxRecDepth 20000 in
theorem wsL_in_r35 : ∀ w ∈ wsL_law_r35, w ∈ lw_tbl := fun w h => (goodIn_p wsL_law_r35 [734, 738, 1247, 1251, 1255] (by decide +kernel) (by decide +kernel) w h).1
set_option maxRecDepth 20000 in
theorem wsL_in_r36 : ∀ w ∈ wsL_law_r36, w ∈ lw_tbl := fun w h => (goodIn_p wsL_law_r36 [1259, 1263, 1267, 1271, 743, 1275] (by decide +kernel) (by decide +kernel) w h).1
set_option maxRecDepth 20000 in
theorem wsL_in_r37 : ∀ w ∈ wsL_law_r37, w ∈ lw_tbl := fun w h => (goodIn_p wsL_law_r37 [747, 1279, 1282, 751, 1286, 755] (by decide +kernel) (by decide +kernel) w h).1
set_option maxRecDepth 20000 in
theorem wsL_in_r38 : ∀ w ∈ wsL_law_r38, w ∈ lw_tbl := fun w h => (goodIn_p wsL_law_r38 [759, 1290, 763, 1294, 767, 771] (by decide +kernel) (by decide +kernel) w h).1
set_option maxRecDepth 20000 in
theorem wsL_in_r39 : ∀ w ∈ wsL_law_r39, w ∈ lw_tbl := fun w h => (goodIn_p wsL_law_r39 [775, 779, 1298, 783, 787, 1302] (by decide +kernel) (by decide +kernel) w h).1
set_option maxRecDepth 20000 in
theorem wsL_in_r40 : ∀ w ∈ wsL_law_r40, w ∈ lw_tbl := fun w h => (goodIn_p wsL_law_r40 [1306, 791, 795, 1310, 1314, 799] (by decide +kernel) (by decide +kernel) w h).1
set_option maxRecDepth 20000 in
theorem wsL_in_r41 : ∀ w ∈ wsL_law_r41, w ∈ lw_tbl := fun w h => (goodIn_p wsL_law_r41 [803, 806, 1318, 1322, 1326] (by decide +kernel) (by decide +kernel) w h).1
set_option maxRecDepth 20000 in
theorem wsL_in_r42 : ∀ w ∈ wsL_law_r42, w ∈ lw_tbl := fun w h => (goodIn_p wsL_law_r42 [811, 815, 1331, 820, 824, 828] (by decide +kernel) (by decide +kernel) w h).1
set_option maxRecDepth 20000 in
theorem wsL_in_r43 : ∀ w ∈ wsL_law_r43, w ∈ lw_tbl := fun w h => (goodIn_p wsL_law_r43 [1335, 1339, 832, 1343, 836, 840] (by decide +kernel) (by decide +kernel) w h).1
set_option maxRecDepth 20000 in
theorem wsL_in_r44 : ∀ w ∈ wsL_law_r44, w ∈ lw_tbl := fun w h => (goodIn_p wsL_law_r44 [847, 1347, 1350, 852, 1354] (by decide +kernel) (by decide +kernel) w h).1
set_option maxRecDepth 20000 in
theorem wsL_in_r45 : ∀ w ∈ wsL_law_r45, w ∈ lw_tbl := fun w h => (goodIn_p wsL_law_r45 [856, 860, 1358, 864, 867, 871] (by decide +kernel) (by decide +kernel) w h).1
set_option maxRecDepth 20000 in
theorem wsL_in_r46 : ∀ w ∈ wsL_law_r46, w ∈ lw_tbl := fun w h => (goodIn_p wsL_law_r46 [1362, 1366, 1370, 1374, 875, 1378] (by decide +kernel) (by decide +kernel) w h).1
theorem wsL_in_wsX70 : ∀ w ∈ wsX70, w ∈ lw_tbl := by decide +kernel
theorem wsL_in_wsX80 : ∀ w ∈ wsX80, w ∈ lw_tbl := by decide +kernel
theorem wsL_in_wsX20 : ∀ w ∈ wsX20, w ∈ lw_tbl := by decide +kernel
theorem wsL_in_wsX10 : ∀ w ∈ wsX10, w ∈ lw_tbl := by decide +kernel
theorem wsL_in_wsX00 : ∀ w ∈ wsX00, w ∈ lw_tbl := by decide +kernel
theorem wsL_in_wsX50 : ∀ w ∈ wsX50, w ∈ lw_tbl := by decide +kernel
theorem wsL_in_wsX60 : ∀ w ∈ wsX60, w ∈ lw_tbl := by decide +kernel
theorem wsL_in_wsX40 : ∀ w ∈ wsX40, w ∈ lw_tbl := by decide +kernel
theorem wsL_in_wsX30 : ∀ w ∈ wsX30, w ∈ lw_tbl := by decide +kernel
set_option maxRecDepth 20000 in
theorem wsL_law_in : ∀ w ∈ wsL_law, w ∈ lw_tbl := List.forall_mem_append.mpr ⟨List.forall_mem_append.mpr ⟨List.forall_mem_append.mpr ⟨List.forall_mem_append.mpr ⟨List.forall_mem_append.mpr ⟨List.forall_mem_append.mpr ⟨List.forall_mem_append.mpr ⟨List.forall_mem_append.mpr ⟨List.forall_mem_append.mpr ⟨List.forall_mem_append.mpr ⟨List.forall_mem_append.mpr ⟨wsL_in_r1, List.forall_mem_append.mpr ⟨wsL_in_r2, List.forall_mem_append.mpr ⟨wsL_in_r3, List.forall_mem_append.mpr ⟨wsL_in_r4, List.forall_mem_append.mpr ⟨wsL_in_r5, List.forall_mem_append.mpr ⟨wsL_in_r6, List.forall_mem_append.mpr ⟨wsL_in_r7, List.forall_mem_append.mpr ⟨wsL_in_r8, List.forall_mem_append.mpr ⟨wsL_in_r9, List.forall_mem_append.mpr ⟨wsL_in_r10, List.forall_mem_append.mpr ⟨wsL_in_r11, List.forall_mem_append.mpr ⟨wsL_in_r12, List.forall_mem_append.mpr ⟨wsL_in_r13, List.forall_mem_append.mpr ⟨wsL_in_r14, List.forall_mem_append.mpr ⟨wsL_in_r15, List.forall_mem_append.mpr ⟨wsL_in_r16, List.forall_mem_append.mpr ⟨wsL_in_r17, List.forall_mem_append.mpr ⟨wsL_in_r18, List.forall_mem_append.mpr ⟨wsL_in_r19, List.forall_mem_append.mpr ⟨wsL_in_r20, List.forall_mem_append.mpr ⟨wsL_in_r21, List.forall_mem_append.mpr ⟨wsL_in_r22, List.forall_mem_append.mpr ⟨wsL_in_r23, List.forall_mem_append.mpr ⟨wsL_in_r24, List.forall_mem_append.mpr ⟨wsL_in_r25, List.forall_mem_append.mpr ⟨wsL_in_r26, List.forall_mem_append.mpr ⟨wsL_in_r27, List.forall_mem_append.mpr ⟨wsL_in_r28, List.forall_mem_append.mpr ⟨wsL_in_r29, List.forall_mem_append.mpr ⟨wsL_in_r30, List.forall_mem_append.mpr ⟨wsL_in_r31, List.forall_mem_append.mpr ⟨wsL_in_r32, List.forall_mem_append.mpr ⟨wsL_in_r33, List.forall_mem_append.mpr ⟨wsL_in_r34, List.forall_mem_append.mpr ⟨wsL_in_r35, List.forall_mem_append.mpr ⟨wsL_in_r36, List.forall_mem_append.mpr ⟨wsL_in_r37, List.forall_mem_append.mpr ⟨wsL_in_r38, List.forall_mem_append.mpr ⟨wsL_in_r39, List.forall_mem_append.mpr ⟨wsL_in_r40, List.forall_mem_append.mpr ⟨wsL_in_r41, List.forall_mem_append.mpr ⟨wsL_in_r42, List.forall_mem_append.mpr ⟨wsL_in_r43, List.forall_mem_append.mpr ⟨wsL_in_r44, List.forall_mem_append.mpr ⟨wsL_in_r45, wsL_in_r46⟩⟩⟩⟩⟩⟩⟩⟩⟩⟩⟩⟩⟩⟩⟩⟩⟩⟩⟩⟩⟩⟩⟩⟩⟩⟩⟩⟩⟩⟩⟩⟩⟩⟩⟩⟩⟩⟩⟩⟩⟩⟩⟩⟩⟩, wsL_in_wsX70⟩, wsL_in_wsX80⟩, wsL_in_wsX20⟩, wsL_in_wsX10⟩, wsL_in_wsX00⟩, wsL_in_wsX50⟩, wsL_in_wsX60⟩, wsL_in_wsX40⟩, wsL_in_wsX30⟩, fun _ h => absurd h List.not_mem_nil⟩
theorem inlX0 : ∀ w ∈ wsX00, w ∈ wsL_law := fun _ h => List.mem_append_left _ (List.mem_append_left _ (List.mem_append_left _ (List.mem_append_left _ (List.mem_append_left _ (List.mem_append_right _ h)))))
theorem inX0 : ∀ w ∈ wsX00, w ∈ lw_tbl := fun w h => wsL_law_in w (inlX0 w h)
theorem inlX1 : ∀ w ∈ wsX10, w ∈ wsL_law := fun _ h => List.mem_append_left _ (List.mem_append_left _ (List.mem_append_left _ (List.mem_append_left _ (List.mem_append_left _ (List.mem_append_left _ (List.mem_append_right _ h))))))
theorem inX1 : ∀ w ∈ wsX10, w ∈ lw_tbl := fun w h => wsL_law_in w (inlX1 w h)
theorem inlX2 : ∀ w ∈ wsX20, w ∈ wsL_law := fun _ h => List.mem_append_left _ (List.mem_append_left _ (List.mem_append_left _ (List.mem_append_left _ (List.mem_append_left _ (List.mem_append_left _ (List.mem_append_left _ (List.mem_append_right _ h)))))))
theorem inX2 : ∀ w ∈ wsX20, w ∈ lw_tbl := fun w h => wsL_law_in w (inlX2 w h)
theorem inlX3 : ∀ w ∈ wsX30, w ∈ wsL_law := fun _ h => List.mem_append_left _ (List.mem_append_right _ h)
theorem inX3 : ∀ w ∈ wsX30, w ∈ lw_tbl := fun w h => wsL_law_in w (inlX3 w h)
theorem inlX4 : ∀ w ∈ wsX40, w ∈ wsL_law := fun _ h => List.mem_append_left _ (List.mem_append_left _ (List.mem_append_right _ h))
theorem inX4 : ∀ w ∈ wsX40, w ∈ lw_tbl := fun w h => wsL_law_in w (inlX4 w h)
theorem inlX5 : ∀ w ∈ wsX50, w ∈ wsL_law := fun _ h => List.mem_append_left _ (List.mem_append_left _ (List.mem_append_left _ (List.mem_append_left _ (List.mem_append_right _ h))))
theorem inX5 : ∀ w ∈ wsX50, w ∈ lw_tbl := fun w h => wsL_law_in w (inlX5 w h)
theorem inlX6 : ∀ w ∈ wsX60, w ∈ wsL_law := fun _ h => List.mem_append_left _ (List.mem_append_left _ (List.mem_append_left _ (List.mem_append_right _ h)))
theorem inX6 : ∀ w ∈ wsX60, w ∈ lw_tbl := fun w h => wsL_law_in w (inlX6 w h)
theorem inlX7 : ∀ w ∈ wsX70, w ∈ wsL_law := fun _ h => List.mem_append_left _ (List.mem_append_left _ (List.mem_append_left _ (List.mem_append_left _ (List.mem_append_left _ (List.mem_append_left _ (List.mem_append_left _ (List.mem_append_left _ (List.mem_append_left _ (List.mem_append_right _ h)))))))))
theorem inX7 : ∀ w ∈ wsX70, w ∈ lw_tbl := fun w h => wsL_law_in w (inlX7 w h)
theorem inlX8 : ∀ w ∈ wsX80, w ∈ wsL_law := fun _ h => List.mem_append_left _ (List.mem_append_left _ (List.mem_append_left _ (List.mem_append_left _ (List.mem_append_left _ (List.mem_append_left _ (List.mem_append_left _ (List.mem_append_left _ (List.mem_append_right _ h))))))))
theorem inX8 : ∀ w ∈ wsX80, w ∈ lw_tbl := fun w h => wsL_law_in w (inlX8 w h)
theorem inJ13 : ∀ w ∈ wsJ130, w ∈ lw_tbl := by decide +kernel
theorem inJ9 : ∀ w ∈ wsJ90, w ∈ lw_tbl := by decide +kernel
theorem inJ0 : ∀ w ∈ wsJ00, w ∈ lw_tbl := by decide +kernel
theorem inJ1 : ∀ w ∈ wsJ10, w ∈ lw_tbl := by decide +kernel
theorem inJ2 : ∀ w ∈ wsJ20, w ∈ lw_tbl := by decide +kernel
theorem inJ10 : ∀ w ∈ wsJ100, w ∈ lw_tbl := by decide +kernel
theorem inJ7 : ∀ w ∈ wsJ70, w ∈ lw_tbl := by decide +kernel
theorem inJ3 : ∀ w ∈ wsJ30, w ∈ lw_tbl := by decide +kernel
set_option maxRecDepth 20000 in
theorem ggL_law_X7_init : GoodIn wsL_law wsX7_init := goodIn_r _ [9, 10, 11, 12, 13, 14, 15, 16, 17, 18, 19, 20, 21, 22, 23, 24, 25, 26, 27, 28, 29, 30, 31, 32, 33, 34, 35, 36, 37, 38, 39, 40, 41, 42, 43, 44, 45, 46, 47, 48, 49, 50, 51, 52, 53, 54, 55, 56, 57, 58, 59, 60, 61, 62, 63, 64, 65, 66, 67, 68, 69, 70, 71, 72, 73, 74, 75, 76, 77, 78, 79, 80, 81, 82, 83, 84, 85, 86, 87, 88, 89, 90, 91, 92, 93, 94, 95, 96, 97, 98, 99, 100, 101, 102, 103, 104, 105, 106, 107, 108, 109, 110, 111, 112, 113, 114, 115, 116, 117, 118, 119, 120, 121, 122, 123, 124, 125, 126, 127, 128, 129, 130, 131, 132, 133, 134, 135, 136, 137, 138, 139, 140, 141, 142, 143, 144, 145, 146, 147, 148, 149, 150, 151, 152, 153, 154, 155, 156, 157, 158, 159, 160, 161, 162, 163, 164, 165, 166, 167, 168, 169, 170, 171, 172, 173, 174, 175, 1148, 1149, 1150, 1151, 1152, 1153, 1154, 1102, 1103, 1104, 1105, 1106, 1107, 1108, 1109, 1110, 1111, 1112, 1113, 1114, 1155, 1156, 1157, 1158, 1159, 1160, 1161, 1162, 1163, 1164, 1165, 1166, 1167, 1168, 1169, 1170, 1171, 1172, 1173, 1174, 1175, 1176, 1177, 1178, 1179, 1180, 1181, 1182, 1183, 1184, 1185, 1186] (by decide +kernel) (by decide +kernel)
set_option maxRecDepth 20000 in
theorem gL_law_X7_init : GoodIn wsL_law (wsX7_init) := ggL_law_X7_init
set_option maxRecDepth 20000 in
theorem ggL_law_X8_init : GoodIn wsL_law wsX8_init := goodIn_r _ [178, 179, 11, 12, 44, 180, 181, 182, 183, 184, 185, 186, 187, 132, 188, 189, 190, 191, 192, 193, 194, 195, 196, 197, 198, 199, 200, 201, 202, 203, 204, 205, 206, 207, 208, 67, 68, 69, 70, 71, 72, 73, 74, 75, 76, 77, 209, 79, 80, 81, 82, 83, 84, 85, 86, 87, 88, 89, 90, 91, 92, 93, 94, 95, 96, 97, 98, 99, 100, 101, 102, 103, 104, 105, 106, 107, 108, 109, 110, 111, 112, 113, 114, 210, 211, 212, 5, 213, 214, 215, 216, 217, 218, 219, 220, 221, 222, 223, 224, 225, 226, 1115, 1116, 1117, 1118, 1119, 1120, 1121, 1122, 1123, 1124, 1125, 1126, 1127, 1128, 1129, 1130, 1131, 1132, 1133, 1134, 1135, 1136, 1137, 1138, 1139, 1140, 1141, 1142, 1143, 1144, 1145, 1146, 1147] (by decide +kernel) (by decide +kernel)
set_option maxRecDepth 20000 in
theorem gL_law_X8_init : GoodIn wsL_law (wsX8_init) := ggL_law_X8_init
set_option maxRecDepth 20000 in
theorem ggL_law_X7_pairs : GoodIn wsL_law wsX7_pairs := goodIn_r _ [230, 16, 231, 232, 233, 234, 235, 2, 236, 45, 237, 238, 60, 61, 62, 239, 240, 241, 242, 243, 34, 37, 244, 245, 246, 33, 247, 150, 151, 152, 153, 154, 155, 157, 158, 160, 161, 162, 163, 148, 149, 164, 248, 249, 250, 20, 251, 119, 120, 121, 122, 252, 253, 254, 255, 26, 30, 256, 36, 257, 258, 259, 25, 260, 126, 127, 261, 262, 263, 264, 265, 266, 128, 129, 130, 131, 133, 267, 268, 269, 270, 271, 272, 273, 1102, 1103, 1104, 1105, 1106, 1107, 1108, 1109, 1110, 1111, 1112, 1113, 1114, 1148, 1149, 1150, 1151, 1152, 1153, 1154, 1172, 1173, 1174, 1175, 1176, 1177, 1178, 1179, 1180, 1181, 1155, 1156, 1157, 1166, 1167, 1168, 1169, 1170, 1171, 1158, 1159, 1160, 1161, 1162, 1163, 1164, 1165] (by decide +kernel) (by decide +kernel)
set_option maxRecDepth 20000 in
theorem gL_law_X7_pairs : GoodIn wsL_law (wsV RL 13 RX7 yX7_pairs wsX7_pairs) := goodIn_app (goodIn_of _ (by decide +kernel)) ggL_law_X7_pairs
set_option maxRecDepth 20000 in
theorem ggL_law_X8_pairs : GoodIn wsL_law wsX8_pairs := goodIn_r _ [277, 278, 279, 280, 180, 281, 282, 5, 283, 284, 285, 286, 287, 183, 288, 289, 290, 291, 292, 210, 211, 212, 213, 214, 215, 216, 217, 218, 219, 220, 221, 222, 223, 224, 225, 226, 184, 185, 186, 188, 187, 1115, 1116, 1117, 1118, 1119, 1120, 1121, 1122, 1123, 1124, 1125, 1126, 1127, 1128, 1129, 1130, 1131, 1132, 1133, 1134, 1135, 1136, 1137, 1138, 1139, 1140, 1141, 1142, 1143, 1144, 1145, 1146, 1147] (by decide +kernel) (by decide +kernel)
set_option maxRecDepth 20000 in
theorem gL_law_X8_pairs : GoodIn wsL_law (wsV RL 17 RX8 yX8_pairs wsX8_pairs) := goodIn_app (goodIn_of _ (by decide +kernel)) ggL_law_X8_pairs
set_option maxRecDepth 20000 in
theorem ggL_law_X7_lay : GoodIn wsL_law wsX7_lay := goodIn_r _ [296, 16, 232, 297, 298, 299, 2, 300, 231, 233, 234, 235, 236, 45, 237, 301, 302, 303, 304, 239, 240, 241, 242, 243, 34, 37, 244, 245, 246, 33, 247, 150, 151, 152, 153, 154, 155, 157, 158, 160, 161, 162, 163, 148, 149, 164, 60, 61, 62, 248, 249, 250, 20, 251, 119, 120, 121, 122, 252, 253, 254, 255, 26, 30, 256, 36, 257, 258, 259, 25, 260, 126, 127, 261, 262, 263, 264, 265, 266, 128, 129, 130, 131, 133, 267, 268, 269, 270, 271, 272, 273, 1102, 1103, 1104, 1105, 1106, 1107, 1108, 1109, 1110, 1111, 1112, 1113, 1114, 1148, 1149, 1150, 1151, 1152, 1153, 1154, 1172, 1173, 1174, 1175, 1176, 1177, 1178, 1179, 1180, 1181, 1155, 1156, 1157, 1166, 1167, 1168, 1169, 1170, 1171, 1158, 1159, 1160, 1161, 1162, 1163, 1164, 1165] (by decide +kernel) (by decide +kernel)
set_option maxRecDepth 20000 in
theorem gL_law_X7_lay : GoodIn wsL_law (wsV RL 18 RX7 yX7_lay wsX7_lay) := goodIn_app (goodIn_of _ (by decide +kernel)) ggL_law_X7_lay
set_option maxRecDepth 20000 in
theorem ggL_law_X8_lay : GoodIn wsL_law wsX8_lay := goodIn_r _ [308, 309, 310, 280, 311, 180, 312, 313, 314, 5, 315, 316, 281, 282, 283, 215, 216, 217, 218, 284, 285, 286, 287, 183, 288, 219, 220, 221, 222, 289, 290, 291, 292, 210, 211, 212, 213, 214, 223, 224, 225, 226, 184, 185, 186, 188, 187, 1115, 1116, 1117, 1118, 1119, 1120, 1121, 1122, 1123, 1124, 1125, 1126, 1127, 1128, 1129, 1130, 1131, 1132, 1133, 1134, 1135, 1136, 1137, 1138, 1139, 1140, 1141, 1142, 1143, 1144, 1145, 1146, 1147] (by decide +kernel) (by decide +kernel)
set_option maxRecDepth 20000 in
theorem gL_law_X8_lay : GoodIn wsL_law (wsV RL 22 RX8 yX8_lay wsX8_lay) := goodIn_app (goodIn_of _ (by decide +kernel)) ggL_law_X8_lay
set_option maxRecDepth 20000 in
theorem ggL_law_X7_look : GoodIn wsL_law wsX7_look := goodIn_r _ [320, 16, 232, 297, 298, 299, 2, 300, 231, 233, 234, 235, 236, 45, 237, 1102, 1103, 1104, 1105, 1106, 1107, 1108, 1109, 1110, 1111, 1112, 1113, 1114, 1148, 1149, 1150, 1151, 1152, 1153, 1154] (by decide +kernel) (by decide +kernel)
set_option maxRecDepth 20000 in
theorem gL_law_X7_look : GoodIn wsL_law (wsV RL 23 RX7 yX7_look wsX7_look) := goodIn_app (goodIn_of _ (by decide +kernel)) ggL_law_X7_look
set_option maxRecDepth 20000 in
theorem ggL_law_X8_look : GoodIn wsL_law wsX8_look := goodIn_r _ [324, 280, 312, 313, 314, 5, 315, 316, 281, 282, 283, 215, 216, 217, 218, 180, 219, 220, 221, 222, 284, 285, 286, 287, 183, 288, 1115, 1116, 1117, 1118, 1119, 1120, 1121, 1122, 1123, 1124, 1125, 1126, 1127, 1128, 1129, 1130, 1131, 1132, 1133, 1134, 1135, 1136, 1137, 1138, 1139, 1140, 1141, 1142, 1143, 1144, 1145, 1146, 1147] (by decide +kernel) (by decide +kernel)
set_option maxRecDepth 20000 in
theorem gL_law_X8_look : GoodIn wsL_law (wsV RL 27 RX8 yX8_look wsX8_look) := goodIn_app (goodIn_of _ (by decide +kernel)) ggL_law_X8_look
set_option maxRecDepth 20000 in
theorem ggL_law_X7_feed : GoodIn wsL_law wsX7_feed := goodIn_r _ [328, 41, 329, 330, 233, 234, 235, 2, 236, 45, 237, 1102, 1103, 1104, 1105, 1106, 1107, 1108, 1109, 1110, 1111, 1112, 1113, 1114, 1182, 1183] (by decide +kernel) (by decide +kernel)
set_option maxRecDepth 20000 in
theorem gL_law_X7_feed : GoodIn wsL_law (wsV RL 28 RX7 yX7_feed wsX7_feed) := goodIn_app (goodIn_of _ (by decide +kernel)) ggL_law_X7_feed
set_option maxRecDepth 20000 in
theorem ggL_law_X8_feed : GoodIn wsL_law wsX8_feed := goodIn_r _ [334, 335, 280, 336, 337, 189, 281, 282, 5, 283, 284, 285, 286, 287, 183, 288, 1115, 1116, 1117, 1118, 1119, 1120, 1121, 1122, 1123, 1124, 1125, 1126, 1127, 1128, 1129, 1130, 1131, 1132, 1133, 1134, 1135, 1136, 1137, 1138, 1139, 1140, 1141, 1142, 1143, 1144, 1145, 1146, 1147] (by decide +kernel) (by decide +kernel)
set_option maxRecDepth 20000 in
theorem gL_law_X8_feed : GoodIn wsL_law (wsV RL 31 RX8 yX8_feed wsX8_feed) := goodIn_app (goodIn_of _ (by decide +kernel)) ggL_law_X8_feed
set_option maxRecDepth 20000 in
theorem ggL_law_X7_read : GoodIn wsL_law wsX7_read := goodIn_r _ [341, 41, 16, 231, 329, 26, 342, 343, 344, 345, 40, 346, 169, 168, 347, 348, 349, 350, 351, 352, 60, 61, 62, 239, 240, 241, 2, 242, 243, 34, 37, 244, 245, 246, 33, 247, 150, 151, 152, 153, 154, 155, 157, 158, 160, 161, 162, 163, 148, 149, 164, 248, 249, 250, 20, 251, 119, 120, 121, 122, 252, 253, 254, 255, 30, 256, 36, 257, 258, 259, 25, 260, 126, 127, 261, 262, 263, 264, 265, 266, 128, 129, 130, 131, 133, 267, 268, 269, 270, 271, 272, 273, 1102, 1103, 1104, 1105, 1106, 1107, 1108, 1109, 1110, 1111, 1112, 1113, 1114, 1148, 1149, 1150, 1151, 1152, 1153, 1154, 1182, 1183, 1158, 1159, 1160, 1161, 1162, 1163, 1164, 1165, 1172, 1173, 1174, 1175, 1176, 1177, 1178, 1179, 1180, 1181, 1155, 1156, 1157, 1166, 1167, 1168, 1169, 1170, 1171] (by decide +kernel) (by decide +kernel)
set_option maxRecDepth 20000 in
theorem gL_law_X7_read : GoodIn wsL_law (wsV RL 32 RX7 yX7_read wsX7_read) := goodIn_app (goodIn_of _ (by decide +kernel)) ggL_law_X7_read
set_option maxRecDepth 20000 in
theorem ggL_law_X8_read : GoodIn wsL_law wsX8_read := goodIn_r _ [356, 336, 180, 189, 214, 357, 358, 359, 5, 360, 361, 362, 215, 216, 217, 218, 281, 282, 283, 289, 290, 291, 292, 210, 211, 212, 213, 219, 220, 221, 222, 223, 224, 225, 226, 184, 185, 186, 188, 187, 1115, 1116, 1117, 1118, 1119, 1120, 1121, 1122, 1123, 1124, 1125, 1126, 1127, 1128, 1129, 1130, 1131, 1132, 1133, 1134, 1135, 1136, 1137, 1138, 1139, 1140, 1141, 1142, 1143, 1144, 1145, 1146, 1147] (by decide +kernel) (by decide +kernel)
set_option maxRecDepth 20000 in
theorem gL_law_X8_read : GoodIn wsL_law (wsV RL 36 RX8 yX8_read wsX8_read) := goodIn_app (goodIn_of _ (by decide +kernel)) ggL_law_X8_read
set_option maxRecDepth 20000 in
theorem ggL_law_X7_spell : GoodIn wsL_law wsX7_spell := goodIn_r _ [366, 41, 16, 329, 367, 368, 369, 2, 370, 233, 234, 235, 236, 45, 237, 371, 372, 373, 40, 374, 169, 168, 375, 376, 377, 378, 379, 380, 381, 382, 269, 383, 239, 240, 241, 242, 243, 34, 37, 244, 245, 246, 33, 247, 150, 151, 152, 153, 154, 155, 157, 158, 160, 161, 162, 163, 148, 149, 164, 60, 61, 62, 248, 249, 250, 20, 251, 119, 120, 121, 122, 252, 253, 254, 255, 26, 30, 256, 36, 257, 258, 259, 25, 260, 126, 127, 261, 262, 263, 264, 265, 266, 128, 129, 130, 131, 133, 267, 268, 270, 271, 272, 273, 1102, 1103, 1104, 1105, 1106, 1107, 1108, 1109, 1110, 1111, 1112, 1113, 1114, 1182, 1183, 1148, 1149, 1150, 1151, 1152, 1153, 1154, 1172, 1173, 1174, 1175, 1176, 1177, 1178, 1179, 1180, 1181, 1155, 1156, 1157, 1166, 1167, 1168, 1169, 1170, 1171, 1158, 1159, 1160, 1161, 1162, 1163, 1164, 1165] (by decide +kernel) (by decide +kernel)
set_option maxRecDepth 20000 in
theorem gL_law_X7_spell : GoodIn wsL_law (wsV RL 37 RX7 yX7_spell wsX7_spell) := goodIn_app (goodIn_of _ (by decide +kernel)) ggL_law_X7_spell
set_option maxRecDepth 20000 in
theorem ggL_law_X8_spell : GoodIn wsL_law wsX8_spell := goodIn_r _ [387, 310, 280, 336, 189, 180, 281, 282, 5, 283, 284, 285, 286, 287, 183, 288, 388, 389, 390, 289, 290, 291, 292, 210, 211, 212, 213, 214, 215, 216, 217, 218, 219, 220, 221, 222, 223, 224, 225, 226, 184, 185, 186, 188, 187, 1115, 1116, 1117, 1118, 1119, 1120, 1121, 1122, 1123, 1124, 1125, 1126, 1127, 1128, 1129, 1130, 1131, 1132, 1133, 1134, 1135, 1136, 1137, 1138, 1139, 1140, 1141, 1142, 1143, 1144, 1145, 1146, 1147] (by decide +kernel) (by decide +kernel)
set_option maxRecDepth 20000 in
theorem gL_law_X8_spell : GoodIn wsL_law (wsV RL 40 RX8 yX8_spell wsX8_spell) := goodIn_app (goodIn_of _ (by decide +kernel)) ggL_law_X8_spell
set_option maxRecDepth 20000 in
theorem ggL_law_X7_word : GoodIn wsL_law wsX7_word := goodIn_r _ [394, 16, 367, 35, 395, 396, 397, 398, 368, 369, 2, 370, 233, 234, 235, 236, 45, 237, 399, 400, 401, 402, 36, 244, 245, 246, 33, 247, 150, 151, 152, 153, 154, 155, 157, 158, 160, 161, 162, 163, 148, 149, 164, 60, 61, 62, 248, 249, 250, 20, 251, 119, 120, 121, 122, 403, 404, 405, 406, 407, 408, 409, 410, 411, 412, 413, 414, 415, 416, 417, 418, 419, 420, 421, 422, 423, 424, 425, 272, 269, 273, 426, 427, 428, 429, 430, 431, 432, 433, 434, 435, 436, 437, 438, 439, 440, 1102, 1103, 1104, 1105, 1106, 1107, 1108, 1109, 1110, 1111, 1112, 1113, 1114, 1148, 1149, 1150, 1151, 1152, 1153, 1154, 1172, 1173, 1174, 1175, 1176, 1177, 1178, 1179, 1180, 1181, 1155, 1156, 1157] (by decide +kernel) (by decide +kernel)
set_option maxRecDepth 20000 in
theorem gL_law_X7_word : GoodIn wsL_law (wsV RL 41 RX7 yX7_word wsX7_word) := goodIn_app (goodIn_of _ (by decide +kernel)) ggL_law_X7_word
set_option maxRecDepth 20000 in
theorem ggL_law_X8_word : GoodIn wsL_law wsX8_word := goodIn_r _ [444, 310, 445, 280, 180, 446, 447, 190, 281, 282, 5, 283, 284, 285, 286, 287, 183, 288, 448, 449, 450, 451, 191, 452, 453, 454, 455, 456, 457, 458, 459, 460, 461, 462, 463, 192, 193, 194, 195, 196, 464, 465, 466, 467, 199, 197, 468, 469, 470, 471, 198, 472, 473, 474, 475, 1115, 1116, 1117, 1118, 1119, 1120, 1121, 1122, 1123, 1124, 1125, 1126, 1127, 1128, 1129, 1130, 1131, 1132, 1133, 1134, 1135, 1136, 1137, 1138, 1139, 1140, 1141, 1142, 1143, 1144, 1145, 1146, 1147] (by decide +kernel) (by decide +kernel)
set_option maxRecDepth 20000 in
theorem gL_law_X8_word : GoodIn wsL_law (wsV RL 44 RX8 yX8_word wsX8_word) := goodIn_app (goodIn_of _ (by decide +kernel)) ggL_law_X8_word
set_option maxRecDepth 20000 in
theorem ggL_law_X7_letter : GoodIn wsL_law wsX7_letter := goodIn_r _ [479, 16, 367, 480, 368, 369, 2, 370, 233, 234, 235, 236, 45, 237, 1102, 1103, 1104, 1105, 1106, 1107, 1108, 1109, 1110, 1111, 1112, 1113, 1114, 1148, 1149, 1150, 1151, 1152, 1153, 1154] (by decide +kernel) (by decide +kernel)
set_option maxRecDepth 20000 in
theorem gL_law_X7_letter : GoodIn wsL_law (wsV RL 45 RX7 yX7_letter wsX7_letter) := goodIn_app (goodIn_of _ (by decide +kernel)) ggL_law_X7_letter
set_option maxRecDepth 20000 in
theorem ggL_law_X8_letter : GoodIn wsL_law wsX8_letter := goodIn_r _ [484, 310, 180, 280, 281, 282, 5, 283, 456, 457, 458, 459, 284, 285, 286, 287, 183, 288, 1115, 1116, 1117, 1118, 1119, 1120, 1121, 1122, 1123, 1124, 1125, 1126, 1127, 1128, 1129, 1130, 1131, 1132, 1133, 1134, 1135, 1136, 1137, 1138, 1139, 1140, 1141, 1142, 1143, 1144, 1145, 1146, 1147] (by decide +kernel) (by decide +kernel)
set_option maxRecDepth 20000 in
theorem gL_law_X8_letter : GoodIn wsL_law (wsV RL 48 RX8 yX8_letter wsX8_letter) := goodIn_app (goodIn_of _ (by decide +kernel)) ggL_law_X8_letter
set_option maxRecDepth 20000 in
theorem ggL_law_X7_stitches : GoodIn wsL_law wsX7_stitches := goodIn_r _ [488, 26, 342, 489, 37, 16, 243, 490, 491, 492, 25, 493, 126, 131, 271, 272, 269, 273, 494, 495, 496, 497, 129, 134, 498, 499, 500, 501, 502, 503, 504, 505, 133, 506, 507, 508, 509, 510, 511, 512, 513, 514, 515, 516, 517, 518, 519, 520, 521, 2, 522, 233, 234, 235, 236, 45, 237, 1102, 1103, 1104, 1105, 1106, 1107, 1108, 1109, 1110, 1111, 1112, 1113, 1114, 1158, 1159, 1160, 1161, 1162, 1163, 1164, 1165, 1148, 1149, 1150, 1151, 1152, 1153, 1154] (by decide +kernel) (by decide +kernel)
set_option maxRecDepth 20000 in
theorem gL_law_X7_stitches : GoodIn wsL_law (wsV RL 49 RX7 yX7_stitches wsX7_stitches) := goodIn_app (goodIn_of _ (by decide +kernel)) ggL_law_X7_stitches
set_option maxRecDepth 20000 in
theorem ggL_law_X8_stitches : GoodIn wsL_law wsX8_stitches := goodIn_r _ [526, 214, 180, 527, 280, 528, 529, 530, 5, 531, 184, 532, 533, 534, 535, 187, 536, 537, 538, 539, 200, 540, 541, 542, 543, 544, 188, 545, 546, 547, 548, 549, 550, 551, 552, 309, 553, 554, 555, 556, 557, 558, 559, 560, 284, 285, 286, 287, 183, 288, 1115, 1116, 1117, 1118, 1119, 1120, 1121, 1122, 1123, 1124, 1125, 1126, 1127, 1128, 1129, 1130, 1131, 1132, 1133, 1134, 1135, 1136, 1137, 1138, 1139, 1140, 1141, 1142, 1143, 1144, 1145, 1146, 1147] (by decide +kernel) (by decide +kernel)
set_option maxRecDepth 20000 in
theorem gL_law_X8_stitches : GoodIn wsL_law (wsV RL 52 RX8 yX8_stitches wsX8_stitches) := goodIn_app (goodIn_of _ (by decide +kernel)) ggL_law_X8_stitches
set_option maxRecDepth 20000 in
theorem ggL_law_X7_stitch : GoodIn wsL_law wsX7_stitch := goodIn_r _ [564, 26, 565, 566, 567, 568, 569, 37, 570, 571, 572, 2, 573, 342, 233, 234, 235, 236, 45, 237, 574, 575, 576, 577, 578, 579, 580, 581, 582, 583, 25, 584, 126, 502, 503, 504, 505, 133, 585, 511, 512, 513, 514, 1102, 1103, 1104, 1105, 1106, 1107, 1108, 1109, 1110, 1111, 1112, 1113, 1114, 1158, 1159, 1160, 1161, 1162, 1163, 1164, 1165] (by decide +kernel) (by decide +kernel)
set_option maxRecDepth 20000 in
theorem gL_law_X7_stitch : GoodIn wsL_law (wsV RL 53 RX7 yX7_stitch wsX7_stitch) := goodIn_app (goodIn_of _ (by decide +kernel)) ggL_law_X7_stitch
set_option maxRecDepth 20000 in
theorem ggL_law_X8_stitch : GoodIn wsL_law wsX8_stitch := goodIn_r _ [589, 280, 184, 185, 186, 187, 188, 590, 591, 592, 5, 593, 214, 281, 282, 283, 284, 285, 286, 287, 183, 288, 594, 595, 596, 597, 598, 599, 600, 553, 554, 555, 556, 180, 549, 550, 551, 552, 309, 1115, 1116, 1117, 1118, 1119, 1120, 1121, 1122, 1123, 1124, 1125, 1126, 1127, 1128, 1129, 1130, 1131, 1132, 1133, 1134, 1135, 1136, 1137, 1138, 1139, 1140, 1141, 1142, 1143, 1144, 1145, 1146, 1147] (by decide +kernel) (by decide +kernel)
set_option maxRecDepth 20000 in
theorem gL_law_X8_stitch : GoodIn wsL_law (wsV RL 56 RX8 yX8_stitch wsX8_stitch) := goodIn_app (goodIn_of _ (by decide +kernel)) ggL_law_X8_stitch
set_option maxRecDepth 20000 in
theorem ggL_law_X7_ahead : GoodIn wsL_law wsX7_ahead := goodIn_r _ [604, 26, 570, 571, 572, 2, 573, 342, 233, 234, 235, 236, 45, 237, 605, 503, 504, 25, 505, 133, 1102, 1103, 1104, 1105, 1106, 1107, 1108, 1109, 1110, 1111, 1112, 1113, 1114, 1158, 1159, 1160, 1161, 1162, 1163, 1164, 1165] (by decide +kernel) (by decide +kernel)
set_option maxRecDepth 20000 in
theorem gL_law_X7_ahead : GoodIn wsL_law (wsV RL 57 RX7 yX7_ahead wsX7_ahead) := goodIn_app (goodIn_of _ (by decide +kernel)) ggL_law_X7_ahead
set_option maxRecDepth 20000 in
theorem ggL_law_X8_ahead : GoodIn wsL_law wsX8_ahead := goodIn_r _ [609, 188, 280, 590, 591, 592, 5, 593, 214, 281, 282, 283, 284, 285, 286, 287, 183, 288, 1115, 1116, 1117, 1118, 1119, 1120, 1121, 1122, 1123, 1124, 1125, 1126, 1127, 1128, 1129, 1130, 1131, 1132, 1133, 1134, 1135, 1136, 1137, 1138, 1139, 1140, 1141, 1142, 1143, 1144, 1145, 1146, 1147] (by decide +kernel) (by decide +kernel)
set_option maxRecDepth 20000 in
theorem gL_law_X8_ahead : GoodIn wsL_law (wsV RL 60 RX8 yX8_ahead wsX8_ahead) := goodIn_app (goodIn_of _ (by decide +kernel)) ggL_law_X8_ahead
set_option maxRecDepth 20000 in
theorem ggL_law_X7_orders : GoodIn wsL_law wsX7_orders := goodIn_r _ [613, 26, 342, 30, 614, 615, 616, 617, 2, 618, 45, 619, 620, 621, 622, 29, 623, 138, 140, 624, 625, 626, 627, 143, 628, 629, 142, 141, 630, 60, 61, 62, 631, 632, 633, 634, 635, 636, 637, 139, 638, 639, 640, 641, 642, 575, 576, 577, 578, 579, 580, 643, 644, 645, 646, 647, 511, 512, 25, 513, 133, 514, 648, 649, 650, 651, 1102, 1103, 1104, 1105, 1106, 1107, 1108, 1109, 1110, 1111, 1112, 1113, 1114, 1158, 1159, 1160, 1161, 1162, 1163, 1164, 1165, 1166, 1167, 1168, 1169, 1170, 1171] (by decide +kernel) (by decide +kernel)
set_option maxRecDepth 20000 in
theorem gL_law_X7_orders : GoodIn wsL_law (wsV RL 61 RX7 yX7_orders wsX7_orders) := goodIn_app (goodIn_of _ (by decide +kernel)) ggL_law_X7_orders
set_option maxRecDepth 20000 in
theorem ggL_law_X8_orders : GoodIn wsL_law wsX8_orders := goodIn_r _ [655, 214, 337, 656, 657, 658, 5, 659, 183, 288, 660, 661, 662, 663, 664, 201, 665, 666, 667, 668, 669, 202, 188, 594, 595, 596, 1115, 1116, 1117, 1118, 1119, 1120, 1121, 1122, 1123, 1124, 1125, 1126, 1127, 1128, 1129, 1130, 1131, 1132, 1133, 1134, 1135, 1136, 1137, 1138, 1139, 1140, 1141, 1142, 1143, 1144, 1145, 1146, 1147] (by decide +kernel) (by decide +kernel)
set_option maxRecDepth 20000 in
theorem gL_law_X8_orders : GoodIn wsL_law (wsV RL 65 RX8 yX8_orders wsX8_orders) := goodIn_app (goodIn_of _ (by decide +kernel)) ggL_law_X8_orders
set_option maxRecDepth 20000 in
theorem ggL_law_X7_order : GoodIn wsL_law wsX7_order := goodIn_r _ [673, 26, 342, 30, 614, 570, 571, 572, 2, 573, 233, 234, 235, 236, 45, 237, 620, 621, 622, 29, 623, 138, 140, 624, 625, 626, 627, 143, 628, 629, 142, 141, 630, 60, 61, 62, 631, 632, 633, 634, 635, 636, 637, 139, 638, 639, 640, 641, 642, 575, 576, 577, 578, 579, 580, 643, 644, 645, 646, 647, 511, 512, 25, 513, 133, 514, 648, 649, 650, 651, 674, 675, 676, 677, 678, 679, 680, 681, 1102, 1103, 1104, 1105, 1106, 1107, 1108, 1109, 1110, 1111, 1112, 1113, 1114, 1158, 1159, 1160, 1161, 1162, 1163, 1164, 1165, 1166, 1167, 1168, 1169, 1170, 1171] (by decide +kernel) (by decide +kernel)
set_option maxRecDepth 20000 in
theorem gL_law_X7_order : GoodIn wsL_law (wsV RL 68 RX7 yX7_order wsX7_order) := goodIn_app (goodIn_of _ (by decide +kernel)) ggL_law_X7_order
set_option maxRecDepth 20000 in
theorem ggL_law_X8_order : GoodIn wsL_law wsX8_order := goodIn_r _ [685, 214, 280, 337, 527, 188, 281, 282, 5, 283, 284, 285, 286, 287, 183, 288, 661, 662, 663, 664, 201, 665, 666, 667, 668, 669, 202, 594, 595, 596, 1115, 1116, 1117, 1118, 1119, 1120, 1121, 1122, 1123, 1124, 1125, 1126, 1127, 1128, 1129, 1130, 1131, 1132, 1133, 1134, 1135, 1136, 1137, 1138, 1139, 1140, 1141, 1142, 1143, 1144, 1145, 1146, 1147] (by decide +kernel) (by decide +kernel)
set_option maxRecDepth 20000 in
theorem gL_law_X8_order : GoodIn wsL_law (wsV RL 72 RX8 yX8_order wsX8_order) := goodIn_app (goodIn_of _ (by decide +kernel)) ggL_law_X8_order
set_option maxRecDepth 20000 in
theorem ggL_law_X7_rank : GoodIn wsL_law wsX7_rank := goodIn_r _ [689, 26, 342, 43, 690, 30, 691, 692, 2, 693, 615, 616, 617, 618, 45, 619, 620, 621, 622, 29, 623, 138, 140, 624, 625, 626, 627, 143, 628, 629, 142, 141, 630, 60, 61, 62, 631, 632, 633, 634, 635, 636, 637, 139, 638, 639, 640, 641, 642, 575, 576, 577, 578, 579, 580, 643, 644, 645, 646, 647, 511, 512, 25, 513, 133, 514, 648, 649, 650, 651, 694, 695, 696, 697, 698, 699, 700, 678, 679, 680, 681, 1102, 1103, 1104, 1105, 1106, 1107, 1108, 1109, 1110, 1111, 1112, 1113, 1114, 1158, 1159, 1160, 1161, 1162, 1163, 1164, 1165, 1184, 1185, 1186, 1166, 1167, 1168, 1169, 1170, 1171] (by decide +kernel) (by decide +kernel)
set_option maxRecDepth 20000 in
theorem gL_law_X7_rank : GoodIn wsL_law (wsV RL 73 RX7 yX7_rank wsX7_rank) := goodIn_app (goodIn_of _ (by decide +kernel)) ggL_law_X7_rank
set_option maxRecDepth 20000 in
theorem ggL_law_X8_rank : GoodIn wsL_law wsX8_rank := goodIn_r _ [704, 280, 214, 337, 203, 705, 311, 706, 707, 5, 708, 709, 281, 282, 283, 656, 657, 658, 659, 183, 288, 660, 710, 711, 712, 713, 204, 309, 205, 188, 661, 662, 663, 664, 201, 590, 591, 592, 593, 665, 666, 667, 668, 669, 202, 594, 595, 596, 1115, 1116, 1117, 1118, 1119, 1120, 1121, 1122, 1123, 1124, 1125, 1126, 1127, 1128, 1129, 1130, 1131, 1132, 1133, 1134, 1135, 1136, 1137, 1138, 1139, 1140, 1141, 1142, 1143, 1144, 1145, 1146, 1147] (by decide +kernel) (by decide +kernel)
set_option maxRecDepth 20000 in
theorem gL_law_X8_rank : GoodIn wsL_law (wsV RL 77 RX8 yX8_rank wsX8_rank) := goodIn_app (goodIn_of _ (by decide +kernel)) ggL_law_X8_rank
set_option maxRecDepth 20000 in
theorem ggL_law_X7_work : GoodIn wsL_law wsX7_work := goodIn_r _ [717, 16, 26, 567, 718, 719, 720, 2, 721, 37, 34, 566, 722, 723, 243, 570, 571, 572, 573, 342, 585, 511, 512, 25, 513, 133, 514, 403, 404, 405, 33, 406, 150, 148, 407, 408, 409, 410, 411, 412, 149, 157, 158, 413, 414, 415, 416, 151, 152, 155, 417, 418, 419, 420, 154, 153, 421, 422, 423, 20, 424, 121, 425, 272, 269, 273, 120, 119, 426, 427, 428, 429, 724, 725, 726, 727, 728, 729, 730, 731, 244, 245, 246, 247, 160, 161, 162, 163, 164, 60, 61, 62, 248, 249, 250, 251, 122, 233, 234, 235, 236, 45, 237, 732, 733, 734, 15, 735, 55, 54, 1102, 1103, 1104, 1105, 1106, 1107, 1108, 1109, 1110, 1111, 1112, 1113, 1114, 1158, 1159, 1160, 1161, 1162, 1163, 1164, 1165, 1148, 1149, 1150, 1151, 1152, 1153, 1154, 1172, 1173, 1174, 1175, 1176, 1177, 1178, 1179, 1180, 1181, 1155, 1156, 1157] (by decide +kernel) (by decide +kernel)
set_option maxRecDepth 20000 in
theorem gL_law_X7_work : GoodIn wsL_law (wsV RL 78 RX7 yX7_work wsX7_work) := goodIn_app (goodIn_of _ (by decide +kernel)) ggL_law_X7_work
set_option maxRecDepth 20000 in
theorem ggL_law_X8_work : GoodIn wsL_law wsX8_work := goodIn_r _ [739, 740, 741, 742, 5, 743, 280, 311, 191, 180, 744, 590, 591, 592, 593, 214, 281, 282, 283, 549, 550, 551, 552, 188, 309, 553, 554, 555, 556, 745, 746, 747, 748, 448, 449, 450, 451, 446, 190, 749, 750, 751, 752, 185, 186, 452, 453, 454, 455, 456, 457, 458, 459, 460, 461, 462, 463, 192, 193, 194, 195, 196, 753, 754, 755, 756, 284, 285, 286, 287, 183, 288, 757, 758, 759, 760, 1115, 1116, 1117, 1118, 1119, 1120, 1121, 1122, 1123, 1124, 1125, 1126, 1127, 1128, 1129, 1130, 1131, 1132, 1133, 1134, 1135, 1136, 1137, 1138, 1139, 1140, 1141, 1142, 1143, 1144, 1145, 1146, 1147] (by decide +kernel) (by decide +kernel)
set_option maxRecDepth 20000 in
theorem gL_law_X8_work : GoodIn wsL_law (wsV RL 81 RX8 yX8_work wsX8_work) := goodIn_app (goodIn_of _ (by decide +kernel)) ggL_law_X8_work
set_option maxRecDepth 20000 in
theorem ggL_law_X7_works : GoodIn wsL_law wsX7_works := goodIn_r _ [764, 43, 690, 765, 766, 691, 692, 2, 693, 233, 234, 235, 236, 45, 237, 718, 719, 720, 721, 26, 37, 34, 16, 567, 566, 722, 723, 243, 570, 571, 572, 573, 342, 585, 511, 512, 25, 513, 133, 514, 403, 404, 405, 33, 406, 150, 148, 407, 408, 409, 410, 411, 412, 149, 157, 158, 413, 414, 415, 416, 151, 152, 155, 417, 418, 419, 420, 154, 153, 421, 422, 423, 20, 424, 121, 425, 272, 269, 273, 120, 119, 426, 427, 428, 429, 724, 725, 726, 727, 728, 729, 730, 731, 244, 245, 246, 247, 160, 161, 162, 163, 164, 60, 61, 62, 248, 249, 250, 251, 122, 1102, 1103, 1104, 1105, 1106, 1107, 1108, 1109, 1110, 1111, 1112, 1113, 1114, 1184, 1185, 1186, 1158, 1159, 1160, 1161, 1162, 1163, 1164, 1165, 1148, 1149, 1150, 1151, 1152, 1153, 1154, 1172, 1173, 1174, 1175, 1176, 1177, 1178, 1179, 1180, 1181, 1155, 1156, 1157] (by decide +kernel) (by decide +kernel)
set_option maxRecDepth 20000 in
theorem gL_law_X7_works : GoodIn wsL_law (wsV RL 82 RX7 yX7_works wsX7_works) := goodIn_app (goodIn_of _ (by decide +kernel)) ggL_law_X7_works
set_option maxRecDepth 20000 in
theorem ggL_law_X8_works_ : GoodIn wsL_law wsX8_works_ := goodIn_r _ [770, 280, 203, 705, 204, 205, 706, 707, 5, 708, 709, 281, 282, 283, 284, 285, 286, 287, 183, 288, 740, 741, 742, 743, 311, 191, 180, 744, 590, 591, 592, 593, 214, 549, 550, 551, 552, 188, 309, 553, 554, 555, 556, 745, 746, 747, 748, 448, 449, 450, 451, 446, 190, 749, 750, 751, 752, 185, 186, 452, 453, 454, 455, 456, 457, 458, 459, 460, 461, 462, 463, 192, 193, 194, 195, 196, 753, 754, 755, 756, 757, 758, 759, 760, 1115, 1116, 1117, 1118, 1119, 1120, 1121, 1122, 1123, 1124, 1125, 1126, 1127, 1128, 1129, 1130, 1131, 1132, 1133, 1134, 1135, 1136, 1137, 1138, 1139, 1140, 1141, 1142, 1143, 1144, 1145, 1146, 1147] (by decide +kernel) (by decide +kernel)
set_option maxRecDepth 20000 in
theorem gL_law_X8_works_ : GoodIn wsL_law (wsV RL 85 RX8 yX8_works_ wsX8_works_) := goodIn_app (goodIn_of _ (by decide +kernel)) ggL_law_X8_works_
set_option maxRecDepth 20000 in
theorem ggL_law_X7_back : GoodIn wsL_law wsX7_back := goodIn_r _ [774, 16, 243, 723, 233, 234, 235, 2, 236, 45, 237, 728, 729, 730, 731, 34, 37, 26, 567, 566, 244, 245, 246, 33, 247, 150, 151, 152, 153, 154, 155, 157, 158, 160, 161, 162, 163, 148, 149, 164, 60, 61, 62, 248, 249, 250, 20, 251, 119, 120, 121, 122, 403, 404, 405, 406, 407, 408, 409, 410, 411, 412, 413, 414, 415, 416, 417, 418, 419, 420, 421, 422, 423, 424, 425, 272, 269, 273, 426, 427, 428, 429, 1102, 1103, 1104, 1105, 1106, 1107, 1108, 1109, 1110, 1111, 1112, 1113, 1114, 1148, 1149, 1150, 1151, 1152, 1153, 1154, 1158, 1159, 1160, 1161, 1162, 1163, 1164, 1165, 1172, 1173, 1174, 1175, 1176, 1177, 1178, 1179, 1180, 1181, 1155, 1156, 1157] (by decide +kernel) (by decide +kernel)
set_option maxRecDepth 20000 in
theorem gL_law_X7_back : GoodIn wsL_law (wsV RL 86 RX7 yX7_back wsX7_back) := goodIn_app (goodIn_of _ (by decide +kernel)) ggL_law_X7_back
set_option maxRecDepth 20000 in
theorem ggL_law_X8_back : GoodIn wsL_law wsX8_back := goodIn_r _ [778, 180, 527, 284, 285, 286, 5, 287, 183, 288, 1115, 1116, 1117, 1118, 1119, 1120, 1121, 1122, 1123, 1124, 1125, 1126, 1127, 1128, 1129, 1130, 1131, 1132, 1133, 1134, 1135, 1136, 1137, 1138, 1139, 1140, 1141, 1142, 1143, 1144, 1145, 1146, 1147] (by decide +kernel) (by decide +kernel)
set_option maxRecDepth 20000 in
theorem gL_law_X8_back : GoodIn wsL_law (wsV RL 89 RX8 yX8_back wsX8_back) := goodIn_app (goodIn_of _ (by decide +kernel)) ggL_law_X8_back
set_option maxRecDepth 20000 in
theorem ggL_law_X7_worked : GoodIn wsL_law wsX7_worked := goodIn_r _ [782, 16, 243, 723, 233, 234, 235, 2, 236, 45, 237, 1102, 1103, 1104, 1105, 1106, 1107, 1108, 1109, 1110, 1111, 1112, 1113, 1114, 1148, 1149, 1150, 1151, 1152, 1153, 1154] (by decide +kernel) (by decide +kernel)
set_option maxRecDepth 20000 in
theorem gL_law_X7_worked : GoodIn wsL_law (wsV RL 90 RX7 yX7_worked wsX7_worked) := goodIn_app (goodIn_of _ (by decide +kernel)) ggL_law_X7_worked
set_option maxRecDepth 20000 in
theorem ggL_law_X8_worked : GoodIn wsL_law wsX8_worked := goodIn_r _ [786, 180, 280, 281, 282, 5, 283, 284, 285, 286, 287, 183, 288, 1115, 1116, 1117, 1118, 1119, 1120, 1121, 1122, 1123, 1124, 1125, 1126, 1127, 1128, 1129, 1130, 1131, 1132, 1133, 1134, 1135, 1136, 1137, 1138, 1139, 1140, 1141, 1142, 1143, 1144, 1145, 1146, 1147] (by decide +kernel) (by decide +kernel)
set_option maxRecDepth 20000 in
theorem gL_law_X8_worked : GoodIn wsL_law (wsV RL 93 RX8 yX8_worked wsX8_worked) := goodIn_app (goodIn_of _ (by decide +kernel)) ggL_law_X8_worked
set_option maxRecDepth 20000 in
theorem ggL_law_X7_at : GoodIn wsL_law wsX7_at := goodIn_r _ [790, 34, 791, 792, 793, 794, 2, 795, 16, 231, 233, 234, 235, 236, 45, 237, 1102, 1103, 1104, 1105, 1106, 1107, 1108, 1109, 1110, 1111, 1112, 1113, 1114, 1172, 1173, 1174, 1175, 1176, 1177, 1178, 1179, 1180, 1181, 1148, 1149, 1150, 1151, 1152, 1153, 1154] (by decide +kernel) (by decide +kernel)
set_option maxRecDepth 20000 in
theorem gL_law_X7_at : GoodIn wsL_law (wsV RL 94 RX7 yX7_at wsX7_at) := goodIn_app (goodIn_of _ (by decide +kernel)) ggL_law_X7_at
set_option maxRecDepth 20000 in
theorem ggL_law_X8_at : GoodIn wsL_law wsX8_at := goodIn_r _ [799, 280, 190, 753, 754, 755, 5, 756, 180, 281, 282, 283, 284, 285, 286, 287, 183, 288, 745, 746, 747, 748, 448, 449, 450, 451, 446, 191, 749, 750, 751, 752, 185, 186, 452, 453, 454, 455, 456, 457, 458, 459, 460, 461, 462, 463, 192, 193, 194, 195, 196, 1115, 1116, 1117, 1118, 1119, 1120, 1121, 1122, 1123, 1124, 1125, 1126, 1127, 1128, 1129, 1130, 1131, 1132, 1133, 1134, 1135, 1136, 1137, 1138, 1139, 1140, 1141, 1142, 1143, 1144, 1145, 1146, 1147] (by decide +kernel) (by decide +kernel)
set_option maxRecDepth 20000 in
theorem gL_law_X8_at : GoodIn wsL_law (wsV RL 97 RX8 yX8_at wsX8_at) := goodIn_app (goodIn_of _ (by decide +kernel)) ggL_law_X8_at
set_option maxRecDepth 20000 in
theorem ggL_law_X7_wind : GoodIn wsL_law wsX7_wind := goodIn_r _ [803, 34, 804, 16, 722, 792, 793, 794, 2, 795, 231, 233, 234, 235, 236, 45, 237, 1102, 1103, 1104, 1105, 1106, 1107, 1108, 1109, 1110, 1111, 1112, 1113, 1114, 1172, 1173, 1174, 1175, 1176, 1177, 1178, 1179, 1180, 1181, 1148, 1149, 1150, 1151, 1152, 1153, 1154] (by decide +kernel) (by decide +kernel)
set_option maxRecDepth 20000 in
theorem gL_law_X7_wind : GoodIn wsL_law (wsV RL 98 RX7 yX7_wind wsX7_wind) := goodIn_app (goodIn_of _ (by decide +kernel)) ggL_law_X7_wind
set_option maxRecDepth 20000 in
theorem ggL_law_X8_wind : GoodIn wsL_law wsX8_wind := goodIn_r _ [808, 809, 280, 191, 311, 180, 810, 811, 812, 5, 813, 753, 754, 755, 756, 281, 282, 283, 284, 285, 286, 287, 183, 288, 745, 746, 747, 748, 448, 449, 450, 451, 446, 190, 749, 750, 751, 752, 185, 186, 452, 453, 454, 455, 456, 457, 458, 459, 460, 461, 462, 463, 192, 193, 194, 195, 196, 1115, 1116, 1117, 1118, 1119, 1120, 1121, 1122, 1123, 1124, 1125, 1126, 1127, 1128, 1129, 1130, 1131, 1132, 1133, 1134, 1135, 1136, 1137, 1138, 1139, 1140, 1141, 1142, 1143, 1144, 1145, 1146, 1147] (by decide +kernel) (by decide +kernel)
set_option maxRecDepth 20000 in
theorem gL_law_X8_wind : GoodIn wsL_law (wsV RL 101 RX8 yX8_wind wsX8_wind) := goodIn_app (goodIn_of _ (by decide +kernel)) ggL_law_X8_wind
set_option maxRecDepth 20000 in
theorem ggL_law_X7_thread : GoodIn wsL_law wsX7_thread := goodIn_r _ [817, 16, 722, 34, 804, 398, 26, 342, 35, 818, 819, 820, 792, 793, 794, 2, 795, 231, 233, 234, 235, 236, 45, 237, 821, 822, 823, 824, 36, 567, 566, 244, 245, 246, 33, 247, 150, 151, 152, 153, 154, 155, 157, 158, 160, 161, 162, 163, 148, 149, 164, 60, 61, 62, 248, 249, 250, 20, 251, 119, 120, 121, 122, 403, 404, 405, 406, 407, 408, 409, 410, 411, 412, 413, 414, 415, 416, 417, 418, 419, 420, 421, 422, 423, 424, 425, 272, 269, 273, 426, 427, 428, 429, 825, 435, 436, 437, 1102, 1103, 1104, 1105, 1106, 1107, 1108, 1109, 1110, 1111, 1112, 1113, 1114, 1148, 1149, 1150, 1151, 1152, 1153, 1154, 1172, 1173, 1174, 1175, 1176, 1177, 1178, 1179, 1180, 1181, 1158, 1159, 1160, 1161, 1162, 1163, 1164, 1165, 1155, 1156, 1157] (by decide +kernel) (by decide +kernel)
set_option maxRecDepth 20000 in
theorem gL_law_X7_thread : GoodIn wsL_law (wsV RL 102 RX7 yX7_thread wsX7_thread) := goodIn_app (goodIn_of _ (by decide +kernel)) ggL_law_X7_thread
set_option maxRecDepth 20000 in
theorem ggL_law_X8_thread : GoodIn wsL_law wsX8_thread := goodIn_r _ [829, 445, 280, 180, 191, 810, 811, 812, 5, 813, 753, 754, 755, 756, 281, 282, 283, 284, 285, 286, 287, 183, 288, 830, 831, 832, 833, 214, 745, 746, 747, 748, 448, 449, 450, 451, 446, 190, 749, 750, 751, 752, 185, 186, 452, 453, 454, 455, 456, 457, 458, 459, 460, 461, 462, 463, 192, 193, 194, 195, 196, 834, 835, 836, 837, 838, 839, 840, 841, 842, 843, 844, 845, 846, 847, 848, 849, 850, 851, 852, 853, 1115, 1116, 1117, 1118, 1119, 1120, 1121, 1122, 1123, 1124, 1125, 1126, 1127, 1128, 1129, 1130, 1131, 1132, 1133, 1134, 1135, 1136, 1137, 1138, 1139, 1140, 1141, 1142, 1143, 1144, 1145, 1146, 1147] (by decide +kernel) (by decide +kernel)
set_option maxRecDepth 20000 in
theorem gL_law_X8_thread : GoodIn wsL_law (wsV RL 105 RX8 yX8_thread wsX8_thread) := goodIn_app (goodIn_of _ (by decide +kernel)) ggL_law_X8_thread
set_option maxRecDepth 20000 in
theorem ggL_law_X7_place : GoodIn wsL_law wsX7_place := goodIn_r _ [857, 26, 342, 35, 398, 792, 793, 794, 2, 795, 16, 231, 233, 234, 235, 236, 45, 237, 821, 822, 823, 824, 36, 567, 566, 244, 245, 246, 33, 247, 150, 151, 152, 153, 154, 155, 157, 158, 160, 161, 162, 163, 148, 149, 164, 60, 61, 62, 248, 249, 250, 20, 251, 119, 120, 121, 122, 403, 404, 405, 406, 407, 408, 409, 410, 411, 412, 413, 414, 415, 416, 417, 418, 419, 420, 421, 422, 423, 424, 425, 272, 269, 273, 426, 427, 428, 429, 1102, 1103, 1104, 1105, 1106, 1107, 1108, 1109, 1110, 1111, 1112, 1113, 1114, 1158, 1159, 1160, 1161, 1162, 1163, 1164, 1165, 1172, 1173, 1174, 1175, 1176, 1177, 1178, 1179, 1180, 1181, 1148, 1149, 1150, 1151, 1152, 1153, 1154, 1155, 1156, 1157] (by decide +kernel) (by decide +kernel)
set_option maxRecDepth 20000 in
theorem gL_law_X7_place : GoodIn wsL_law (wsV RL 106 RX7 yX7_place wsX7_place) := goodIn_app (goodIn_of _ (by decide +kernel)) ggL_law_X7_place
set_option maxRecDepth 20000 in
theorem ggL_law_X8_place : GoodIn wsL_law wsX8_place := goodIn_r _ [861, 214, 280, 810, 811, 812, 5, 813, 753, 754, 755, 756, 180, 281, 282, 283, 284, 285, 286, 287, 183, 288, 834, 835, 836, 837, 448, 449, 450, 451, 446, 190, 191, 749, 750, 751, 752, 185, 186, 452, 453, 454, 455, 456, 457, 458, 459, 460, 461, 462, 463, 192, 193, 194, 195, 196, 838, 839, 840, 841, 1115, 1116, 1117, 1118, 1119, 1120, 1121, 1122, 1123, 1124, 1125, 1126, 1127, 1128, 1129, 1130, 1131, 1132, 1133, 1134, 1135, 1136, 1137, 1138, 1139, 1140, 1141, 1142, 1143, 1144, 1145, 1146, 1147] (by decide +kernel) (by decide +kernel)
set_option maxRecDepth 20000 in
theorem gL_law_X8_place : GoodIn wsL_law (wsV RL 109 RX8 yX8_place wsX8_place) := goodIn_app (goodIn_of _ (by decide +kernel)) ggL_law_X8_place
set_option maxRecDepth 20000 in
theorem ggL_law_X7_rounds : GoodIn wsL_law wsX7_rounds := goodIn_r _ [865, 26, 342, 35, 821, 822, 823, 2, 824, 36, 16, 567, 566, 244, 245, 246, 33, 247, 150, 151, 152, 153, 154, 155, 157, 158, 160, 161, 162, 163, 148, 149, 164, 60, 61, 62, 248, 249, 250, 20, 251, 119, 120, 121, 122, 403, 404, 405, 406, 407, 408, 409, 410, 411, 412, 413, 414, 415, 416, 417, 418, 419, 420, 421, 422, 423, 424, 425, 272, 269, 273, 426, 427, 428, 429, 430, 431, 432, 433, 434, 435, 436, 437, 438, 439, 440, 1102, 1103, 1104, 1105, 1106, 1107, 1108, 1109, 1110, 1111, 1112, 1113, 1114, 1158, 1159, 1160, 1161, 1162, 1163, 1164, 1165, 1172, 1173, 1174, 1175, 1176, 1177, 1178, 1179, 1180, 1181, 1155, 1156, 1157, 1148, 1149, 1150, 1151, 1152, 1153, 1154] (by decide +kernel) (by decide +kernel)
set_option maxRecDepth 20000 in
theorem gL_law_X7_rounds : GoodIn wsL_law (wsV RL 110 RX7 yX7_rounds wsX7_rounds) := goodIn_app (goodIn_of _ (by decide +kernel)) ggL_law_X7_rounds
set_option maxRecDepth 20000 in
theorem ggL_law_X8_rounds : GoodIn wsL_law wsX8_rounds := goodIn_r _ [869, 214, 834, 835, 836, 5, 837, 448, 449, 450, 451, 446, 190, 191, 749, 750, 751, 752, 185, 186, 452, 453, 454, 455, 180, 456, 457, 458, 459, 460, 461, 462, 463, 192, 193, 194, 195, 196, 753, 754, 755, 756, 842, 843, 844, 845, 838, 839, 840, 841, 870, 871, 872, 1115, 1116, 1117, 1118, 1119, 1120, 1121, 1122, 1123, 1124, 1125, 1126, 1127, 1128, 1129, 1130, 1131, 1132, 1133, 1134, 1135, 1136, 1137, 1138, 1139, 1140, 1141, 1142, 1143, 1144, 1145, 1146, 1147] (by decide +kernel) (by decide +kernel)
set_option maxRecDepth 20000 in
theorem gL_law_X8_rounds : GoodIn wsL_law (wsV RL 113 RX8 yX8_rounds wsX8_rounds) := goodIn_app (goodIn_of _ (by decide +kernel)) ggL_law_X8_rounds
set_option maxRecDepth 20000 in
theorem ggL_law_X7_link : GoodIn wsL_law wsX7_link := goodIn_r _ [876, 26, 342, 35, 877, 792, 793, 794, 2, 795, 16, 231, 233, 234, 235, 236, 45, 237, 821, 822, 823, 824, 36, 567, 566, 244, 245, 246, 33, 247, 150, 151, 152, 153, 154, 155, 157, 158, 160, 161, 162, 163, 148, 149, 164, 60, 61, 62, 248, 249, 250, 20, 251, 119, 120, 121, 122, 403, 404, 405, 406, 407, 408, 409, 410, 411, 412, 413, 414, 415, 416, 417, 418, 419, 420, 421, 422, 423, 424, 425, 272, 269, 273, 426, 427, 428, 429, 1102, 1103, 1104, 1105, 1106, 1107, 1108, 1109, 1110, 1111, 1112, 1113, 1114, 1158, 1159, 1160, 1161, 1162, 1163, 1164, 1165, 1172, 1173, 1174, 1175, 1176, 1177, 1178, 1179, 1180, 1181, 1148, 1149, 1150, 1151, 1152, 1153, 1154, 1155, 1156, 1157] (by decide +kernel) (by decide +kernel)
set_option maxRecDepth 20000 in
theorem gL_law_X7_link : GoodIn wsL_law (wsV RL 114 RX7 yX7_link wsX7_link) := goodIn_app (goodIn_of _ (by decide +kernel)) ggL_law_X7_link
set_option maxRecDepth 20000 in
theorem ggL_law_X8_link : GoodIn wsL_law wsX8_link := goodIn_r _ [881, 280, 214, 446, 194, 195, 810, 811, 812, 5, 813, 753, 754, 755, 756, 180, 281, 282, 283, 284, 285, 286, 287, 183, 288, 834, 835, 836, 837, 448, 449, 450, 451, 190, 191, 749, 750, 751, 752, 185, 186, 452, 453, 454, 455, 456, 457, 458, 459, 460, 461, 462, 463, 192, 193, 196, 1115, 1116, 1117, 1118, 1119, 1120, 1121, 1122, 1123, 1124, 1125, 1126, 1127, 1128, 1129, 1130, 1131, 1132, 1133, 1134, 1135, 1136, 1137, 1138, 1139, 1140, 1141, 1142, 1143, 1144, 1145, 1146, 1147] (by decide +kernel) (by decide +kernel)
set_option maxRecDepth 20000 in
theorem gL_law_X8_link : GoodIn wsL_law (wsV RL 117 RX8 yX8_link wsX8_link) := goodIn_app (goodIn_of _ (by decide +kernel)) ggL_law_X8_link
set_option maxRecDepth 20000 in
theorem ggL_law_X7_meet : GoodIn wsL_law wsX7_meet := goodIn_r _ [885, 26, 342, 35, 792, 793, 794, 2, 795, 16, 231, 233, 234, 235, 236, 45, 237, 821, 822, 823, 824, 36, 567, 566, 244, 245, 246, 33, 247, 150, 151, 152, 153, 154, 155, 157, 158, 160, 161, 162, 163, 148, 149, 164, 60, 61, 62, 248, 249, 250, 20, 251, 119, 120, 121, 122, 403, 404, 405, 406, 407, 408, 409, 410, 411, 412, 413, 414, 415, 416, 417, 418, 419, 420, 421, 422, 423, 424, 425, 272, 269, 273, 426, 427, 428, 429, 886, 887, 888, 889, 1102, 1103, 1104, 1105, 1106, 1107, 1108, 1109, 1110, 1111, 1112, 1113, 1114, 1158, 1159, 1160, 1161, 1162, 1163, 1164, 1165, 1148, 1149, 1150, 1151, 1152, 1153, 1154, 1172, 1173, 1174, 1175, 1176, 1177, 1178, 1179, 1180, 1181, 1155, 1156, 1157] (by decide +kernel) (by decide +kernel)
set_option maxRecDepth 20000 in
theorem gL_law_X7_meet : GoodIn wsL_law (wsV RL 118 RX7 yX7_meet wsX7_meet) := goodIn_app (goodIn_of _ (by decide +kernel)) ggL_law_X7_meet
set_option maxRecDepth 20000 in
theorem ggL_law_X8_meet : GoodIn wsL_law wsX8_meet := goodIn_r _ [893, 280, 214, 446, 194, 195, 196, 527, 810, 811, 812, 5, 813, 753, 754, 755, 756, 180, 281, 282, 283, 284, 285, 286, 287, 183, 288, 834, 835, 836, 837, 448, 449, 450, 451, 190, 191, 749, 750, 751, 752, 185, 186, 452, 453, 454, 455, 456, 457, 458, 459, 460, 461, 462, 463, 192, 193, 1115, 1116, 1117, 1118, 1119, 1120, 1121, 1122, 1123, 1124, 1125, 1126, 1127, 1128, 1129, 1130, 1131, 1132, 1133, 1134, 1135, 1136, 1137, 1138, 1139, 1140, 1141, 1142, 1143, 1144, 1145, 1146, 1147] (by decide +kernel) (by decide +kernel)
set_option maxRecDepth 20000 in
theorem gL_law_X8_meet : GoodIn wsL_law (wsV RL 121 RX8 yX8_meet wsX8_meet) := goodIn_app (goodIn_of _ (by decide +kernel)) ggL_law_X8_meet
set_option maxRecDepth 20000 in
theorem ggL_law_X7_lacks : GoodIn wsL_law wsX7_lacks := goodIn_r _ [897, 26, 342, 35, 16, 722, 233, 234, 235, 2, 236, 45, 237, 821, 822, 823, 824, 36, 567, 566, 244, 245, 246, 33, 247, 150, 151, 152, 153, 154, 155, 157, 158, 160, 161, 162, 163, 148, 149, 164, 60, 61, 62, 248, 249, 250, 20, 251, 119, 120, 121, 122, 403, 404, 405, 406, 407, 408, 409, 410, 411, 412, 413, 414, 415, 416, 417, 418, 419, 420, 421, 422, 423, 424, 425, 272, 269, 273, 426, 427, 428, 429, 724, 725, 726, 727, 1102, 1103, 1104, 1105, 1106, 1107, 1108, 1109, 1110, 1111, 1112, 1113, 1114, 1158, 1159, 1160, 1161, 1162, 1163, 1164, 1165, 1148, 1149, 1150, 1151, 1152, 1153, 1154, 1172, 1173, 1174, 1175, 1176, 1177, 1178, 1179, 1180, 1181, 1155, 1156, 1157] (by decide +kernel) (by decide +kernel)
set_option maxRecDepth 20000 in
theorem gL_law_X7_lacks : GoodIn wsL_law (wsV RL 122 RX7 yX7_lacks wsX7_lacks) := goodIn_app (goodIn_of _ (by decide +kernel)) ggL_law_X7_lacks
set_option maxRecDepth 20000 in
theorem ggL_law_X8_lacks : GoodIn wsL_law wsX8_lacks := goodIn_r _ [901, 280, 214, 191, 180, 527, 281, 282, 5, 283, 284, 285, 286, 287, 183, 288, 448, 449, 450, 451, 446, 190, 749, 750, 751, 752, 185, 186, 452, 453, 454, 455, 456, 457, 458, 459, 460, 461, 462, 463, 192, 193, 194, 195, 196, 753, 754, 755, 756, 1115, 1116, 1117, 1118, 1119, 1120, 1121, 1122, 1123, 1124, 1125, 1126, 1127, 1128, 1129, 1130, 1131, 1132, 1133, 1134, 1135, 1136, 1137, 1138, 1139, 1140, 1141, 1142, 1143, 1144, 1145, 1146, 1147] (by decide +kernel) (by decide +kernel)
set_option maxRecDepth 20000 in
theorem gL_law_X8_lacks : GoodIn wsL_law (wsV RL 125 RX8 yX8_lacks wsX8_lacks) := goodIn_app (goodIn_of _ (by decide +kernel)) ggL_law_X8_lacks
set_option maxRecDepth 20000 in
theorem ggL_law_X7_lace : GoodIn wsL_law wsX7_lace := goodIn_r _ [905, 395, 396, 397, 233, 234, 235, 2, 236, 45, 237, 906, 907, 908, 909, 34, 26, 342, 35, 821, 822, 823, 824, 36, 16, 567, 566, 244, 245, 246, 33, 247, 150, 151, 152, 153, 154, 155, 157, 158, 160, 161, 162, 163, 148, 149, 164, 60, 61, 62, 248, 249, 250, 20, 251, 119, 120, 121, 122, 403, 404, 405, 406, 407, 408, 409, 410, 411, 412, 413, 414, 415, 416, 417, 418, 419, 420, 421, 422, 423, 424, 425, 272, 269, 273, 426, 427, 428, 429, 910, 911, 912, 913, 914, 915, 916, 917, 1172, 1173, 1174, 1175, 1176, 1177, 1178, 1179, 1180, 1181, 1155, 1156, 1157, 1102, 1103, 1104, 1105, 1106, 1107, 1108, 1109, 1110, 1111, 1112, 1113, 1114, 1158, 1159, 1160, 1161, 1162, 1163, 1164, 1165, 1148, 1149, 1150, 1151, 1152, 1153, 1154] (by decide +kernel) (by decide +kernel)
set_option maxRecDepth 20000 in
theorem gL_law_X7_lace : GoodIn wsL_law (wsV RL 126 RX7 yX7_lace wsX7_lace) := goodIn_app (goodIn_of _ (by decide +kernel)) ggL_law_X7_lace
set_option maxRecDepth 20000 in
theorem ggL_law_X8_lace : GoodIn wsL_law wsX8_lace := goodIn_r _ [921, 709, 280, 447, 198, 446, 281, 282, 5, 283, 284, 285, 286, 287, 183, 288, 830, 831, 832, 833, 214, 745, 746, 747, 748, 180, 448, 449, 450, 451, 190, 191, 749, 750, 751, 752, 185, 186, 452, 453, 454, 455, 456, 457, 458, 459, 460, 461, 462, 463, 192, 193, 194, 195, 196, 834, 835, 836, 837, 464, 465, 466, 467, 199, 197, 468, 469, 470, 471, 472, 473, 474, 475, 1115, 1116, 1117, 1118, 1119, 1120, 1121, 1122, 1123, 1124, 1125, 1126, 1127, 1128, 1129, 1130, 1131, 1132, 1133, 1134, 1135, 1136, 1137, 1138, 1139, 1140, 1141, 1142, 1143, 1144, 1145, 1146, 1147] (by decide +kernel) (by decide +kernel)
set_option maxRecDepth 20000 in
theorem gL_law_X8_lace : GoodIn wsL_law (wsV RL 129 RX8 yX8_lace wsX8_lace) := goodIn_app (goodIn_of _ (by decide +kernel)) ggL_law_X8_lace
set_option maxRecDepth 20000 in
theorem ggL_law_X7_layer : GoodIn wsL_law wsX7_layer := goodIn_r _ [925, 16, 231, 396, 233, 234, 235, 2, 236, 45, 237, 906, 907, 908, 909, 34, 26, 342, 35, 821, 822, 823, 824, 36, 567, 566, 244, 245, 246, 33, 247, 150, 151, 152, 153, 154, 155, 157, 158, 160, 161, 162, 163, 148, 149, 164, 60, 61, 62, 248, 249, 250, 20, 251, 119, 120, 121, 122, 403, 404, 405, 406, 407, 408, 409, 410, 411, 412, 413, 414, 415, 416, 417, 418, 419, 420, 421, 422, 423, 424, 425, 272, 269, 273, 426, 427, 428, 429, 926, 927, 928, 929, 1102, 1103, 1104, 1105, 1106, 1107, 1108, 1109, 1110, 1111, 1112, 1113, 1114, 1148, 1149, 1150, 1151, 1152, 1153, 1154, 1172, 1173, 1174, 1175, 1176, 1177, 1178, 1179, 1180, 1181, 1158, 1159, 1160, 1161, 1162, 1163, 1164, 1165, 1155, 1156, 1157] (by decide +kernel) (by decide +kernel)
set_option maxRecDepth 20000 in
theorem gL_law_X7_layer : GoodIn wsL_law (wsV RL 130 RX7 yX7_layer wsX7_layer) := goodIn_app (goodIn_of _ (by decide +kernel)) ggL_law_X7_layer
set_option maxRecDepth 20000 in
theorem ggL_law_X8_layer : GoodIn wsL_law wsX8_layer := goodIn_r _ [933, 280, 281, 282, 5, 283, 753, 754, 755, 756, 180, 284, 285, 286, 287, 183, 288, 830, 831, 832, 833, 214, 745, 746, 747, 748, 448, 449, 450, 451, 446, 190, 191, 749, 750, 751, 752, 185, 186, 452, 453, 454, 455, 456, 457, 458, 459, 460, 461, 462, 463, 192, 193, 194, 195, 196, 834, 835, 836, 837, 464, 465, 466, 467, 447, 199, 197, 468, 469, 470, 471, 198, 472, 473, 474, 475, 934, 935, 936, 937, 1115, 1116, 1117, 1118, 1119, 1120, 1121, 1122, 1123, 1124, 1125, 1126, 1127, 1128, 1129, 1130, 1131, 1132, 1133, 1134, 1135, 1136, 1137, 1138, 1139, 1140, 1141, 1142, 1143, 1144, 1145, 1146, 1147] (by decide +kernel) (by decide +kernel)
set_option maxRecDepth 20000 in
theorem gL_law_X8_layer : GoodIn wsL_law (wsV RL 133 RX8 yX8_layer wsX8_layer) := goodIn_app (goodIn_of _ (by decide +kernel)) ggL_law_X8_layer
set_option maxRecDepth 20000 in
theorem ggL_law_X7_repeat : GoodIn wsL_law wsX7_repeat := goodIn_r _ [941, 26, 489, 16, 942, 943, 944, 15, 945, 53, 233, 234, 235, 2, 236, 45, 237, 1102, 1103, 1104, 1105, 1106, 1107, 1108, 1109, 1110, 1111, 1112, 1113, 1114, 1158, 1159, 1160, 1161, 1162, 1163, 1164, 1165, 1148, 1149, 1150, 1151, 1152, 1153, 1154] (by decide +kernel) (by decide +kernel)
set_option maxRecDepth 20000 in
theorem gL_law_X7_repeat : GoodIn wsL_law (wsV RL 134 RX7 yX7_repeat wsX7_repeat) := goodIn_app (goodIn_of _ (by decide +kernel)) ggL_law_X7_repeat
set_option maxRecDepth 20000 in
theorem ggL_law_X8_repeat : GoodIn wsL_law wsX8_repeat := goodIn_r _ [949, 214, 527, 284, 285, 286, 5, 287, 183, 288, 528, 529, 530, 531, 184, 950, 951, 952, 953, 215, 216, 217, 218, 180, 219, 220, 221, 222, 1115, 1116, 1117, 1118, 1119, 1120, 1121, 1122, 1123, 1124, 1125, 1126, 1127, 1128, 1129, 1130, 1131, 1132, 1133, 1134, 1135, 1136, 1137, 1138, 1139, 1140, 1141, 1142, 1143, 1144, 1145, 1146, 1147] (by decide +kernel) (by decide +kernel)
set_option maxRecDepth 20000 in
theorem gL_law_X8_repeat : GoodIn wsL_law (wsV RL 137 RX8 yX8_repeat wsX8_repeat) := goodIn_app (goodIn_of _ (by decide +kernel)) ggL_law_X8_repeat
set_option maxRecDepth 20000 in
theorem ggL_law_X7_motif : GoodIn wsL_law wsX7_motif := goodIn_r _ [957, 43, 690, 765, 16, 231, 691, 692, 2, 693, 233, 234, 235, 236, 45, 237, 958, 959, 960, 15, 961, 52, 962, 963, 53, 964, 965, 966, 967, 1102, 1103, 1104, 1105, 1106, 1107, 1108, 1109, 1110, 1111, 1112, 1113, 1114, 1184, 1185, 1186, 1148, 1149, 1150, 1151, 1152, 1153, 1154] (by decide +kernel) (by decide +kernel)
set_option maxRecDepth 20000 in
theorem gL_law_X7_motif : GoodIn wsL_law (wsV RL 138 RX7 yX7_motif wsX7_motif) := goodIn_app (goodIn_of _ (by decide +kernel)) ggL_law_X7_motif
set_option maxRecDepth 20000 in
theorem ggL_law_X8_motif : GoodIn wsL_law wsX8_motif := goodIn_r _ [971, 445, 280, 203, 705, 204, 311, 527, 706, 707, 5, 708, 709, 281, 282, 283, 284, 285, 286, 287, 183, 288, 215, 216, 217, 218, 180, 972, 973, 974, 975, 205, 976, 977, 978, 979, 980, 309, 310, 219, 220, 221, 222, 1115, 1116, 1117, 1118, 1119, 1120, 1121, 1122, 1123, 1124, 1125, 1126, 1127, 1128, 1129, 1130, 1131, 1132, 1133, 1134, 1135, 1136, 1137, 1138, 1139, 1140, 1141, 1142, 1143, 1144, 1145, 1146, 1147] (by decide +kernel) (by decide +kernel)
set_option maxRecDepth 20000 in
theorem gL_law_X8_motif : GoodIn wsL_law (wsV RL 141 RX8 yX8_motif wsX8_motif) := goodIn_app (goodIn_of _ (by decide +kernel)) ggL_law_X8_motif
set_option maxRecDepth 20000 in
theorem ggL_law_X7_sheet : GoodIn wsL_law wsX7_sheet := goodIn_r _ [984, 43, 690, 691, 692, 2, 693, 233, 234, 235, 236, 45, 237, 985, 986, 987, 47, 988, 173, 174, 175, 989, 632, 61, 633, 1102, 1103, 1104, 1105, 1106, 1107, 1108, 1109, 1110, 1111, 1112, 1113, 1114, 1184, 1185, 1186] (by decide +kernel) (by decide +kernel)
set_option maxRecDepth 20000 in
theorem gL_law_X7_sheet : GoodIn wsL_law (wsV RL 142 RX7 yX7_sheet wsX7_sheet) := goodIn_app (goodIn_of _ (by decide +kernel)) ggL_law_X7_sheet
set_option maxRecDepth 20000 in
theorem ggL_law_X8_sheet : GoodIn wsL_law wsX8_sheet := goodIn_r _ [993, 309, 709, 280, 311, 203, 204, 205, 706, 707, 5, 708, 281, 282, 283, 284, 285, 286, 287, 183, 288, 1115, 1116, 1117, 1118, 1119, 1120, 1121, 1122, 1123, 1124, 1125, 1126, 1127, 1128, 1129, 1130, 1131, 1132, 1133, 1134, 1135, 1136, 1137, 1138, 1139, 1140, 1141, 1142, 1143, 1144, 1145, 1146, 1147] (by decide +kernel) (by decide +kernel)
set_option maxRecDepth 20000 in
theorem gL_law_X8_sheet : GoodIn wsL_law (wsV RL 145 RX8 yX8_sheet wsX8_sheet) := goodIn_app (goodIn_of _ (by decide +kernel)) ggL_law_X8_sheet
set_option maxRecDepth 20000 in
theorem ggL_law_X7_put : GoodIn wsL_law wsX7_put := goodIn_r _ [997, 43, 766, 691, 692, 2, 693, 233, 234, 235, 236, 45, 237, 998, 999, 1000, 47, 1001, 173, 174, 1002, 1003, 1004, 1005, 1102, 1103, 1104, 1105, 1106, 1107, 1108, 1109, 1110, 1111, 1112, 1113, 1114, 1184, 1185, 1186] (by decide +kernel) (by decide +kernel)
set_option maxRecDepth 20000 in
theorem gL_law_X7_put : GoodIn wsL_law (wsV RL 146 RX7 yX7_put wsX7_put) := goodIn_app (goodIn_of _ (by decide +kernel)) ggL_law_X7_put
set_option maxRecDepth 20000 in
theorem ggL_law_X8_put : GoodIn wsL_law wsX8_put := goodIn_r _ [1009, 280, 705, 205, 203, 706, 707, 5, 708, 709, 281, 282, 283, 284, 285, 286, 287, 183, 288, 1010, 1011, 1012, 1013, 204, 1115, 1116, 1117, 1118, 1119, 1120, 1121, 1122, 1123, 1124, 1125, 1126, 1127, 1128, 1129, 1130, 1131, 1132, 1133, 1134, 1135, 1136, 1137, 1138, 1139, 1140, 1141, 1142, 1143, 1144, 1145, 1146, 1147] (by decide +kernel) (by decide +kernel)
set_option maxRecDepth 20000 in
theorem gL_law_X8_put : GoodIn wsL_law (wsV RL 150 RX8 yX8_put wsX8_put) := goodIn_app (goodIn_of _ (by decide +kernel)) ggL_law_X8_put
set_option maxRecDepth 20000 in
theorem ggL_law_X7_number : GoodIn wsL_law wsX7_number := goodIn_r _ [1017, 43, 766, 691, 692, 2, 693, 615, 616, 617, 618, 45, 619, 998, 999, 1000, 47, 1001, 173, 174, 1102, 1103, 1104, 1105, 1106, 1107, 1108, 1109, 1110, 1111, 1112, 1113, 1114, 1184, 1185, 1186] (by decide +kernel) (by decide +kernel)
set_option maxRecDepth 20000 in
theorem gL_law_X7_number : GoodIn wsL_law (wsV RL 151 RX7 yX7_number wsX7_number) := goodIn_app (goodIn_of _ (by decide +kernel)) ggL_law_X7_number
set_option maxRecDepth 20000 in
theorem ggL_law_X8_number : GoodIn wsL_law wsX8_number := goodIn_r _ [1021, 280, 205, 705, 706, 707, 5, 708, 709, 281, 282, 283, 656, 657, 658, 659, 183, 288, 660, 1010, 1011, 1012, 1013, 203, 204, 1115, 1116, 1117, 1118, 1119, 1120, 1121, 1122, 1123, 1124, 1125, 1126, 1127, 1128, 1129, 1130, 1131, 1132, 1133, 1134, 1135, 1136, 1137, 1138, 1139, 1140, 1141, 1142, 1143, 1144, 1145, 1146, 1147] (by decide +kernel) (by decide +kernel)
set_option maxRecDepth 20000 in
theorem gL_law_X8_number : GoodIn wsL_law (wsV RL 155 RX8 yX8_number wsX8_number) := goodIn_app (goodIn_of _ (by decide +kernel)) ggL_law_X8_number
set_option maxRecDepth 20000 in
theorem ggL_law_X7_image : GoodIn wsL_law wsX7_image := goodIn_r _ [1025, 17, 16, 21, 34, 396, 22, 243, 1026, 1027, 1028, 15, 1029, 52, 53, 1030, 1031, 1032, 1033, 54, 55, 56, 57, 58, 1034, 1035, 1036, 20, 1037, 119, 120, 1038, 121, 1102, 1103, 1104, 1105, 1106, 1107, 1108, 1109, 1110, 1111, 1112, 1113, 1114, 1172, 1173, 1174, 1175, 1176, 1177, 1178, 1179, 1180, 1181, 1148, 1149, 1150, 1151, 1152, 1153, 1154, 1155, 1156, 1157] (by decide +kernel) (by decide +kernel)
set_option maxRecDepth 20000 in
theorem gL_law_X7_image : GoodIn wsL_law (wsV RL 156 RX7 yX7_image wsX7_image) := goodIn_app (goodIn_of _ (by decide +kernel)) ggL_law_X7_image
set_option maxRecDepth 20000 in
theorem ggL_law_X8_image : GoodIn wsL_law wsX8_image := goodIn_r _ [1042, 180, 181, 1043, 1044, 1045, 5, 1046, 1115, 1116, 1117, 1118, 1119, 1120, 1121, 1122, 1123, 1124, 1125, 1126, 1127, 1128, 1129, 1130, 1131, 1132, 1133, 1134, 1135, 1136, 1137, 1138, 1139, 1140, 1141, 1142, 1143, 1144, 1145, 1146, 1147] (by decide +kernel) (by decide +kernel)
set_option maxRecDepth 20000 in
theorem gL_law_X8_image : GoodIn wsL_law (wsV RL 159 RX8 yX8_image wsX8_image) := goodIn_app (goodIn_of _ (by decide +kernel)) ggL_law_X8_image
set_option maxRecDepth 20000 in
theorem ggL_law_X7_restore : GoodIn wsL_law wsX7_restore := goodIn_r _ [1050, 22, 16, 17, 243, 233, 234, 235, 2, 236, 45, 237, 1026, 1027, 1028, 15, 1029, 52, 53, 1030, 1031, 1032, 1033, 54, 55, 56, 57, 58, 252, 253, 254, 255, 26, 30, 256, 36, 257, 258, 259, 25, 260, 126, 127, 261, 262, 263, 264, 265, 266, 128, 129, 130, 131, 133, 267, 268, 269, 270, 271, 272, 273, 728, 729, 730, 731, 34, 37, 723, 567, 566, 244, 245, 246, 33, 247, 150, 151, 152, 153, 154, 155, 157, 158, 160, 161, 162, 163, 148, 149, 164, 60, 61, 62, 248, 249, 250, 20, 251, 119, 120, 121, 122, 403, 404, 405, 406, 407, 408, 409, 410, 411, 412, 413, 414, 415, 416, 417, 418, 419, 420, 421, 422, 423, 424, 425, 426, 427, 428, 429, 1102, 1103, 1104, 1105, 1106, 1107, 1108, 1109, 1110, 1111, 1112, 1113, 1114, 1148, 1149, 1150, 1151, 1152, 1153, 1154, 1166, 1167, 1168, 1169, 1170, 1171, 1158, 1159, 1160, 1161, 1162, 1163, 1164, 1165, 1172, 1173, 1174, 1175, 1176, 1177, 1178, 1179, 1180, 1181, 1155, 1156, 1157] (by decide +kernel) (by decide +kernel)
set_option maxRecDepth 20000 in
theorem gL_law_X7_restore : GoodIn wsL_law (wsV RL 160 RX7 yX7_restore wsX7_restore) := goodIn_app (goodIn_of _ (by decide +kernel)) ggL_law_X7_restore
set_option maxRecDepth 20000 in
theorem ggL_law_X8_restore : GoodIn wsL_law wsX8_restore := goodIn_r _ [1054, 1043, 527, 181, 180, 284, 285, 286, 5, 287, 183, 288, 1044, 1045, 1046, 210, 211, 212, 213, 214, 215, 216, 217, 218, 219, 220, 221, 222, 223, 224, 225, 226, 184, 185, 186, 188, 187, 1115, 1116, 1117, 1118, 1119, 1120, 1121, 1122, 1123, 1124, 1125, 1126, 1127, 1128, 1129, 1130, 1131, 1132, 1133, 1134, 1135, 1136, 1137, 1138, 1139, 1140, 1141, 1142, 1143, 1144, 1145, 1146, 1147] (by decide +kernel) (by decide +kernel)
set_option maxRecDepth 20000 in
theorem gL_law_X8_restore : GoodIn wsL_law (wsV RL 163 RX8 yX8_restore wsX8_restore) := goodIn_app (goodIn_of _ (by decide +kernel)) ggL_law_X8_restore
set_option maxRecDepth 20000 in
theorem ggL_law_X7_alike : GoodIn wsL_law wsX7_alike := goodIn_r _ [1058, 22, 34, 396, 21, 233, 234, 235, 2, 236, 45, 237, 1059, 1060, 1061, 20, 1062, 120, 1102, 1103, 1104, 1105, 1106, 1107, 1108, 1109, 1110, 1111, 1112, 1113, 1114, 1172, 1173, 1174, 1175, 1176, 1177, 1178, 1179, 1180, 1181, 1155, 1156, 1157] (by decide +kernel) (by decide +kernel)
set_option maxRecDepth 20000 in
theorem gL_law_X7_alike : GoodIn wsL_law (wsV RL 164 RX7 yX7_alike wsX7_alike) := goodIn_app (goodIn_of _ (by decide +kernel)) ggL_law_X7_alike
set_option maxRecDepth 20000 in
theorem ggL_law_X8_alike : GoodIn wsL_law wsX8_alike := goodIn_r _ [1066, 1043, 527, 180, 182, 181, 447, 206, 199, 197, 198, 284, 285, 286, 5, 287, 183, 288, 1044, 1045, 1046, 210, 211, 212, 213, 214, 215, 216, 217, 218, 219, 220, 221, 222, 223, 224, 225, 226, 184, 185, 186, 188, 187, 745, 746, 747, 748, 448, 449, 450, 451, 446, 190, 191, 749, 750, 751, 752, 452, 453, 454, 455, 456, 457, 458, 459, 460, 461, 462, 463, 192, 193, 194, 195, 196, 464, 465, 466, 467, 468, 469, 470, 471, 472, 473, 474, 475, 1115, 1116, 1117, 1118, 1119, 1120, 1121, 1122, 1123, 1124, 1125, 1126, 1127, 1128, 1129, 1130, 1131, 1132, 1133, 1134, 1135, 1136, 1137, 1138, 1139, 1140, 1141, 1142, 1143, 1144, 1145, 1146, 1147] (by decide +kernel) (by decide +kernel)
set_option maxRecDepth 20000 in
theorem gL_law_X8_alike : GoodIn wsL_law (wsV RL 167 RX8 yX8_alike wsX8_alike) := goodIn_app (goodIn_of _ (by decide +kernel)) ggL_law_X8_alike
set_option maxRecDepth 20000 in
theorem ggL_law_X7_count : GoodIn wsL_law wsX7_count := goodIn_r _ [1070, 16, 231, 41, 329, 722, 34, 804, 395, 1071, 1072, 2, 1073, 1074, 1075, 1076, 33, 1077, 149, 233, 234, 235, 236, 45, 237, 1102, 1103, 1104, 1105, 1106, 1107, 1108, 1109, 1110, 1111, 1112, 1113, 1114, 1148, 1149, 1150, 1151, 1152, 1153, 1154, 1182, 1183, 1172, 1173, 1174, 1175, 1176, 1177, 1178, 1179, 1180, 1181] (by decide +kernel) (by decide +kernel)
set_option maxRecDepth 20000 in
theorem gL_law_X7_count : GoodIn wsL_law (wsV RL 168 RX7 yX7_count wsX7_count) := goodIn_app (goodIn_of _ (by decide +kernel)) ggL_law_X7_count
set_option maxRecDepth 20000 in
theorem ggL_law_X8_count : GoodIn wsL_law wsX8_count := goodIn_r _ [1081, 180, 336, 280, 1082, 1083, 1084, 5, 1085, 191, 745, 746, 747, 748, 448, 449, 450, 451, 446, 190, 749, 750, 751, 752, 185, 186, 452, 453, 454, 455, 456, 457, 458, 459, 460, 461, 462, 463, 192, 193, 194, 195, 196, 753, 754, 755, 756, 1086, 1087, 1088, 1089, 1090, 1091, 1092, 1093, 284, 285, 286, 287, 183, 288, 1115, 1116, 1117, 1118, 1119, 1120, 1121, 1122, 1123, 1124, 1125, 1126, 1127, 1128, 1129, 1130, 1131, 1132, 1133, 1134, 1135, 1136, 1137, 1138, 1139, 1140, 1141, 1142, 1143, 1144, 1145, 1146, 1147] (by decide +kernel) (by decide +kernel)
set_option maxRecDepth 20000 in
theorem gL_law_X8_count : GoodIn wsL_law (wsV RL 171 RX8 yX8_count wsX8_count) := goodIn_app (goodIn_of _ (by decide +kernel)) ggL_law_X8_count
set_option maxRecDepth 20000 in
theorem ggL_law_X7_told : GoodIn wsL_law wsX7_told := goodIn_r _ [1097, 45, 233, 234, 235, 2, 236, 237, 1102, 1103, 1104, 1105, 1106, 1107, 1108, 1109, 1110, 1111, 1112, 1113, 1114] (by decide +kernel) (by decide +kernel)
set_option maxRecDepth 20000 in
theorem gL_law_X7_told : GoodIn wsL_law (wsV RL 172 RX7 yX7_told wsX7_told) := goodIn_app (goodIn_of _ (by decide +kernel)) ggL_law_X7_told
set_option maxRecDepth 20000 in
theorem ggL_law_X8_told : GoodIn wsL_law wsX8_told := goodIn_r _ [1101, 445, 183, 280, 281, 282, 5, 283, 284, 285, 286, 287, 288, 1115, 1116, 1117, 1118, 1119, 1120, 1121, 1122, 1123, 1124, 1125, 1126, 1127, 1128, 1129, 1130, 1131, 1132, 1133, 1134, 1135, 1136, 1137, 1138, 1139, 1140, 1141, 1142, 1143, 1144, 1145, 1146, 1147] (by decide +kernel) (by decide +kernel)
set_option maxRecDepth 20000 in
theorem gL_law_X8_told : GoodIn wsL_law (wsV RL 175 RX8 yX8_told wsX8_told) := goodIn_app (goodIn_of _ (by decide +kernel)) ggL_law_X8_told
theorem dL_law_0 : decode cL_law 0 = .ok (.new 7, 3) := by decide +kernel
theorem dL_law_3 : decode cL_law 3 = .ok (.dup, 1) := by decide +kernel
theorem dL_law_4 : decode cL_law 4 = .ok (.invokespecial 9, 3) := by decide +kernel
theorem dL_law_7 : decode cL_law 7 = .ok (.astore_n 1, 1) := by decide +kernel
theorem dL_law_8 : decode cL_law 8 = .ok (.new 10, 3) := by decide +kernel
theorem dL_law_11 : decode cL_law 11 = .ok (.dup, 1) := by decide +kernel
theorem dL_law_12 : decode cL_law 12 = .ok (.invokespecial 12, 3) := by decide +kernel
theorem dL_law_15 : decode cL_law 15 = .ok (.astore_n 2, 1) := by decide +kernel
theorem dL_law_16 : decode cL_law 16 = .ok (.iconst 0, 1) := by decide +kernel
theorem dL_law_17 : decode cL_law 17 = .ok (.istore_n 3, 1) := by decide +kernel
theorem dL_law_18 : decode cL_law 18 = .ok (.iload_n 3, 1) := by decide +kernel
theorem dL_law_19 : decode cL_law 19 = .ok (.aload_n 0, 1) := by decide +kernel
theorem dL_law_20 : decode cL_law 20 = .ok (.arraylength, 1) := by decide +kernel
theorem dL_law_21 : decode cL_law 21 = .ok (.iconst 5, 1) := by decide +kernel
theorem dL_law_22 : decode cL_law 22 = .ok (.isub, 1) := by decide +kernel
theorem dL_law_23 : decode cL_law 23 = .ok (.if_icmp .gt 1271, 3) := by decide +kernel
theorem dL_law_26 : decode cL_law 26 = .ok (.aload_n 0, 1) := by decide +kernel
theorem dL_law_27 : decode cL_law 27 = .ok (.iload_n 3, 1) := by decide +kernel
theorem dL_law_28 : decode cL_law 28 = .ok (.iaload, 1) := by decide +kernel
theorem dL_law_29 : decode cL_law 29 = .ok (.bipush 63, 2) := by decide +kernel
theorem dL_law_31 : decode cL_law 31 = .ok (.iand, 1) := by decide +kernel
theorem dL_law_32 : decode cL_law 32 = .ok (.tableswitch 1256 0 37 #[168, 191, 234, 267, 290, 303, 326, 359, 392, 415, 448, 481, 495, 558, 582, 605, 628, 641, 664, 687, 720, 753, 786, 800, 833, 866, 889, 922, 965, 978, 1021, 1064, 1137, 1171, 1184, 1197, 1210, 1233], 168) := by decide +kernel
theorem dL_law_200 : decode cL_law 200 = .ok (.aload_n 1, 1) := by decide +kernel
theorem dL_law_201 : decode cL_law 201 = .ok (.aload_n 0, 1) := by decide +kernel
theorem dL_law_202 : decode cL_law 202 = .ok (.iload_n 3, 1) := by decide +kernel
theorem dL_law_203 : decode cL_law 203 = .ok (.iconst 1, 1) := by decide +kernel
theorem dL_law_204 : decode cL_law 204 = .ok (.iadd, 1) := by decide +kernel
theorem dL_law_205 : decode cL_law 205 = .ok (.iaload, 1) := by decide +kernel
theorem dL_law_206 : decode cL_law 206 = .ok (.invokevirtual 13, 3) := by decide +kernel
theorem dL_law_209 : decode cL_law 209 = .ok (.aload_n 2, 1) := by decide +kernel
theorem dL_law_210 : decode cL_law 210 = .ok (.aload_n 0, 1) := by decide +kernel
theorem dL_law_211 : decode cL_law 211 = .ok (.iload_n 3, 1) := by decide +kernel
theorem dL_law_212 : decode cL_law 212 = .ok (.iconst 1, 1) := by decide +kernel
theorem dL_law_213 : decode cL_law 213 = .ok (.iadd, 1) := by decide +kernel
theorem dL_law_214 : decode cL_law 214 = .ok (.iaload, 1) := by decide +kernel
theorem dL_law_215 : decode cL_law 215 = .ok (.invokevirtual 17, 3) := by decide +kernel
theorem dL_law_218 : decode cL_law 218 = .ok (.if_icmp .eq 1070, 3) := by decide +kernel
theorem dL_law_221 : decode cL_law 221 = .ok (.iconst 0, 1) := by decide +kernel
theorem dL_law_222 : decode cL_law 222 = .ok (.ireturn, 1) := by decide +kernel
theorem dL_law_223 : decode cL_law 223 = .ok (.aload_n 1, 1) := by decide +kernel
theorem dL_law_224 : decode cL_law 224 = .ok (.aload_n 0, 1) := by decide +kernel
theorem dL_law_225 : decode cL_law 225 = .ok (.iload_n 3, 1) := by decide +kernel
theorem dL_law_226 : decode cL_law 226 = .ok (.iconst 1, 1) := by decide +kernel
theorem dL_law_227 : decode cL_law 227 = .ok (.iadd, 1) := by decide +kernel
theorem dL_law_228 : decode cL_law 228 = .ok (.iaload, 1) := by decide +kernel
theorem dL_law_229 : decode cL_law 229 = .ok (.aload_n 0, 1) := by decide +kernel
theorem dL_law_230 : decode cL_law 230 = .ok (.iload_n 3, 1) := by decide +kernel
theorem dL_law_231 : decode cL_law 231 = .ok (.iconst 2, 1) := by decide +kernel
theorem dL_law_232 : decode cL_law 232 = .ok (.iadd, 1) := by decide +kernel
theorem dL_law_233 : decode cL_law 233 = .ok (.iaload, 1) := by decide +kernel
theorem dL_law_234 : decode cL_law 234 = .ok (.aload_n 0, 1) := by decide +kernel
theorem dL_law_235 : decode cL_law 235 = .ok (.iload_n 3, 1) := by decide +kernel
theorem dL_law_236 : decode cL_law 236 = .ok (.iconst 3, 1) := by decide +kernel
theorem dL_law_237 : decode cL_law 237 = .ok (.iadd, 1) := by decide +kernel
theorem dL_law_238 : decode cL_law 238 = .ok (.iaload, 1) := by decide +kernel
theorem dL_law_239 : decode cL_law 239 = .ok (.invokevirtual 18, 3) := by decide +kernel
theorem dL_law_242 : decode cL_law 242 = .ok (.aload_n 2, 1) := by decide +kernel
theorem dL_law_243 : decode cL_law 243 = .ok (.aload_n 0, 1) := by decide +kernel
theorem dL_law_244 : decode cL_law 244 = .ok (.iload_n 3, 1) := by decide +kernel
theorem dL_law_245 : decode cL_law 245 = .ok (.iconst 1, 1) := by decide +kernel
theorem dL_law_246 : decode cL_law 246 = .ok (.iadd, 1) := by decide +kernel
theorem dL_law_247 : decode cL_law 247 = .ok (.iaload, 1) := by decide +kernel
theorem dL_law_248 : decode cL_law 248 = .ok (.aload_n 0, 1) := by decide +kernel
theorem dL_law_249 : decode cL_law 249 = .ok (.iload_n 3, 1) := by decide +kernel
theorem dL_law_250 : decode cL_law 250 = .ok (.iconst 2, 1) := by decide +kernel
theorem dL_law_251 : decode cL_law 251 = .ok (.iadd, 1) := by decide +kernel
theorem dL_law_252 : decode cL_law 252 = .ok (.iaload, 1) := by decide +kernel
theorem dL_law_253 : decode cL_law 253 = .ok (.aload_n 0, 1) := by decide +kernel
theorem dL_law_254 : decode cL_law 254 = .ok (.iload_n 3, 1) := by decide +kernel
theorem dL_law_255 : decode cL_law 255 = .ok (.iconst 3, 1) := by decide +kernel
theorem dL_law_256 : decode cL_law 256 = .ok (.iadd, 1) := by decide +kernel
theorem dL_law_257 : decode cL_law 257 = .ok (.iaload, 1) := by decide +kernel
theorem dL_law_258 : decode cL_law 258 = .ok (.invokevirtual 22, 3) := by decide +kernel
theorem dL_law_261 : decode cL_law 261 = .ok (.if_icmp .eq 1027, 3) := by decide +kernel
theorem dL_law_264 : decode cL_law 264 = .ok (.iconst 0, 1) := by decide +kernel
theorem dL_law_265 : decode cL_law 265 = .ok (.ireturn, 1) := by decide +kernel
theorem dL_law_266 : decode cL_law 266 = .ok (.aload_n 1, 1) := by decide +kernel
theorem dL_law_267 : decode cL_law 267 = .ok (.aload_n 0, 1) := by decide +kernel
theorem dL_law_268 : decode cL_law 268 = .ok (.iload_n 3, 1) := by decide +kernel
theorem dL_law_269 : decode cL_law 269 = .ok (.iconst 1, 1) := by decide +kernel
theorem dL_law_270 : decode cL_law 270 = .ok (.iadd, 1) := by decide +kernel
theorem dL_law_271 : decode cL_law 271 = .ok (.iaload, 1) := by decide +kernel
theorem dL_law_272 : decode cL_law 272 = .ok (.aload_n 0, 1) := by decide +kernel
theorem dL_law_273 : decode cL_law 273 = .ok (.iload_n 3, 1) := by decide +kernel
theorem dL_law_274 : decode cL_law 274 = .ok (.iconst 2, 1) := by decide +kernel
theorem dL_law_275 : decode cL_law 275 = .ok (.iadd, 1) := by decide +kernel
theorem dL_law_276 : decode cL_law 276 = .ok (.iaload, 1) := by decide +kernel
theorem dL_law_277 : decode cL_law 277 = .ok (.invokevirtual 23, 3) := by decide +kernel
theorem dL_law_280 : decode cL_law 280 = .ok (.aload_n 2, 1) := by decide +kernel
theorem dL_law_281 : decode cL_law 281 = .ok (.aload_n 0, 1) := by decide +kernel
theorem dL_law_282 : decode cL_law 282 = .ok (.iload_n 3, 1) := by decide +kernel
theorem dL_law_283 : decode cL_law 283 = .ok (.iconst 1, 1) := by decide +kernel
theorem dL_law_284 : decode cL_law 284 = .ok (.iadd, 1) := by decide +kernel
theorem dL_law_285 : decode cL_law 285 = .ok (.iaload, 1) := by decide +kernel
theorem dL_law_286 : decode cL_law 286 = .ok (.aload_n 0, 1) := by decide +kernel
theorem dL_law_287 : decode cL_law 287 = .ok (.iload_n 3, 1) := by decide +kernel
theorem dL_law_288 : decode cL_law 288 = .ok (.iconst 2, 1) := by decide +kernel
theorem dL_law_289 : decode cL_law 289 = .ok (.iadd, 1) := by decide +kernel
theorem dL_law_290 : decode cL_law 290 = .ok (.iaload, 1) := by decide +kernel
theorem dL_law_291 : decode cL_law 291 = .ok (.invokevirtual 27, 3) := by decide +kernel
theorem dL_law_294 : decode cL_law 294 = .ok (.if_icmp .eq 994, 3) := by decide +kernel
theorem dL_law_297 : decode cL_law 297 = .ok (.iconst 0, 1) := by decide +kernel
theorem dL_law_298 : decode cL_law 298 = .ok (.ireturn, 1) := by decide +kernel
theorem dL_law_299 : decode cL_law 299 = .ok (.aload_n 1, 1) := by decide +kernel
theorem dL_law_300 : decode cL_law 300 = .ok (.aload_n 0, 1) := by decide +kernel
theorem dL_law_301 : decode cL_law 301 = .ok (.iload_n 3, 1) := by decide +kernel
theorem dL_law_302 : decode cL_law 302 = .ok (.iconst 1, 1) := by decide +kernel
theorem dL_law_303 : decode cL_law 303 = .ok (.iadd, 1) := by decide +kernel
theorem dL_law_304 : decode cL_law 304 = .ok (.iaload, 1) := by decide +kernel
theorem dL_law_305 : decode cL_law 305 = .ok (.invokevirtual 28, 3) := by decide +kernel
theorem dL_law_308 : decode cL_law 308 = .ok (.aload_n 2, 1) := by decide +kernel
theorem dL_law_309 : decode cL_law 309 = .ok (.aload_n 0, 1) := by decide +kernel
theorem dL_law_310 : decode cL_law 310 = .ok (.iload_n 3, 1) := by decide +kernel
theorem dL_law_311 : decode cL_law 311 = .ok (.iconst 1, 1) := by decide +kernel
theorem dL_law_312 : decode cL_law 312 = .ok (.iadd, 1) := by decide +kernel
theorem dL_law_313 : decode cL_law 313 = .ok (.iaload, 1) := by decide +kernel
theorem dL_law_314 : decode cL_law 314 = .ok (.invokevirtual 31, 3) := by decide +kernel
theorem dL_law_317 : decode cL_law 317 = .ok (.if_icmp .eq 971, 3) := by decide +kernel
theorem dL_law_320 : decode cL_law 320 = .ok (.iconst 0, 1) := by decide +kernel
theorem dL_law_321 : decode cL_law 321 = .ok (.ireturn, 1) := by decide +kernel
theorem dL_law_322 : decode cL_law 322 = .ok (.aload_n 1, 1) := by decide +kernel
theorem dL_law_323 : decode cL_law 323 = .ok (.invokevirtual 32, 3) := by decide +kernel
theorem dL_law_326 : decode cL_law 326 = .ok (.aload_n 2, 1) := by decide +kernel
theorem dL_law_327 : decode cL_law 327 = .ok (.invokevirtual 36, 3) := by decide +kernel
theorem dL_law_330 : decode cL_law 330 = .ok (.if_icmp .eq 958, 3) := by decide +kernel
theorem dL_law_333 : decode cL_law 333 = .ok (.iconst 0, 1) := by decide +kernel
theorem dL_law_334 : decode cL_law 334 = .ok (.ireturn, 1) := by decide +kernel
theorem dL_law_335 : decode cL_law 335 = .ok (.aload_n 1, 1) := by decide +kernel
theorem dL_law_336 : decode cL_law 336 = .ok (.aload_n 0, 1) := by decide +kernel
theorem dL_law_337 : decode cL_law 337 = .ok (.iload_n 3, 1) := by decide +kernel
theorem dL_law_338 : decode cL_law 338 = .ok (.iconst 1, 1) := by decide +kernel
theorem dL_law_339 : decode cL_law 339 = .ok (.iadd, 1) := by decide +kernel
theorem dL_law_340 : decode cL_law 340 = .ok (.iaload, 1) := by decide +kernel
theorem dL_law_341 : decode cL_law 341 = .ok (.invokevirtual 37, 3) := by decide +kernel
theorem dL_law_344 : decode cL_law 344 = .ok (.aload_n 2, 1) := by decide +kernel
theorem dL_law_345 : decode cL_law 345 = .ok (.aload_n 0, 1) := by decide +kernel
theorem dL_law_346 : decode cL_law 346 = .ok (.iload_n 3, 1) := by decide +kernel
theorem dL_law_347 : decode cL_law 347 = .ok (.iconst 1, 1) := by decide +kernel
theorem dL_law_348 : decode cL_law 348 = .ok (.iadd, 1) := by decide +kernel
theorem dL_law_349 : decode cL_law 349 = .ok (.iaload, 1) := by decide +kernel
theorem dL_law_350 : decode cL_law 350 = .ok (.invokevirtual 40, 3) := by decide +kernel
theorem dL_law_353 : decode cL_law 353 = .ok (.if_icmp .eq 935, 3) := by decide +kernel
theorem dL_law_356 : decode cL_law 356 = .ok (.iconst 0, 1) := by decide +kernel
theorem dL_law_357 : decode cL_law 357 = .ok (.ireturn, 1) := by decide +kernel
theorem dL_law_358 : decode cL_law 358 = .ok (.aload_n 1, 1) := by decide +kernel
theorem dL_law_359 : decode cL_law 359 = .ok (.aload_n 0, 1) := by decide +kernel
theorem dL_law_360 : decode cL_law 360 = .ok (.iload_n 3, 1) := by decide +kernel
theorem dL_law_361 : decode cL_law 361 = .ok (.iconst 1, 1) := by decide +kernel
theorem dL_law_362 : decode cL_law 362 = .ok (.iadd, 1) := by decide +kernel
theorem dL_law_363 : decode cL_law 363 = .ok (.iaload, 1) := by decide +kernel
theorem dL_law_364 : decode cL_law 364 = .ok (.aload_n 0, 1) := by decide +kernel
theorem dL_law_365 : decode cL_law 365 = .ok (.iload_n 3, 1) := by decide +kernel
theorem dL_law_366 : decode cL_law 366 = .ok (.iconst 2, 1) := by decide +kernel
theorem dL_law_367 : decode cL_law 367 = .ok (.iadd, 1) := by decide +kernel
theorem dL_law_368 : decode cL_law 368 = .ok (.iaload, 1) := by decide +kernel
theorem dL_law_369 : decode cL_law 369 = .ok (.invokevirtual 41, 3) := by decide +kernel
theorem dL_law_372 : decode cL_law 372 = .ok (.aload_n 2, 1) := by decide +kernel
theorem dL_law_373 : decode cL_law 373 = .ok (.aload_n 0, 1) := by decide +kernel
theorem dL_law_374 : decode cL_law 374 = .ok (.iload_n 3, 1) := by decide +kernel
theorem dL_law_375 : decode cL_law 375 = .ok (.iconst 1, 1) := by decide +kernel
theorem dL_law_376 : decode cL_law 376 = .ok (.iadd, 1) := by decide +kernel
theorem dL_law_377 : decode cL_law 377 = .ok (.iaload, 1) := by decide +kernel
theorem dL_law_378 : decode cL_law 378 = .ok (.aload_n 0, 1) := by decide +kernel
theorem dL_law_379 : decode cL_law 379 = .ok (.iload_n 3, 1) := by decide +kernel
theorem dL_law_380 : decode cL_law 380 = .ok (.iconst 2, 1) := by decide +kernel
theorem dL_law_381 : decode cL_law 381 = .ok (.iadd, 1) := by decide +kernel
theorem dL_law_382 : decode cL_law 382 = .ok (.iaload, 1) := by decide +kernel
theorem dL_law_383 : decode cL_law 383 = .ok (.invokevirtual 44, 3) := by decide +kernel
theorem dL_law_386 : decode cL_law 386 = .ok (.if_icmp .eq 902, 3) := by decide +kernel
theorem dL_law_389 : decode cL_law 389 = .ok (.iconst 0, 1) := by decide +kernel
theorem dL_law_390 : decode cL_law 390 = .ok (.ireturn, 1) := by decide +kernel
theorem dL_law_391 : decode cL_law 391 = .ok (.aload_n 1, 1) := by decide +kernel
theorem dL_law_392 : decode cL_law 392 = .ok (.aload_n 0, 1) := by decide +kernel
theorem dL_law_393 : decode cL_law 393 = .ok (.iload_n 3, 1) := by decide +kernel
theorem dL_law_394 : decode cL_law 394 = .ok (.iconst 1, 1) := by decide +kernel
theorem dL_law_395 : decode cL_law 395 = .ok (.iadd, 1) := by decide +kernel
theorem dL_law_396 : decode cL_law 396 = .ok (.iaload, 1) := by decide +kernel
theorem dL_law_397 : decode cL_law 397 = .ok (.aload_n 0, 1) := by decide +kernel
theorem dL_law_398 : decode cL_law 398 = .ok (.iload_n 3, 1) := by decide +kernel
theorem dL_law_399 : decode cL_law 399 = .ok (.iconst 2, 1) := by decide +kernel
theorem dL_law_400 : decode cL_law 400 = .ok (.iadd, 1) := by decide +kernel
theorem dL_law_401 : decode cL_law 401 = .ok (.iaload, 1) := by decide +kernel
theorem dL_law_402 : decode cL_law 402 = .ok (.invokevirtual 45, 3) := by decide +kernel
theorem dL_law_405 : decode cL_law 405 = .ok (.aload_n 2, 1) := by decide +kernel
theorem dL_law_406 : decode cL_law 406 = .ok (.aload_n 0, 1) := by decide +kernel
theorem dL_law_407 : decode cL_law 407 = .ok (.iload_n 3, 1) := by decide +kernel
theorem dL_law_408 : decode cL_law 408 = .ok (.iconst 1, 1) := by decide +kernel
theorem dL_law_409 : decode cL_law 409 = .ok (.iadd, 1) := by decide +kernel
theorem dL_law_410 : decode cL_law 410 = .ok (.iaload, 1) := by decide +kernel
theorem dL_law_411 : decode cL_law 411 = .ok (.aload_n 0, 1) := by decide +kernel
theorem dL_law_412 : decode cL_law 412 = .ok (.iload_n 3, 1) := by decide +kernel
theorem dL_law_413 : decode cL_law 413 = .ok (.iconst 2, 1) := by decide +kernel
theorem dL_law_414 : decode cL_law 414 = .ok (.iadd, 1) := by decide +kernel
theorem dL_law_415 : decode cL_law 415 = .ok (.iaload, 1) := by decide +kernel
theorem dL_law_416 : decode cL_law 416 = .ok (.invokevirtual 48, 3) := by decide +kernel
theorem dL_law_419 : decode cL_law 419 = .ok (.if_icmp .eq 869, 3) := by decide +kernel
theorem dL_law_422 : decode cL_law 422 = .ok (.iconst 0, 1) := by decide +kernel
theorem dL_law_423 : decode cL_law 423 = .ok (.ireturn, 1) := by decide +kernel
theorem dL_law_424 : decode cL_law 424 = .ok (.aload_n 1, 1) := by decide +kernel
theorem dL_law_425 : decode cL_law 425 = .ok (.aload_n 0, 1) := by decide +kernel
theorem dL_law_426 : decode cL_law 426 = .ok (.iload_n 3, 1) := by decide +kernel
theorem dL_law_427 : decode cL_law 427 = .ok (.iconst 1, 1) := by decide +kernel
theorem dL_law_428 : decode cL_law 428 = .ok (.iadd, 1) := by decide +kernel
theorem dL_law_429 : decode cL_law 429 = .ok (.iaload, 1) := by decide +kernel
theorem dL_law_430 : decode cL_law 430 = .ok (.invokevirtual 49, 3) := by decide +kernel
theorem dL_law_433 : decode cL_law 433 = .ok (.aload_n 2, 1) := by decide +kernel
theorem dL_law_434 : decode cL_law 434 = .ok (.aload_n 0, 1) := by decide +kernel
theorem dL_law_435 : decode cL_law 435 = .ok (.iload_n 3, 1) := by decide +kernel
theorem dL_law_436 : decode cL_law 436 = .ok (.iconst 1, 1) := by decide +kernel
