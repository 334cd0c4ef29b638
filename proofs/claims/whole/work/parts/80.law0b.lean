-- THE LAW: its words, one by one
theorem mW1_0 : Cond.classLink RL 7 RX7 ∈ wsL_law := inR1 _ (List.mem_of_getElem? (i := 0) rfl)
theorem mW1_1 : Cond.instantiable RX7 13 ∈ wsL_law := inR1 _ (List.mem_of_getElem? (i := 1) rfl)
theorem mW1_2 : Cond.initialized RX7 ∈ wsL_law := inR1 _ (List.mem_of_getElem? (i := 2) rfl)
theorem mW1_3 : Cond.classLink RL 10 RX8 ∈ wsL_law := inR1 _ (List.mem_of_getElem? (i := 3) rfl)
theorem mW1_4 : Cond.instantiable RX8 33 ∈ wsL_law := inR1 _ (List.mem_of_getElem? (i := 4) rfl)
theorem mW1_5 : Cond.initialized RX8 ∈ wsL_law := inR1 _ (List.mem_of_getElem? (i := 5) rfl)
theorem mW1_6 : Cond.constantLong RL 66 (4294967295) ∈ wsL_law := inR1 _ (List.mem_of_getElem? (i := 6) rfl)
theorem mW1_7 : Cond.methodLink RL 9 yX7_init ∈ wsL_law := inR1 _ (List.mem_of_getElem? (i := 7) rfl)
theorem mW1_8 : Cond.instanceMethod yX7_init ∈ wsL_law := inR1 _ (List.mem_of_getElem? (i := 8) rfl)
theorem mW1_9 : Cond.code yX7_init cX7_init 2 none ∈ wsL_law := inR1 _ (List.mem_of_getElem? (i := 9) rfl)
theorem mW1_10 : Cond.methodLink RX7 3 objectInit ∈ wsL_law := inR1 _ (List.mem_of_getElem? (i := 10) rfl)
theorem mW1_11 : Cond.instanceMethod objectInit ∈ wsL_law := inR1 _ (List.mem_of_getElem? (i := 11) rfl)
theorem mW1_12 : Cond.code objectInit ⟨#[0xb1]⟩ 1 none ∈ wsL_law := inR1 _ (List.mem_of_getElem? (i := 12) rfl)
theorem mW1_13 : Cond.classLink RX7 9 RX2 ∈ wsL_law := inR1 _ (List.mem_of_getElem? (i := 13) rfl)
theorem mW1_14 : Cond.instantiable RX2 7 ∈ wsL_law := inR1 _ (List.mem_of_getElem? (i := 14) rfl)
theorem mW1_15 : Cond.initialized RX2 ∈ wsL_law := inR1 _ (List.mem_of_getElem? (i := 15) rfl)
theorem mW1_16 : Cond.fieldLink RX7 12 "LacePillow" "plan" "LLacePillow$Plan;" ∈ wsL_law := inR1 _ (List.mem_of_getElem? (i := 16) rfl)
theorem mW1_17 : Cond.fieldLink RX7 16 "LacePillow" "kept" "LLacePillow$Plan;" ∈ wsL_law := inR1 _ (List.mem_of_getElem? (i := 17) rfl)
theorem mW1_18 : Cond.classLink RX7 19 RX1 ∈ wsL_law := inR1 _ (List.mem_of_getElem? (i := 18) rfl)
theorem mW1_19 : Cond.instantiable RX1 3 ∈ wsL_law := inR1 _ (List.mem_of_getElem? (i := 19) rfl)
theorem mW1_20 : Cond.initialized RX1 ∈ wsL_law := inR1 _ (List.mem_of_getElem? (i := 20) rfl)
theorem mW1_21 : Cond.fieldLink RX7 22 "LacePillow" "keptHeap" "LLacePillow$Heap;" ∈ wsL_law := inR1 _ (List.mem_of_getElem? (i := 21) rfl)
theorem mW1_22 : Cond.fieldLink RX7 26 "LacePillow" "imaged" "Z" ∈ wsL_law := inR1 _ (List.mem_of_getElem? (i := 22) rfl)
theorem mW1_23 : Cond.classLink RX7 30 RX0 ∈ wsL_law := inR1 _ (List.mem_of_getElem? (i := 23) rfl)
theorem mW2_0 : Cond.instantiable RX0 8 ∈ wsL_law := inR2 _ (List.mem_of_getElem? (i := 0) rfl)
theorem mW2_1 : Cond.initialized RX0 ∈ wsL_law := inR2 _ (List.mem_of_getElem? (i := 1) rfl)
theorem mW2_2 : Cond.fieldLink RX7 33 "LacePillow" "ground" "LLacePillow$Ground;" ∈ wsL_law := inR2 _ (List.mem_of_getElem? (i := 2) rfl)
theorem mW2_3 : Cond.classLink RX7 37 RX5 ∈ wsL_law := inR2 _ (List.mem_of_getElem? (i := 3) rfl)
theorem mW2_4 : Cond.instantiable RX5 6 ∈ wsL_law := inR2 _ (List.mem_of_getElem? (i := 4) rfl)
theorem mW2_5 : Cond.initialized RX5 ∈ wsL_law := inR2 _ (List.mem_of_getElem? (i := 5) rfl)
theorem mW2_6 : Cond.fieldLink RX7 40 "LacePillow" "ways" "LLacePillow$Ways;" ∈ wsL_law := inR2 _ (List.mem_of_getElem? (i := 6) rfl)
theorem mW2_7 : Cond.classLink RX7 44 RX6 ∈ wsL_law := inR2 _ (List.mem_of_getElem? (i := 7) rfl)
theorem mW2_8 : Cond.instantiable RX6 10 ∈ wsL_law := inR2 _ (List.mem_of_getElem? (i := 8) rfl)
theorem mW2_9 : Cond.initialized RX6 ∈ wsL_law := inR2 _ (List.mem_of_getElem? (i := 9) rfl)
theorem mW2_10 : Cond.fieldLink RX7 47 "LacePillow" "done" "LLacePillow$Weave;" ∈ wsL_law := inR2 _ (List.mem_of_getElem? (i := 10) rfl)
theorem mW2_11 : Cond.fieldLink RX7 51 "LacePillow" "thought" "LLacePillow$Weave;" ∈ wsL_law := inR2 _ (List.mem_of_getElem? (i := 11) rfl)
theorem mW2_12 : Cond.fieldLink RX7 54 "LacePillow" "thoughtStitches" "I" ∈ wsL_law := inR2 _ (List.mem_of_getElem? (i := 12) rfl)
theorem mW2_13 : Cond.fieldLink RX7 58 "LacePillow" "workedBits" "J" ∈ wsL_law := inR2 _ (List.mem_of_getElem? (i := 13) rfl)
theorem mW2_14 : Cond.classLink RX7 62 RX4 ∈ wsL_law := inR2 _ (List.mem_of_getElem? (i := 14) rfl)
theorem mW2_15 : Cond.instantiable RX4 2 ∈ wsL_law := inR2 _ (List.mem_of_getElem? (i := 15) rfl)
theorem mW2_16 : Cond.initialized RX4 ∈ wsL_law := inR2 _ (List.mem_of_getElem? (i := 16) rfl)
theorem mW2_17 : Cond.fieldLink RX7 65 "LacePillow" "tape" "LLacePillow$Tape;" ∈ wsL_law := inR2 _ (List.mem_of_getElem? (i := 17) rfl)
theorem mW2_18 : Cond.classLink RX7 69 RX3 ∈ wsL_law := inR2 _ (List.mem_of_getElem? (i := 18) rfl)
theorem mW2_19 : Cond.fieldLink RX7 71 "LacePillow" "sheets" "[LLacePillow$Sheet;" ∈ wsL_law := inR2 _ (List.mem_of_getElem? (i := 19) rfl)
theorem mW2_20 : Cond.arrayClass .int ∈ wsL_law := inR2 _ (List.mem_of_getElem? (i := 20) rfl)
theorem mW2_21 : Cond.fieldLink RX7 75 "LacePillow" "errors" "[I" ∈ wsL_law := inR2 _ (List.mem_of_getElem? (i := 21) rfl)
theorem mW2_22 : Cond.instantiable RX3 3 ∈ wsL_law := inR2 _ (List.mem_of_getElem? (i := 22) rfl)
theorem mW2_23 : Cond.initialized RX3 ∈ wsL_law := inR2 _ (List.mem_of_getElem? (i := 23) rfl)
theorem mW3_0 : Cond.methodLink RX7 11 yX2_init ∈ wsL_law := inR3 _ (List.mem_of_getElem? (i := 0) rfl)
theorem mW3_1 : Cond.instanceMethod yX2_init ∈ wsL_law := inR3 _ (List.mem_of_getElem? (i := 1) rfl)
theorem mW3_2 : Cond.code yX2_init cX2_init 4 none ∈ wsL_law := inR3 _ (List.mem_of_getElem? (i := 2) rfl)
theorem mW3_3 : Cond.methodLink RX2 3 objectInit ∈ wsL_law := inR3 _ (List.mem_of_getElem? (i := 3) rfl)
theorem mW3_4 : Cond.fieldLink RX2 9 "LacePillow$Plan" "pairs" "I" ∈ wsL_law := inR3 _ (List.mem_of_getElem? (i := 4) rfl)
theorem mW3_5 : Cond.fieldLink RX2 15 "LacePillow$Plan" "cells" "[I" ∈ wsL_law := inR3 _ (List.mem_of_getElem? (i := 5) rfl)
theorem mW3_6 : Cond.fieldLink RX2 19 "LacePillow$Plan" "letters" "[I" ∈ wsL_law := inR3 _ (List.mem_of_getElem? (i := 6) rfl)
theorem mW3_7 : Cond.fieldLink RX2 22 "LacePillow$Plan" "lengths" "[I" ∈ wsL_law := inR3 _ (List.mem_of_getElem? (i := 7) rfl)
theorem mW3_8 : Cond.fieldLink RX2 25 "LacePillow$Plan" "wound" "[I" ∈ wsL_law := inR3 _ (List.mem_of_getElem? (i := 8) rfl)
theorem mW3_9 : Cond.fieldLink RX2 28 "LacePillow$Plan" "work" "[I" ∈ wsL_law := inR3 _ (List.mem_of_getElem? (i := 9) rfl)
theorem mW3_10 : Cond.fieldLink RX2 31 "LacePillow$Plan" "worked" "I" ∈ wsL_law := inR3 _ (List.mem_of_getElem? (i := 10) rfl)
theorem mW3_11 : Cond.methodLink RX2 34 yJ7_fill_53178 ∈ wsL_law := inR3 _ (List.mem_of_getElem? (i := 11) rfl)
theorem mW3_12 : Cond.static yJ7_fill_53178 ∈ wsL_law := inR3 _ (List.mem_of_getElem? (i := 12) rfl)
theorem mW3_13 : Cond.initialized RJ7 ∈ wsL_law := inR3 _ (List.mem_of_getElem? (i := 13) rfl)
theorem mW3_14 : Cond.code yJ7_fill_53178 cJ7_fill_53178 4 none ∈ wsL_law := inR3 _ (List.mem_of_getElem? (i := 14) rfl)
theorem mW3_15 : Cond.methodLink RX2 40 yX2_firstWord ∈ wsL_law := inR3 _ (List.mem_of_getElem? (i := 15) rfl)
theorem mW3_16 : Cond.static yX2_firstWord ∈ wsL_law := inR3 _ (List.mem_of_getElem? (i := 16) rfl)
theorem mW3_17 : Cond.code yX2_firstWord cX2_firstWord 1 (some (.object "java/lang/String")) ∈ wsL_law := inR3 _ (List.mem_of_getElem? (i := 17) rfl)
theorem mW3_18 : Cond.methodLink RX2 44 yJ0_length_8abf5 ∈ wsL_law := inR3 _ (List.mem_of_getElem? (i := 18) rfl)
theorem mW3_19 : Cond.instanceMethod yJ0_length_8abf5 ∈ wsL_law := inR3 _ (List.mem_of_getElem? (i := 19) rfl)
theorem mW3_20 : Cond.selects RJ0 yJ0_length_8abf5 yJ0_length_8abf5 ∈ wsL_law := inR3 _ (List.mem_of_getElem? (i := 20) rfl)
theorem mW3_21 : Cond.initialized RJ0 ∈ wsL_law := inR3 _ (List.mem_of_getElem? (i := 21) rfl)
theorem mW3_22 : Cond.code yJ0_length_8abf5 cJ0_length_8abf5 1 (some .int) ∈ wsL_law := inR3 _ (List.mem_of_getElem? (i := 22) rfl)
theorem mW3_23 : Cond.fieldLink RJ0 9 "java/lang/String" "value" "[B" ∈ wsL_law := inR3 _ (List.mem_of_getElem? (i := 23) rfl)
theorem mW4_0 : Cond.methodLink RJ0 335 yJ0_coder_7d493 ∈ wsL_law := inR4 _ (List.mem_of_getElem? (i := 0) rfl)
theorem mW4_1 : Cond.instanceMethod yJ0_coder_7d493 ∈ wsL_law := inR4 _ (List.mem_of_getElem? (i := 1) rfl)
theorem mW4_2 : Cond.selects RJ0 yJ0_coder_7d493 yJ0_coder_7d493 ∈ wsL_law := inR4 _ (List.mem_of_getElem? (i := 2) rfl)
theorem mW4_3 : Cond.code yJ0_coder_7d493 cJ0_coder_7d493 1 (some .byte) ∈ wsL_law := inR4 _ (List.mem_of_getElem? (i := 3) rfl)
theorem mW4_4 : Cond.fieldLink RJ0 38 "java/lang/String" "COMPACT_STRINGS" "Z" ∈ wsL_law := inR4 _ (List.mem_of_getElem? (i := 4) rfl)
theorem mW4_5 : Cond.fieldLink RJ0 15 "java/lang/String" "coder" "B" ∈ wsL_law := inR4 _ (List.mem_of_getElem? (i := 5) rfl)
theorem mW4_6 : Cond.methodLink RX2 50 yJ0_charAt_5068e ∈ wsL_law := inR4 _ (List.mem_of_getElem? (i := 6) rfl)
theorem mW4_7 : Cond.instanceMethod yJ0_charAt_5068e ∈ wsL_law := inR4 _ (List.mem_of_getElem? (i := 7) rfl)
theorem mW4_8 : Cond.selects RJ0 yJ0_charAt_5068e yJ0_charAt_5068e ∈ wsL_law := inR4 _ (List.mem_of_getElem? (i := 8) rfl)
theorem mW4_9 : Cond.code yJ0_charAt_5068e cJ0_charAt_5068e 2 (some .char) ∈ wsL_law := inR4 _ (List.mem_of_getElem? (i := 9) rfl)
theorem mW4_10 : Cond.methodLink RJ0 492 yJ0_isLatin1_aae02 ∈ wsL_law := inR4 _ (List.mem_of_getElem? (i := 10) rfl)
theorem mW4_11 : Cond.instanceMethod yJ0_isLatin1_aae02 ∈ wsL_law := inR4 _ (List.mem_of_getElem? (i := 11) rfl)
theorem mW4_12 : Cond.selects RJ0 yJ0_isLatin1_aae02 yJ0_isLatin1_aae02 ∈ wsL_law := inR4 _ (List.mem_of_getElem? (i := 12) rfl)
theorem mW4_13 : Cond.code yJ0_isLatin1_aae02 cJ0_isLatin1_aae02 1 (some .boolean) ∈ wsL_law := inR4 _ (List.mem_of_getElem? (i := 13) rfl)
theorem mW4_14 : Cond.methodLink RJ0 495 yJ1_charAt_3b067 ∈ wsL_law := inR4 _ (List.mem_of_getElem? (i := 14) rfl)
theorem mW4_15 : Cond.static yJ1_charAt_3b067 ∈ wsL_law := inR4 _ (List.mem_of_getElem? (i := 15) rfl)
theorem mW4_16 : Cond.initialized RJ1 ∈ wsL_law := inR4 _ (List.mem_of_getElem? (i := 16) rfl)
theorem mW4_17 : Cond.code yJ1_charAt_3b067 cJ1_charAt_3b067 2 (some .char) ∈ wsL_law := inR4 _ (List.mem_of_getElem? (i := 17) rfl)
theorem mW4_18 : Cond.methodLink RJ1 9 yJ0_checkIndex_df160 ∈ wsL_law := inR4 _ (List.mem_of_getElem? (i := 18) rfl)
theorem mW4_19 : Cond.static yJ0_checkIndex_df160 ∈ wsL_law := inR4 _ (List.mem_of_getElem? (i := 19) rfl)
theorem mW4_20 : Cond.code yJ0_checkIndex_df160 cJ0_checkIndex_df160 2 none ∈ wsL_law := inR4 _ (List.mem_of_getElem? (i := 20) rfl)
theorem mW4_21 : Cond.fieldLink RJ0 1053 "jdk/internal/util/Preconditions" "SIOOBE_FORMATTER" "Ljava/util/function/BiFunction;" ∈ wsL_law := inR4 _ (List.mem_of_getElem? (i := 21) rfl)
theorem mW4_22 : Cond.methodLink RJ0 1059 yJ3_checkIndex_8e157 ∈ wsL_law := inR4 _ (List.mem_of_getElem? (i := 22) rfl)
theorem mW4_23 : Cond.static yJ3_checkIndex_8e157 ∈ wsL_law := inR4 _ (List.mem_of_getElem? (i := 23) rfl)
theorem mW5_0 : Cond.initialized RJ3 ∈ wsL_law := inR5 _ (List.mem_of_getElem? (i := 0) rfl)
theorem mW5_1 : Cond.code yJ3_checkIndex_8e157 cJ3_checkIndex_8e157 3 (some .int) ∈ wsL_law := inR5 _ (List.mem_of_getElem? (i := 1) rfl)
theorem mW5_2 : Cond.methodLink RJ0 498 yJ2_charAt_3b067 ∈ wsL_law := inR5 _ (List.mem_of_getElem? (i := 2) rfl)
theorem mW5_3 : Cond.static yJ2_charAt_3b067 ∈ wsL_law := inR5 _ (List.mem_of_getElem? (i := 3) rfl)
theorem mW5_4 : Cond.initialized RJ2 ∈ wsL_law := inR5 _ (List.mem_of_getElem? (i := 4) rfl)
theorem mW5_5 : Cond.code yJ2_charAt_3b067 cJ2_charAt_3b067 2 (some .char) ∈ wsL_law := inR5 _ (List.mem_of_getElem? (i := 5) rfl)
theorem mW5_6 : Cond.methodLink RJ2 67 yJ2_checkIndex_2214a ∈ wsL_law := inR5 _ (List.mem_of_getElem? (i := 6) rfl)
theorem mW5_7 : Cond.static yJ2_checkIndex_2214a ∈ wsL_law := inR5 _ (List.mem_of_getElem? (i := 7) rfl)
theorem mW5_8 : Cond.code yJ2_checkIndex_2214a cJ2_checkIndex_2214a 2 none ∈ wsL_law := inR5 _ (List.mem_of_getElem? (i := 8) rfl)
theorem mW5_9 : Cond.methodLink RJ2 48 yJ2_length_9d52b ∈ wsL_law := inR5 _ (List.mem_of_getElem? (i := 9) rfl)
theorem mW5_10 : Cond.static yJ2_length_9d52b ∈ wsL_law := inR5 _ (List.mem_of_getElem? (i := 10) rfl)
theorem mW5_11 : Cond.code yJ2_length_9d52b cJ2_length_9d52b 1 (some .int) ∈ wsL_law := inR5 _ (List.mem_of_getElem? (i := 11) rfl)
theorem mW5_12 : Cond.methodLink RJ2 414 yJ0_checkIndex_df160 ∈ wsL_law := inR5 _ (List.mem_of_getElem? (i := 12) rfl)
theorem mW5_13 : Cond.methodLink RJ2 71 yJ2_getChar_3b067 ∈ wsL_law := inR5 _ (List.mem_of_getElem? (i := 13) rfl)
theorem mW5_14 : Cond.static yJ2_getChar_3b067 ∈ wsL_law := inR5 _ (List.mem_of_getElem? (i := 14) rfl)
theorem mW5_15 : Cond.code yJ2_getChar_3b067 cJ2_getChar_3b067 2 (some .char) ∈ wsL_law := inR5 _ (List.mem_of_getElem? (i := 15) rfl)
theorem mW5_16 : Cond.fieldLink RJ2 44 "java/lang/StringUTF16" "$assertionsDisabled" "Z" ∈ wsL_law := inR5 _ (List.mem_of_getElem? (i := 16) rfl)
theorem mW5_17 : Cond.fieldLink RJ2 59 "java/lang/StringUTF16" "HI_BYTE_SHIFT" "I" ∈ wsL_law := inR5 _ (List.mem_of_getElem? (i := 17) rfl)
theorem mW5_18 : Cond.fieldLink RJ2 63 "java/lang/StringUTF16" "LO_BYTE_SHIFT" "I" ∈ wsL_law := inR5 _ (List.mem_of_getElem? (i := 18) rfl)
theorem mW5_19 : Cond.methodLink RX7 21 yX1_init ∈ wsL_law := inR5 _ (List.mem_of_getElem? (i := 19) rfl)
theorem mW5_20 : Cond.instanceMethod yX1_init ∈ wsL_law := inR5 _ (List.mem_of_getElem? (i := 20) rfl)
theorem mW5_21 : Cond.code yX1_init cX1_init 1 none ∈ wsL_law := inR5 _ (List.mem_of_getElem? (i := 21) rfl)
theorem mW5_22 : Cond.methodLink RX1 3 objectInit ∈ wsL_law := inR5 _ (List.mem_of_getElem? (i := 22) rfl)
theorem mW5_23 : Cond.fieldLink RX1 9 "LacePillow$Heap" "size" "I" ∈ wsL_law := inR5 _ (List.mem_of_getElem? (i := 23) rfl)
theorem mW6_0 : Cond.fieldLink RX1 15 "LacePillow$Heap" "signs" "[I" ∈ wsL_law := inR6 _ (List.mem_of_getElem? (i := 0) rfl)
theorem mW6_1 : Cond.fieldLink RX1 19 "LacePillow$Heap" "tops" "[I" ∈ wsL_law := inR6 _ (List.mem_of_getElem? (i := 1) rfl)
theorem mW6_2 : Cond.methodLink RX1 22 yJ7_fill_53178 ∈ wsL_law := inR6 _ (List.mem_of_getElem? (i := 2) rfl)
theorem mW6_3 : Cond.instanceMethod yX0_init ∈ wsL_law := inR6 _ (List.mem_of_getElem? (i := 3) rfl)
theorem mW6_4 : Cond.code yX0_init cX0_init 1 none ∈ wsL_law := inR6 _ (List.mem_of_getElem? (i := 4) rfl)
theorem mW6_5 : Cond.methodLink RX0 3 objectInit ∈ wsL_law := inR6 _ (List.mem_of_getElem? (i := 5) rfl)
theorem mW6_6 : Cond.fieldLink RX0 9 "LacePillow$Ground" "size" "I" ∈ wsL_law := inR6 _ (List.mem_of_getElem? (i := 6) rfl)
theorem mW6_7 : Cond.fieldLink RX0 15 "LacePillow$Ground" "deep" "I" ∈ wsL_law := inR6 _ (List.mem_of_getElem? (i := 7) rfl)
theorem mW6_8 : Cond.fieldLink RX0 18 "LacePillow$Ground" "rows" "[I" ∈ wsL_law := inR6 _ (List.mem_of_getElem? (i := 8) rfl)
theorem mW6_9 : Cond.fieldLink RX0 22 "LacePillow$Ground" "gaps" "[I" ∈ wsL_law := inR6 _ (List.mem_of_getElem? (i := 9) rfl)
theorem mW6_10 : Cond.fieldLink RX0 25 "LacePillow$Ground" "kinds" "[I" ∈ wsL_law := inR6 _ (List.mem_of_getElem? (i := 10) rfl)
theorem mW6_11 : Cond.fieldLink RX0 28 "LacePillow$Ground" "levels" "[I" ∈ wsL_law := inR6 _ (List.mem_of_getElem? (i := 11) rfl)
theorem mW6_12 : Cond.arrayClass .long ∈ wsL_law := inR6 _ (List.mem_of_getElem? (i := 12) rfl)
theorem mW6_13 : Cond.fieldLink RX0 31 "LacePillow$Ground" "before" "[J" ∈ wsL_law := inR6 _ (List.mem_of_getElem? (i := 13) rfl)
theorem mW6_14 : Cond.fieldLink RX0 35 "LacePillow$Ground" "wides" "[I" ∈ wsL_law := inR6 _ (List.mem_of_getElem? (i := 14) rfl)
theorem mW6_15 : Cond.instanceMethod yX5_init ∈ wsL_law := inR6 _ (List.mem_of_getElem? (i := 15) rfl)
theorem mW6_16 : Cond.code yX5_init cX5_init 1 none ∈ wsL_law := inR6 _ (List.mem_of_getElem? (i := 16) rfl)
theorem mW6_17 : Cond.methodLink RX5 3 objectInit ∈ wsL_law := inR6 _ (List.mem_of_getElem? (i := 17) rfl)
theorem mW6_18 : Cond.fieldLink RX5 9 "LacePillow$Ways" "known" "Z" ∈ wsL_law := inR6 _ (List.mem_of_getElem? (i := 18) rfl)
theorem mW6_19 : Cond.fieldLink RX5 15 "LacePillow$Ways" "counts" "[J" ∈ wsL_law := inR6 _ (List.mem_of_getElem? (i := 19) rfl)
theorem mW6_20 : Cond.fieldLink RX5 19 "LacePillow$Ways" "lengths" "[I" ∈ wsL_law := inR6 _ (List.mem_of_getElem? (i := 20) rfl)
theorem mW6_21 : Cond.fieldLink RX5 23 "LacePillow$Ways" "strides" "[I" ∈ wsL_law := inR6 _ (List.mem_of_getElem? (i := 21) rfl)
theorem mW6_22 : Cond.fieldLink RX5 26 "LacePillow$Ways" "stitches" "[I" ∈ wsL_law := inR6 _ (List.mem_of_getElem? (i := 22) rfl)
theorem mW6_23 : Cond.fieldLink RX5 29 "LacePillow$Ways" "bits" "[J" ∈ wsL_law := inR6 _ (List.mem_of_getElem? (i := 23) rfl)
theorem mW7_0 : Cond.methodLink RX7 46 yX6_init ∈ wsL_law := inR7 _ (List.mem_of_getElem? (i := 0) rfl)
theorem mW7_1 : Cond.instanceMethod yX6_init ∈ wsL_law := inR7 _ (List.mem_of_getElem? (i := 1) rfl)
theorem mW7_2 : Cond.code yX6_init cX6_init 1 none ∈ wsL_law := inR7 _ (List.mem_of_getElem? (i := 2) rfl)
theorem mW7_3 : Cond.methodLink RX6 3 objectInit ∈ wsL_law := inR7 _ (List.mem_of_getElem? (i := 3) rfl)
theorem mW7_4 : Cond.fieldLink RX6 9 "LacePillow$Weave" "threads" "[I" ∈ wsL_law := inR7 _ (List.mem_of_getElem? (i := 4) rfl)
theorem mW7_5 : Cond.fieldLink RX6 15 "LacePillow$Weave" "places" "[I" ∈ wsL_law := inR7 _ (List.mem_of_getElem? (i := 5) rfl)
theorem mW7_6 : Cond.fieldLink RX6 18 "LacePillow$Weave" "used" "[I" ∈ wsL_law := inR7 _ (List.mem_of_getElem? (i := 6) rfl)
theorem mW7_7 : Cond.fieldLink RX6 21 "LacePillow$Weave" "overs" "[I" ∈ wsL_law := inR7 _ (List.mem_of_getElem? (i := 7) rfl)
theorem mW7_8 : Cond.fieldLink RX6 24 "LacePillow$Weave" "unders" "[I" ∈ wsL_law := inR7 _ (List.mem_of_getElem? (i := 8) rfl)
theorem mW7_9 : Cond.fieldLink RX6 27 "LacePillow$Weave" "falses" "[I" ∈ wsL_law := inR7 _ (List.mem_of_getElem? (i := 9) rfl)
theorem mW7_10 : Cond.fieldLink RX6 30 "LacePillow$Weave" "sides" "[I" ∈ wsL_law := inR7 _ (List.mem_of_getElem? (i := 10) rfl)
theorem mW7_11 : Cond.fieldLink RX6 33 "LacePillow$Weave" "passes" "[I" ∈ wsL_law := inR7 _ (List.mem_of_getElem? (i := 11) rfl)
theorem mW7_12 : Cond.classLink RX6 36 RX1 ∈ wsL_law := inR7 _ (List.mem_of_getElem? (i := 12) rfl)
theorem mW7_13 : Cond.fieldLink RX6 39 "LacePillow$Weave" "heap" "LLacePillow$Heap;" ∈ wsL_law := inR7 _ (List.mem_of_getElem? (i := 13) rfl)
theorem mW7_14 : Cond.fieldLink RX6 43 "LacePillow$Weave" "crossings" "I" ∈ wsL_law := inR7 _ (List.mem_of_getElem? (i := 14) rfl)
theorem mW7_15 : Cond.methodLink RX6 38 yX1_init ∈ wsL_law := inR7 _ (List.mem_of_getElem? (i := 15) rfl)
theorem mW7_16 : Cond.methodLink RX6 47 yX6_sendHome ∈ wsL_law := inR7 _ (List.mem_of_getElem? (i := 16) rfl)
theorem mW7_17 : Cond.instanceMethod yX6_sendHome ∈ wsL_law := inR7 _ (List.mem_of_getElem? (i := 17) rfl)
theorem mW7_18 : Cond.selects RX6 yX6_sendHome yX6_sendHome ∈ wsL_law := inR7 _ (List.mem_of_getElem? (i := 18) rfl)
theorem mW7_19 : Cond.code yX6_sendHome cX6_sendHome 2 none ∈ wsL_law := inR7 _ (List.mem_of_getElem? (i := 19) rfl)
theorem mW7_20 : Cond.methodLink RX6 50 yJ7_fill_53178 ∈ wsL_law := inR7 _ (List.mem_of_getElem? (i := 20) rfl)
theorem mW7_21 : Cond.instanceMethod yX4_init ∈ wsL_law := inR7 _ (List.mem_of_getElem? (i := 21) rfl)
theorem mW7_22 : Cond.code yX4_init cX4_init 1 none ∈ wsL_law := inR7 _ (List.mem_of_getElem? (i := 22) rfl)
theorem mW7_23 : Cond.methodLink RX4 3 objectInit ∈ wsL_law := inR7 _ (List.mem_of_getElem? (i := 23) rfl)
theorem mW8_0 : Cond.fieldLink RX4 9 "LacePillow$Tape" "bytes" "[I" ∈ wsL_law := inR8 _ (List.mem_of_getElem? (i := 0) rfl)
theorem mW8_1 : Cond.fieldLink RX4 15 "LacePillow$Tape" "size" "I" ∈ wsL_law := inR8 _ (List.mem_of_getElem? (i := 1) rfl)
theorem mW8_2 : Cond.instanceMethod yX3_init ∈ wsL_law := inR8 _ (List.mem_of_getElem? (i := 2) rfl)
theorem mW8_3 : Cond.code yX3_init cX3_init 1 none ∈ wsL_law := inR8 _ (List.mem_of_getElem? (i := 3) rfl)
theorem mW8_4 : Cond.methodLink RX3 3 objectInit ∈ wsL_law := inR8 _ (List.mem_of_getElem? (i := 4) rfl)
theorem mW8_5 : Cond.fieldLink RX3 9 "LacePillow$Sheet" "sort" "I" ∈ wsL_law := inR8 _ (List.mem_of_getElem? (i := 5) rfl)
theorem mW8_6 : Cond.fieldLink RX3 15 "LacePillow$Sheet" "size" "I" ∈ wsL_law := inR8 _ (List.mem_of_getElem? (i := 6) rfl)
theorem mW8_7 : Cond.fieldLink RX3 18 "LacePillow$Sheet" "numbers" "[J" ∈ wsL_law := inR8 _ (List.mem_of_getElem? (i := 7) rfl)
theorem mW8_8 : Cond.methodLink RL 12 yX8_init ∈ wsL_law := inR8 _ (List.mem_of_getElem? (i := 8) rfl)
theorem mW8_9 : Cond.instanceMethod yX8_init ∈ wsL_law := inR8 _ (List.mem_of_getElem? (i := 9) rfl)
theorem mW8_10 : Cond.code yX8_init cX8_init 4 none ∈ wsL_law := inR8 _ (List.mem_of_getElem? (i := 10) rfl)
theorem mW8_11 : Cond.methodLink RX8 3 objectInit ∈ wsL_law := inR8 _ (List.mem_of_getElem? (i := 11) rfl)
theorem mW8_12 : Cond.fieldLink RX8 9 "LacePillowModel" "now" "[I" ∈ wsL_law := inR8 _ (List.mem_of_getElem? (i := 12) rfl)
theorem mW8_13 : Cond.fieldLink RX8 13 "LacePillowModel" "kept" "[I" ∈ wsL_law := inR8 _ (List.mem_of_getElem? (i := 13) rfl)
theorem mW8_14 : Cond.fieldLink RX8 16 "LacePillowModel" "aside" "[I" ∈ wsL_law := inR8 _ (List.mem_of_getElem? (i := 14) rfl)
theorem mW8_15 : Cond.fieldLink RX8 19 "LacePillowModel" "met" "[I" ∈ wsL_law := inR8 _ (List.mem_of_getElem? (i := 15) rfl)
theorem mW8_16 : Cond.fieldLink RX8 22 "LacePillowModel" "row" "[I" ∈ wsL_law := inR8 _ (List.mem_of_getElem? (i := 16) rfl)
theorem mW8_17 : Cond.fieldLink RX8 25 "LacePillowModel" "gap" "[I" ∈ wsL_law := inR8 _ (List.mem_of_getElem? (i := 17) rfl)
theorem mW8_18 : Cond.fieldLink RX8 28 "LacePillowModel" "kind" "[I" ∈ wsL_law := inR8 _ (List.mem_of_getElem? (i := 18) rfl)
theorem mW8_19 : Cond.fieldLink RX8 31 "LacePillowModel" "level" "[I" ∈ wsL_law := inR8 _ (List.mem_of_getElem? (i := 19) rfl)
theorem mW8_20 : Cond.fieldLink RX8 34 "LacePillowModel" "ahead" "[J" ∈ wsL_law := inR8 _ (List.mem_of_getElem? (i := 20) rfl)
theorem mW8_21 : Cond.fieldLink RX8 38 "LacePillowModel" "tape" "[I" ∈ wsL_law := inR8 _ (List.mem_of_getElem? (i := 21) rfl)
theorem mW8_22 : Cond.fieldLink RX8 41 "LacePillowModel" "at" "[I" ∈ wsL_law := inR8 _ (List.mem_of_getElem? (i := 22) rfl)
theorem mW8_23 : Cond.fieldLink RX8 44 "LacePillowModel" "used" "[I" ∈ wsL_law := inR8 _ (List.mem_of_getElem? (i := 23) rfl)
theorem mW9_0 : Cond.fieldLink RX8 47 "LacePillowModel" "place" "[I" ∈ wsL_law := inR9 _ (List.mem_of_getElem? (i := 0) rfl)
theorem mW9_1 : Cond.fieldLink RX8 50 "LacePillowModel" "sign" "[I" ∈ wsL_law := inR9 _ (List.mem_of_getElem? (i := 1) rfl)
theorem mW9_2 : Cond.fieldLink RX8 53 "LacePillowModel" "over" "[I" ∈ wsL_law := inR9 _ (List.mem_of_getElem? (i := 2) rfl)
theorem mW9_3 : Cond.fieldLink RX8 56 "LacePillowModel" "under" "[I" ∈ wsL_law := inR9 _ (List.mem_of_getElem? (i := 3) rfl)
theorem mW9_4 : Cond.fieldLink RX8 59 "LacePillowModel" "by" "[I" ∈ wsL_law := inR9 _ (List.mem_of_getElem? (i := 4) rfl)
theorem mW9_5 : Cond.fieldLink RX8 62 "LacePillowModel" "leftPlace" "[I" ∈ wsL_law := inR9 _ (List.mem_of_getElem? (i := 5) rfl)
theorem mW9_6 : Cond.fieldLink RX8 65 "LacePillowModel" "leftSign" "[I" ∈ wsL_law := inR9 _ (List.mem_of_getElem? (i := 6) rfl)
theorem mW9_7 : Cond.fieldLink RX8 68 "LacePillowModel" "layerOf" "[I" ∈ wsL_law := inR9 _ (List.mem_of_getElem? (i := 7) rfl)
theorem mW9_8 : Cond.fieldLink RX8 71 "LacePillowModel" "takenBy" "[I" ∈ wsL_law := inR9 _ (List.mem_of_getElem? (i := 8) rfl)
theorem mW9_9 : Cond.fieldLink RX8 74 "LacePillowModel" "setMet" "[I" ∈ wsL_law := inR9 _ (List.mem_of_getElem? (i := 9) rfl)
theorem mW9_10 : Cond.fieldLink RX8 77 "LacePillowModel" "waysMet" "[J" ∈ wsL_law := inR9 _ (List.mem_of_getElem? (i := 10) rfl)
theorem mW9_11 : Cond.fieldLink RX8 80 "LacePillowModel" "sort" "[I" ∈ wsL_law := inR9 _ (List.mem_of_getElem? (i := 11) rfl)
theorem mW9_12 : Cond.fieldLink RX8 83 "LacePillowModel" "size" "[I" ∈ wsL_law := inR9 _ (List.mem_of_getElem? (i := 12) rfl)
theorem mW9_13 : Cond.fieldLink RX8 86 "LacePillowModel" "items" "[J" ∈ wsL_law := inR9 _ (List.mem_of_getElem? (i := 13) rfl)
theorem mW9_14 : Cond.fieldLink RX8 89 "LacePillowModel" "shown" "[I" ∈ wsL_law := inR9 _ (List.mem_of_getElem? (i := 14) rfl)
theorem mW9_15 : Cond.classLink RX8 92 RJ0 ∈ wsL_law := inR9 _ (List.mem_of_getElem? (i := 15) rfl)
theorem mW9_16 : Cond.methodLink RX8 106 yJ0_length_8abf5 ∈ wsL_law := inR9 _ (List.mem_of_getElem? (i := 16) rfl)
theorem mW9_17 : Cond.methodLink RX8 110 yJ0_charAt_5068e ∈ wsL_law := inR9 _ (List.mem_of_getElem? (i := 17) rfl)
theorem mW9_18 : Cond.methodLink RX8 114 yX8_lists ∈ wsL_law := inR9 _ (List.mem_of_getElem? (i := 18) rfl)
theorem mW9_19 : Cond.instanceMethod yX8_lists ∈ wsL_law := inR9 _ (List.mem_of_getElem? (i := 19) rfl)
theorem mW9_20 : Cond.selects RX8 yX8_lists yX8_lists ∈ wsL_law := inR9 _ (List.mem_of_getElem? (i := 20) rfl)
theorem mW9_21 : Cond.code yX8_lists cX8_lists 3 none ∈ wsL_law := inR9 _ (List.mem_of_getElem? (i := 21) rfl)
theorem mW9_22 : Cond.fieldLink RX8 120 "LacePillowModel" "many" "I" ∈ wsL_law := inR9 _ (List.mem_of_getElem? (i := 22) rfl)
theorem mW9_23 : Cond.methodLink RX8 124 yX8_gaps ∈ wsL_law := inR9 _ (List.mem_of_getElem? (i := 23) rfl)
theorem mW10_0 : Cond.instanceMethod yX8_gaps ∈ wsL_law := inR10 _ (List.mem_of_getElem? (i := 0) rfl)
theorem mW10_1 : Cond.selects RX8 yX8_gaps yX8_gaps ∈ wsL_law := inR10 _ (List.mem_of_getElem? (i := 1) rfl)
theorem mW10_2 : Cond.code yX8_gaps cX8_gaps 1 (some .int) ∈ wsL_law := inR10 _ (List.mem_of_getElem? (i := 2) rfl)
theorem mW10_3 : Cond.methodLink RX8 127 yX8_held ∈ wsL_law := inR10 _ (List.mem_of_getElem? (i := 3) rfl)
theorem mW10_4 : Cond.instanceMethod yX8_held ∈ wsL_law := inR10 _ (List.mem_of_getElem? (i := 4) rfl)
theorem mW10_5 : Cond.selects RX8 yX8_held yX8_held ∈ wsL_law := inR10 _ (List.mem_of_getElem? (i := 5) rfl)
theorem mW10_6 : Cond.code yX8_held cX8_held 3 (some .int) ∈ wsL_law := inR10 _ (List.mem_of_getElem? (i := 6) rfl)
theorem mW10_7 : Cond.methodLink RX8 131 yX8_add ∈ wsL_law := inR10 _ (List.mem_of_getElem? (i := 7) rfl)
theorem mW10_8 : Cond.instanceMethod yX8_add ∈ wsL_law := inR10 _ (List.mem_of_getElem? (i := 8) rfl)
theorem mW10_9 : Cond.selects RX8 yX8_add yX8_add ∈ wsL_law := inR10 _ (List.mem_of_getElem? (i := 9) rfl)
theorem mW10_10 : Cond.code yX8_add cX8_add 5 none ∈ wsL_law := inR10 _ (List.mem_of_getElem? (i := 10) rfl)
theorem mW10_11 : Cond.methodLink RL 13 yX7_pairs ∈ wsL_law := inR10 _ (List.mem_of_getElem? (i := 11) rfl)
theorem mW10_12 : Cond.instanceMethod yX7_pairs ∈ wsL_law := inR10 _ (List.mem_of_getElem? (i := 12) rfl)
theorem mW10_13 : Cond.selects RX7 yX7_pairs yX7_pairs ∈ wsL_law := inR10 _ (List.mem_of_getElem? (i := 13) rfl)
theorem mW10_14 : Cond.code yX7_pairs cX7_pairs 3 (some .int) ∈ wsL_law := inR10 _ (List.mem_of_getElem? (i := 14) rfl)
theorem mW10_15 : Cond.fieldLink RX7 84 "LacePillow$Plan" "pairs" "I" ∈ wsL_law := inR10 _ (List.mem_of_getElem? (i := 15) rfl)
theorem mW10_16 : Cond.fieldLink RX7 87 "LacePillow$Plan" "cells" "[I" ∈ wsL_law := inR10 _ (List.mem_of_getElem? (i := 16) rfl)
theorem mW10_17 : Cond.methodLink RX7 80 yX7_fail ∈ wsL_law := inR10 _ (List.mem_of_getElem? (i := 17) rfl)
theorem mW10_18 : Cond.instanceMethod yX7_fail ∈ wsL_law := inR10 _ (List.mem_of_getElem? (i := 18) rfl)
theorem mW10_19 : Cond.selects RX7 yX7_fail yX7_fail ∈ wsL_law := inR10 _ (List.mem_of_getElem? (i := 19) rfl)
theorem mW10_20 : Cond.code yX7_fail cX7_fail 2 (some .int) ∈ wsL_law := inR10 _ (List.mem_of_getElem? (i := 20) rfl)
theorem mW10_21 : Cond.constant RX7 343 (-1000000000) ∈ wsL_law := inR10 _ (List.mem_of_getElem? (i := 21) rfl)
theorem mW10_22 : Cond.methodLink RX7 90 yJ7_fill_53178 ∈ wsL_law := inR10 _ (List.mem_of_getElem? (i := 22) rfl)
theorem mW10_23 : Cond.methodLink RX7 96 yX7_beginAnew ∈ wsL_law := inR10 _ (List.mem_of_getElem? (i := 23) rfl)
theorem mW11_0 : Cond.instanceMethod yX7_beginAnew ∈ wsL_law := inR11 _ (List.mem_of_getElem? (i := 0) rfl)
theorem mW11_1 : Cond.selects RX7 yX7_beginAnew yX7_beginAnew ∈ wsL_law := inR11 _ (List.mem_of_getElem? (i := 1) rfl)
theorem mW11_2 : Cond.code yX7_beginAnew cX7_beginAnew 1 none ∈ wsL_law := inR11 _ (List.mem_of_getElem? (i := 2) rfl)
theorem mW11_3 : Cond.fieldLink RX7 169 "LacePillow$Plan" "worked" "I" ∈ wsL_law := inR11 _ (List.mem_of_getElem? (i := 3) rfl)
theorem mW11_4 : Cond.methodLink RX7 346 yX6_clear ∈ wsL_law := inR11 _ (List.mem_of_getElem? (i := 4) rfl)
theorem mW11_5 : Cond.instanceMethod yX6_clear ∈ wsL_law := inR11 _ (List.mem_of_getElem? (i := 5) rfl)
theorem mW11_6 : Cond.selects RX6 yX6_clear yX6_clear ∈ wsL_law := inR11 _ (List.mem_of_getElem? (i := 6) rfl)
theorem mW11_7 : Cond.code yX6_clear cX6_clear 1 none ∈ wsL_law := inR11 _ (List.mem_of_getElem? (i := 7) rfl)
theorem mW11_8 : Cond.methodLink RX6 56 yX1_clear ∈ wsL_law := inR11 _ (List.mem_of_getElem? (i := 8) rfl)
theorem mW11_9 : Cond.instanceMethod yX1_clear ∈ wsL_law := inR11 _ (List.mem_of_getElem? (i := 9) rfl)
theorem mW11_10 : Cond.selects RX1 yX1_clear yX1_clear ∈ wsL_law := inR11 _ (List.mem_of_getElem? (i := 10) rfl)
theorem mW11_11 : Cond.code yX1_clear cX1_clear 1 none ∈ wsL_law := inR11 _ (List.mem_of_getElem? (i := 11) rfl)
theorem mW11_12 : Cond.methodLink RX7 329 yX7_regard ∈ wsL_law := inR11 _ (List.mem_of_getElem? (i := 12) rfl)
theorem mW11_13 : Cond.instanceMethod yX7_regard ∈ wsL_law := inR11 _ (List.mem_of_getElem? (i := 13) rfl)
theorem mW11_14 : Cond.selects RX7 yX7_regard yX7_regard ∈ wsL_law := inR11 _ (List.mem_of_getElem? (i := 14) rfl)
theorem mW11_15 : Cond.code yX7_regard cX7_regard 1 none ∈ wsL_law := inR11 _ (List.mem_of_getElem? (i := 15) rfl)
theorem mW11_16 : Cond.fieldLink RX7 352 "LacePillow$Ways" "known" "Z" ∈ wsL_law := inR11 _ (List.mem_of_getElem? (i := 16) rfl)
theorem mW11_17 : Cond.methodLink RX7 349 yX0_gather ∈ wsL_law := inR11 _ (List.mem_of_getElem? (i := 17) rfl)
theorem mW11_18 : Cond.instanceMethod yX0_gather ∈ wsL_law := inR11 _ (List.mem_of_getElem? (i := 18) rfl)
theorem mW11_19 : Cond.selects RX0 yX0_gather yX0_gather ∈ wsL_law := inR11 _ (List.mem_of_getElem? (i := 19) rfl)
theorem mW11_20 : Cond.code yX0_gather cX0_gather 5 none ∈ wsL_law := inR11 _ (List.mem_of_getElem? (i := 20) rfl)
theorem mW11_21 : Cond.fieldLink RX0 38 "LacePillow$Plan" "pairs" "I" ∈ wsL_law := inR11 _ (List.mem_of_getElem? (i := 21) rfl)
theorem mW11_22 : Cond.fieldLink RX0 43 "LacePillow$Plan" "cells" "[I" ∈ wsL_law := inR11 _ (List.mem_of_getElem? (i := 22) rfl)
theorem mW11_23 : Cond.methodLink RX0 46 yX0_enter ∈ wsL_law := inR11 _ (List.mem_of_getElem? (i := 23) rfl)
theorem mW12_0 : Cond.instanceMethod yX0_enter ∈ wsL_law := inR12 _ (List.mem_of_getElem? (i := 0) rfl)
theorem mW12_1 : Cond.selects RX0 yX0_enter yX0_enter ∈ wsL_law := inR12 _ (List.mem_of_getElem? (i := 1) rfl)
theorem mW12_2 : Cond.code yX0_enter cX0_enter 6 none ∈ wsL_law := inR12 _ (List.mem_of_getElem? (i := 2) rfl)
theorem mW12_3 : Cond.methodLink RX0 50 Lib.Math.abs.name ∈ wsL_law := inR12 _ (List.mem_of_getElem? (i := 3) rfl)
theorem mW12_4 : Cond.static Lib.Math.abs.name ∈ wsL_law := inR12 _ (List.mem_of_getElem? (i := 4) rfl)
theorem mW12_5 : Cond.initialized "java/lang/Math" ∈ wsL_law := inR12 _ (List.mem_of_getElem? (i := 5) rfl)
theorem mW12_6 : Cond.code Lib.Math.abs.name Lib.Math.abs.code 1 (some .int) ∈ wsL_law := inR12 _ (List.mem_of_getElem? (i := 6) rfl)
theorem mW12_7 : Cond.methodLink RX0 56 Lib.Math.max.name ∈ wsL_law := inR12 _ (List.mem_of_getElem? (i := 7) rfl)
theorem mW12_8 : Cond.static Lib.Math.max.name ∈ wsL_law := inR12 _ (List.mem_of_getElem? (i := 8) rfl)
theorem mW12_9 : Cond.code Lib.Math.max.name Lib.Math.max.code 2 (some .int) ∈ wsL_law := inR12 _ (List.mem_of_getElem? (i := 9) rfl)
theorem mW12_10 : Cond.methodLink RL 17 yX8_pairs ∈ wsL_law := inR12 _ (List.mem_of_getElem? (i := 10) rfl)
theorem mW12_11 : Cond.instanceMethod yX8_pairs ∈ wsL_law := inR12 _ (List.mem_of_getElem? (i := 11) rfl)
theorem mW12_12 : Cond.selects RX8 yX8_pairs yX8_pairs ∈ wsL_law := inR12 _ (List.mem_of_getElem? (i := 12) rfl)
theorem mW12_13 : Cond.code yX8_pairs cX8_pairs 4 (some .int) ∈ wsL_law := inR12 _ (List.mem_of_getElem? (i := 13) rfl)
theorem mW12_14 : Cond.constantLong RX8 141 (2) ∈ wsL_law := inR12 _ (List.mem_of_getElem? (i := 14) rfl)
theorem mW12_15 : Cond.constantLong RX8 143 (8) ∈ wsL_law := inR12 _ (List.mem_of_getElem? (i := 15) rfl)
theorem mW12_16 : Cond.constant RX8 149 (-1000000001) ∈ wsL_law := inR12 _ (List.mem_of_getElem? (i := 16) rfl)
theorem mW12_17 : Cond.methodLink RX8 145 yX8_in ∈ wsL_law := inR12 _ (List.mem_of_getElem? (i := 17) rfl)
theorem mW12_18 : Cond.static yX8_in ∈ wsL_law := inR12 _ (List.mem_of_getElem? (i := 18) rfl)
theorem mW12_19 : Cond.code yX8_in cX8_in 6 (some .boolean) ∈ wsL_law := inR12 _ (List.mem_of_getElem? (i := 19) rfl)
theorem mW12_20 : Cond.methodLink RX8 150 yX8_errs ∈ wsL_law := inR12 _ (List.mem_of_getElem? (i := 20) rfl)
theorem mW12_21 : Cond.instanceMethod yX8_errs ∈ wsL_law := inR12 _ (List.mem_of_getElem? (i := 21) rfl)
theorem mW12_22 : Cond.selects RX8 yX8_errs yX8_errs ∈ wsL_law := inR12 _ (List.mem_of_getElem? (i := 22) rfl)
theorem mW12_23 : Cond.code yX8_errs cX8_errs 2 (some .int) ∈ wsL_law := inR12 _ (List.mem_of_getElem? (i := 23) rfl)
theorem mW13_0 : Cond.constant RX8 117 (-1000000000) ∈ wsL_law := inR13 _ (List.mem_of_getElem? (i := 0) rfl)
theorem mW13_1 : Cond.methodLink RX8 154 yX8_anew ∈ wsL_law := inR13 _ (List.mem_of_getElem? (i := 1) rfl)
theorem mW13_2 : Cond.instanceMethod yX8_anew ∈ wsL_law := inR13 _ (List.mem_of_getElem? (i := 2) rfl)
theorem mW13_3 : Cond.selects RX8 yX8_anew yX8_anew ∈ wsL_law := inR13 _ (List.mem_of_getElem? (i := 3) rfl)
theorem mW13_4 : Cond.code yX8_anew cX8_anew 1 none ∈ wsL_law := inR13 _ (List.mem_of_getElem? (i := 4) rfl)
theorem mW13_5 : Cond.methodLink RL 18 yX7_lay ∈ wsL_law := inR13 _ (List.mem_of_getElem? (i := 5) rfl)
theorem mW13_6 : Cond.instanceMethod yX7_lay ∈ wsL_law := inR13 _ (List.mem_of_getElem? (i := 6) rfl)
theorem mW13_7 : Cond.selects RX7 yX7_lay yX7_lay ∈ wsL_law := inR13 _ (List.mem_of_getElem? (i := 7) rfl)
theorem mW13_8 : Cond.code yX7_lay cX7_lay 5 (some .int) ∈ wsL_law := inR13 _ (List.mem_of_getElem? (i := 8) rfl)
theorem mW13_9 : Cond.methodLink RX7 99 yX7_isCell ∈ wsL_law := inR13 _ (List.mem_of_getElem? (i := 9) rfl)
theorem mW13_10 : Cond.instanceMethod yX7_isCell ∈ wsL_law := inR13 _ (List.mem_of_getElem? (i := 10) rfl)
theorem mW13_11 : Cond.selects RX7 yX7_isCell yX7_isCell ∈ wsL_law := inR13 _ (List.mem_of_getElem? (i := 11) rfl)
theorem mW13_12 : Cond.code yX7_isCell cX7_isCell 3 (some .boolean) ∈ wsL_law := inR13 _ (List.mem_of_getElem? (i := 12) rfl)
theorem mW13_13 : Cond.methodLink RX7 103 yX7_holds ∈ wsL_law := inR13 _ (List.mem_of_getElem? (i := 13) rfl)
theorem mW13_14 : Cond.instanceMethod yX7_holds ∈ wsL_law := inR13 _ (List.mem_of_getElem? (i := 14) rfl)
theorem mW13_15 : Cond.selects RX7 yX7_holds yX7_holds ∈ wsL_law := inR13 _ (List.mem_of_getElem? (i := 15) rfl)
theorem mW13_16 : Cond.code yX7_holds cX7_holds 3 (some .boolean) ∈ wsL_law := inR13 _ (List.mem_of_getElem? (i := 16) rfl)
theorem mW13_17 : Cond.methodLink RL 22 yX8_lay ∈ wsL_law := inR13 _ (List.mem_of_getElem? (i := 17) rfl)
theorem mW13_18 : Cond.instanceMethod yX8_lay ∈ wsL_law := inR13 _ (List.mem_of_getElem? (i := 18) rfl)
theorem mW13_19 : Cond.selects RX8 yX8_lay yX8_lay ∈ wsL_law := inR13 _ (List.mem_of_getElem? (i := 19) rfl)
theorem mW13_20 : Cond.code yX8_lay cX8_lay 7 (some .int) ∈ wsL_law := inR13 _ (List.mem_of_getElem? (i := 20) rfl)
theorem mW13_21 : Cond.constantLong RX8 139 (-1) ∈ wsL_law := inR13 _ (List.mem_of_getElem? (i := 21) rfl)
theorem mW13_22 : Cond.constantLong RX8 163 (5) ∈ wsL_law := inR13 _ (List.mem_of_getElem? (i := 22) rfl)
theorem mW13_23 : Cond.constant RX8 165 (-1000000003) ∈ wsL_law := inR13 _ (List.mem_of_getElem? (i := 23) rfl)
theorem mW14_0 : Cond.methodLink RX8 159 yX8_isPlaceOf ∈ wsL_law := inR14 _ (List.mem_of_getElem? (i := 0) rfl)
theorem mW14_1 : Cond.instanceMethod yX8_isPlaceOf ∈ wsL_law := inR14 _ (List.mem_of_getElem? (i := 1) rfl)
theorem mW14_2 : Cond.selects RX8 yX8_isPlaceOf yX8_isPlaceOf ∈ wsL_law := inR14 _ (List.mem_of_getElem? (i := 2) rfl)
theorem mW14_3 : Cond.code yX8_isPlaceOf cX8_isPlaceOf 3 (some .boolean) ∈ wsL_law := inR14 _ (List.mem_of_getElem? (i := 3) rfl)
theorem mW14_4 : Cond.constantLong RX8 157 (11) ∈ wsL_law := inR14 _ (List.mem_of_getElem? (i := 4) rfl)
theorem mW14_5 : Cond.methodLink RL 23 yX7_look ∈ wsL_law := inR14 _ (List.mem_of_getElem? (i := 5) rfl)
theorem mW14_6 : Cond.instanceMethod yX7_look ∈ wsL_law := inR14 _ (List.mem_of_getElem? (i := 6) rfl)
theorem mW14_7 : Cond.selects RX7 yX7_look yX7_look ∈ wsL_law := inR14 _ (List.mem_of_getElem? (i := 7) rfl)
theorem mW14_8 : Cond.code yX7_look cX7_look 3 (some .int) ∈ wsL_law := inR14 _ (List.mem_of_getElem? (i := 8) rfl)
theorem mW14_9 : Cond.methodLink RL 27 yX8_look ∈ wsL_law := inR14 _ (List.mem_of_getElem? (i := 9) rfl)
theorem mW14_10 : Cond.instanceMethod yX8_look ∈ wsL_law := inR14 _ (List.mem_of_getElem? (i := 10) rfl)
theorem mW14_11 : Cond.selects RX8 yX8_look yX8_look ∈ wsL_law := inR14 _ (List.mem_of_getElem? (i := 11) rfl)
theorem mW14_12 : Cond.code yX8_look cX8_look 3 (some .int) ∈ wsL_law := inR14 _ (List.mem_of_getElem? (i := 12) rfl)
theorem mW14_13 : Cond.methodLink RL 28 yX7_feed ∈ wsL_law := inR14 _ (List.mem_of_getElem? (i := 13) rfl)
theorem mW14_14 : Cond.instanceMethod yX7_feed ∈ wsL_law := inR14 _ (List.mem_of_getElem? (i := 14) rfl)
theorem mW14_15 : Cond.selects RX7 yX7_feed yX7_feed ∈ wsL_law := inR14 _ (List.mem_of_getElem? (i := 15) rfl)
theorem mW14_16 : Cond.code yX7_feed cX7_feed 2 (some .int) ∈ wsL_law := inR14 _ (List.mem_of_getElem? (i := 16) rfl)
theorem mW14_17 : Cond.fieldLink RX7 106 "LacePillow$Tape" "size" "I" ∈ wsL_law := inR14 _ (List.mem_of_getElem? (i := 17) rfl)
theorem mW14_18 : Cond.fieldLink RX7 109 "LacePillow$Tape" "bytes" "[I" ∈ wsL_law := inR14 _ (List.mem_of_getElem? (i := 18) rfl)
theorem mW14_19 : Cond.methodLink RL 31 yX8_feed ∈ wsL_law := inR14 _ (List.mem_of_getElem? (i := 19) rfl)
theorem mW14_20 : Cond.instanceMethod yX8_feed ∈ wsL_law := inR14 _ (List.mem_of_getElem? (i := 20) rfl)
theorem mW14_21 : Cond.selects RX8 yX8_feed yX8_feed ∈ wsL_law := inR14 _ (List.mem_of_getElem? (i := 21) rfl)
theorem mW14_22 : Cond.code yX8_feed cX8_feed 2 (some .int) ∈ wsL_law := inR14 _ (List.mem_of_getElem? (i := 22) rfl)
theorem mW14_23 : Cond.constantLong RX8 166 (255) ∈ wsL_law := inR14 _ (List.mem_of_getElem? (i := 23) rfl)
theorem mW15_0 : Cond.fieldLink RX8 168 "LacePillowModel" "taped" "I" ∈ wsL_law := inR15 _ (List.mem_of_getElem? (i := 0) rfl)
theorem mW15_1 : Cond.constant RX8 171 (-1000000004) ∈ wsL_law := inR15 _ (List.mem_of_getElem? (i := 1) rfl)
theorem mW15_2 : Cond.methodLink RL 32 yX7_read ∈ wsL_law := inR15 _ (List.mem_of_getElem? (i := 2) rfl)
theorem mW15_3 : Cond.instanceMethod yX7_read ∈ wsL_law := inR15 _ (List.mem_of_getElem? (i := 3) rfl)
theorem mW15_4 : Cond.selects RX7 yX7_read yX7_read ∈ wsL_law := inR15 _ (List.mem_of_getElem? (i := 4) rfl)
theorem mW15_5 : Cond.code yX7_read cX7_read 2 (some .int) ∈ wsL_law := inR15 _ (List.mem_of_getElem? (i := 5) rfl)
theorem mW15_6 : Cond.fieldLink RX7 119 "LacePillow$Ground" "size" "I" ∈ wsL_law := inR15 _ (List.mem_of_getElem? (i := 6) rfl)
theorem mW15_7 : Cond.methodLink RX7 112 yX4_prickingFault ∈ wsL_law := inR15 _ (List.mem_of_getElem? (i := 7) rfl)
theorem mW15_8 : Cond.instanceMethod yX4_prickingFault ∈ wsL_law := inR15 _ (List.mem_of_getElem? (i := 8) rfl)
theorem mW15_9 : Cond.selects RX4 yX4_prickingFault yX4_prickingFault ∈ wsL_law := inR15 _ (List.mem_of_getElem? (i := 9) rfl)
theorem mW15_10 : Cond.code yX4_prickingFault cX4_prickingFault 8 (some .int) ∈ wsL_law := inR15 _ (List.mem_of_getElem? (i := 10) rfl)
theorem mW15_11 : Cond.methodLink RX7 115 yX4_prickInto ∈ wsL_law := inR15 _ (List.mem_of_getElem? (i := 11) rfl)
theorem mW15_12 : Cond.instanceMethod yX4_prickInto ∈ wsL_law := inR15 _ (List.mem_of_getElem? (i := 12) rfl)
theorem mW15_13 : Cond.selects RX4 yX4_prickInto yX4_prickInto ∈ wsL_law := inR15 _ (List.mem_of_getElem? (i := 13) rfl)
theorem mW15_14 : Cond.code yX4_prickInto cX4_prickInto 5 none ∈ wsL_law := inR15 _ (List.mem_of_getElem? (i := 14) rfl)
theorem mW15_15 : Cond.fieldLink RX4 19 "LacePillow$Plan" "cells" "[I" ∈ wsL_law := inR15 _ (List.mem_of_getElem? (i := 15) rfl)
theorem mW15_16 : Cond.methodLink RX4 24 yJ7_fill_53178 ∈ wsL_law := inR15 _ (List.mem_of_getElem? (i := 16) rfl)
theorem mW15_17 : Cond.methodLink RL 36 yX8_read ∈ wsL_law := inR15 _ (List.mem_of_getElem? (i := 17) rfl)
theorem mW15_18 : Cond.instanceMethod yX8_read ∈ wsL_law := inR15 _ (List.mem_of_getElem? (i := 18) rfl)
theorem mW15_19 : Cond.selects RX8 yX8_read yX8_read ∈ wsL_law := inR15 _ (List.mem_of_getElem? (i := 19) rfl)
theorem mW15_20 : Cond.code yX8_read cX8_read 5 (some .int) ∈ wsL_law := inR15 _ (List.mem_of_getElem? (i := 20) rfl)
theorem mW15_21 : Cond.methodLink RX8 176 yX8_prickingFault ∈ wsL_law := inR15 _ (List.mem_of_getElem? (i := 21) rfl)
theorem mW15_22 : Cond.instanceMethod yX8_prickingFault ∈ wsL_law := inR15 _ (List.mem_of_getElem? (i := 22) rfl)
theorem mW15_23 : Cond.selects RX8 yX8_prickingFault yX8_prickingFault ∈ wsL_law := inR15 _ (List.mem_of_getElem? (i := 23) rfl)
theorem mW16_0 : Cond.code yX8_prickingFault cX8_prickingFault 7 (some .int) ∈ wsL_law := inR16 _ (List.mem_of_getElem? (i := 0) rfl)
theorem mW16_1 : Cond.constantLong RX8 172 (97) ∈ wsL_law := inR16 _ (List.mem_of_getElem? (i := 1) rfl)
theorem mW16_2 : Cond.constantLong RX8 174 (102) ∈ wsL_law := inR16 _ (List.mem_of_getElem? (i := 2) rfl)
theorem mW16_3 : Cond.methodLink RL 37 yX7_spell ∈ wsL_law := inR16 _ (List.mem_of_getElem? (i := 3) rfl)
theorem mW16_4 : Cond.instanceMethod yX7_spell ∈ wsL_law := inR16 _ (List.mem_of_getElem? (i := 4) rfl)
theorem mW16_5 : Cond.selects RX7 yX7_spell yX7_spell ∈ wsL_law := inR16 _ (List.mem_of_getElem? (i := 5) rfl)
theorem mW16_6 : Cond.code yX7_spell cX7_spell 3 (some .int) ∈ wsL_law := inR16 _ (List.mem_of_getElem? (i := 6) rfl)
theorem mW16_7 : Cond.fieldLink RX7 132 "LacePillow$Plan" "lengths" "[I" ∈ wsL_law := inR16 _ (List.mem_of_getElem? (i := 7) rfl)
theorem mW16_8 : Cond.methodLink RX7 120 yX7_isKind ∈ wsL_law := inR16 _ (List.mem_of_getElem? (i := 8) rfl)
theorem mW16_9 : Cond.static yX7_isKind ∈ wsL_law := inR16 _ (List.mem_of_getElem? (i := 9) rfl)
theorem mW16_10 : Cond.code yX7_isKind cX7_isKind 1 (some .boolean) ∈ wsL_law := inR16 _ (List.mem_of_getElem? (i := 10) rfl)
theorem mW16_11 : Cond.methodLink RX7 124 yX4_wordFault ∈ wsL_law := inR16 _ (List.mem_of_getElem? (i := 11) rfl)
theorem mW16_12 : Cond.instanceMethod yX4_wordFault ∈ wsL_law := inR16 _ (List.mem_of_getElem? (i := 12) rfl)
theorem mW16_13 : Cond.selects RX4 yX4_wordFault yX4_wordFault ∈ wsL_law := inR16 _ (List.mem_of_getElem? (i := 13) rfl)
theorem mW16_14 : Cond.code yX4_wordFault cX4_wordFault 3 (some .int) ∈ wsL_law := inR16 _ (List.mem_of_getElem? (i := 14) rfl)
theorem mW16_15 : Cond.methodLink RX7 128 yX4_spellInto ∈ wsL_law := inR16 _ (List.mem_of_getElem? (i := 15) rfl)
theorem mW16_16 : Cond.instanceMethod yX4_spellInto ∈ wsL_law := inR16 _ (List.mem_of_getElem? (i := 16) rfl)
theorem mW16_17 : Cond.selects RX4 yX4_spellInto yX4_spellInto ∈ wsL_law := inR16 _ (List.mem_of_getElem? (i := 17) rfl)
theorem mW16_18 : Cond.code yX4_spellInto cX4_spellInto 4 none ∈ wsL_law := inR16 _ (List.mem_of_getElem? (i := 18) rfl)
theorem mW16_19 : Cond.fieldLink RX4 30 "LacePillow$Plan" "letters" "[I" ∈ wsL_law := inR16 _ (List.mem_of_getElem? (i := 19) rfl)
theorem mW16_20 : Cond.fieldLink RX4 33 "LacePillow$Plan" "lengths" "[I" ∈ wsL_law := inR16 _ (List.mem_of_getElem? (i := 20) rfl)
theorem mW16_21 : Cond.methodLink RX4 36 Lib.Math.min.name ∈ wsL_law := inR16 _ (List.mem_of_getElem? (i := 21) rfl)
theorem mW16_22 : Cond.static Lib.Math.min.name ∈ wsL_law := inR16 _ (List.mem_of_getElem? (i := 22) rfl)
theorem mW16_23 : Cond.code Lib.Math.min.name Lib.Math.min.code 2 (some .int) ∈ wsL_law := inR16 _ (List.mem_of_getElem? (i := 23) rfl)
theorem mW17_0 : Cond.methodLink RL 40 yX8_spell ∈ wsL_law := inR17 _ (List.mem_of_getElem? (i := 0) rfl)
theorem mW17_1 : Cond.instanceMethod yX8_spell ∈ wsL_law := inR17 _ (List.mem_of_getElem? (i := 1) rfl)
theorem mW17_2 : Cond.selects RX8 yX8_spell yX8_spell ∈ wsL_law := inR17 _ (List.mem_of_getElem? (i := 2) rfl)
theorem mW17_3 : Cond.code yX8_spell cX8_spell 5 (some .int) ∈ wsL_law := inR17 _ (List.mem_of_getElem? (i := 3) rfl)
theorem mW17_4 : Cond.methodLink RX8 179 yX8_isTold ∈ wsL_law := inR17 _ (List.mem_of_getElem? (i := 4) rfl)
theorem mW17_5 : Cond.static yX8_isTold ∈ wsL_law := inR17 _ (List.mem_of_getElem? (i := 5) rfl)
theorem mW17_6 : Cond.code yX8_isTold cX8_isTold 1 (some .boolean) ∈ wsL_law := inR17 _ (List.mem_of_getElem? (i := 6) rfl)
theorem mW17_7 : Cond.methodLink RL 41 yX7_word ∈ wsL_law := inR17 _ (List.mem_of_getElem? (i := 7) rfl)
theorem mW17_8 : Cond.instanceMethod yX7_word ∈ wsL_law := inR17 _ (List.mem_of_getElem? (i := 8) rfl)
theorem mW17_9 : Cond.selects RX7 yX7_word yX7_word ∈ wsL_law := inR17 _ (List.mem_of_getElem? (i := 9) rfl)
theorem mW17_10 : Cond.code yX7_word cX7_word 3 (some .int) ∈ wsL_law := inR17 _ (List.mem_of_getElem? (i := 10) rfl)
theorem mW17_11 : Cond.fieldLink RX7 139 "LacePillow$Weave" "crossings" "I" ∈ wsL_law := inR17 _ (List.mem_of_getElem? (i := 11) rfl)
theorem mW17_12 : Cond.fieldLink RX7 142 "LacePillow$Weave" "heap" "LLacePillow$Heap;" ∈ wsL_law := inR17 _ (List.mem_of_getElem? (i := 12) rfl)
theorem mW17_13 : Cond.fieldLink RX7 145 "LacePillow$Heap" "size" "I" ∈ wsL_law := inR17 _ (List.mem_of_getElem? (i := 13) rfl)
theorem mW17_14 : Cond.fieldLink RX7 150 "LacePillow$Weave" "places" "[I" ∈ wsL_law := inR17 _ (List.mem_of_getElem? (i := 14) rfl)
theorem mW17_15 : Cond.methodLink RX7 135 yX7_thinkWord ∈ wsL_law := inR17 _ (List.mem_of_getElem? (i := 15) rfl)
theorem mW17_16 : Cond.instanceMethod yX7_thinkWord ∈ wsL_law := inR17 _ (List.mem_of_getElem? (i := 16) rfl)
theorem mW17_17 : Cond.selects RX7 yX7_thinkWord yX7_thinkWord ∈ wsL_law := inR17 _ (List.mem_of_getElem? (i := 17) rfl)
theorem mW17_18 : Cond.code yX7_thinkWord cX7_thinkWord 2 none ∈ wsL_law := inR17 _ (List.mem_of_getElem? (i := 18) rfl)
theorem mW17_19 : Cond.methodLink RX7 355 yX6_make ∈ wsL_law := inR17 _ (List.mem_of_getElem? (i := 19) rfl)
theorem mW17_20 : Cond.instanceMethod yX6_make ∈ wsL_law := inR17 _ (List.mem_of_getElem? (i := 20) rfl)
theorem mW17_21 : Cond.selects RX6 yX6_make yX6_make ∈ wsL_law := inR17 _ (List.mem_of_getElem? (i := 21) rfl)
theorem mW17_22 : Cond.code yX6_make cX6_make 7 none ∈ wsL_law := inR17 _ (List.mem_of_getElem? (i := 22) rfl)
theorem mW17_23 : Cond.fieldLink RX6 59 "LacePillow$Plan" "lengths" "[I" ∈ wsL_law := inR17 _ (List.mem_of_getElem? (i := 23) rfl)
theorem mW18_0 : Cond.fieldLink RX6 64 "LacePillow$Plan" "letters" "[I" ∈ wsL_law := inR18 _ (List.mem_of_getElem? (i := 0) rfl)
theorem mW18_1 : Cond.methodLink RX6 67 yX6_cross ∈ wsL_law := inR18 _ (List.mem_of_getElem? (i := 1) rfl)
theorem mW18_2 : Cond.instanceMethod yX6_cross ∈ wsL_law := inR18 _ (List.mem_of_getElem? (i := 2) rfl)
theorem mW18_3 : Cond.selects RX6 yX6_cross yX6_cross ∈ wsL_law := inR18 _ (List.mem_of_getElem? (i := 3) rfl)
theorem mW18_4 : Cond.code yX6_cross cX6_cross 5 none ∈ wsL_law := inR18 _ (List.mem_of_getElem? (i := 4) rfl)
theorem mW18_5 : Cond.methodLink RX6 71 yX6_pass ∈ wsL_law := inR18 _ (List.mem_of_getElem? (i := 5) rfl)
theorem mW18_6 : Cond.instanceMethod yX6_pass ∈ wsL_law := inR18 _ (List.mem_of_getElem? (i := 6) rfl)
theorem mW18_7 : Cond.selects RX6 yX6_pass yX6_pass ∈ wsL_law := inR18 _ (List.mem_of_getElem? (i := 7) rfl)
theorem mW18_8 : Cond.code yX6_pass cX6_pass 3 none ∈ wsL_law := inR18 _ (List.mem_of_getElem? (i := 8) rfl)
theorem mW18_9 : Cond.methodLink RX6 77 yX6_noteSide ∈ wsL_law := inR18 _ (List.mem_of_getElem? (i := 9) rfl)
theorem mW18_10 : Cond.instanceMethod yX6_noteSide ∈ wsL_law := inR18 _ (List.mem_of_getElem? (i := 10) rfl)
theorem mW18_11 : Cond.selects RX6 yX6_noteSide yX6_noteSide ∈ wsL_law := inR18 _ (List.mem_of_getElem? (i := 11) rfl)
theorem mW18_12 : Cond.code yX6_noteSide cX6_noteSide 3 none ∈ wsL_law := inR18 _ (List.mem_of_getElem? (i := 12) rfl)
theorem mW18_13 : Cond.methodLink RX6 74 yX1_add ∈ wsL_law := inR18 _ (List.mem_of_getElem? (i := 13) rfl)
theorem mW18_14 : Cond.instanceMethod yX1_add ∈ wsL_law := inR18 _ (List.mem_of_getElem? (i := 14) rfl)
theorem mW18_15 : Cond.selects RX1 yX1_add yX1_add ∈ wsL_law := inR18 _ (List.mem_of_getElem? (i := 15) rfl)
theorem mW18_16 : Cond.code yX1_add cX1_add 6 none ∈ wsL_law := inR18 _ (List.mem_of_getElem? (i := 16) rfl)
theorem mW18_17 : Cond.methodLink RX1 34 Lib.Math.max.name ∈ wsL_law := inR18 _ (List.mem_of_getElem? (i := 17) rfl)
theorem mW18_18 : Cond.methodLink RX1 40 yX1_takeTop ∈ wsL_law := inR18 _ (List.mem_of_getElem? (i := 18) rfl)
theorem mW18_19 : Cond.instanceMethod yX1_takeTop ∈ wsL_law := inR18 _ (List.mem_of_getElem? (i := 19) rfl)
theorem mW18_20 : Cond.selects RX1 yX1_takeTop yX1_takeTop ∈ wsL_law := inR18 _ (List.mem_of_getElem? (i := 20) rfl)
theorem mW18_21 : Cond.code yX1_takeTop cX1_takeTop 4 none ∈ wsL_law := inR18 _ (List.mem_of_getElem? (i := 21) rfl)
theorem mW18_22 : Cond.methodLink RX7 146 yX6_commonTurns ∈ wsL_law := inR18 _ (List.mem_of_getElem? (i := 22) rfl)
theorem mW18_23 : Cond.instanceMethod yX6_commonTurns ∈ wsL_law := inR18 _ (List.mem_of_getElem? (i := 23) rfl)
theorem mW19_0 : Cond.selects RX6 yX6_commonTurns yX6_commonTurns ∈ wsL_law := inR19 _ (List.mem_of_getElem? (i := 0) rfl)
theorem mW19_1 : Cond.code yX6_commonTurns cX6_commonTurns 4 (some .long) ∈ wsL_law := inR19 _ (List.mem_of_getElem? (i := 1) rfl)
theorem mW19_2 : Cond.methodLink RX6 80 yX6_turnsOf ∈ wsL_law := inR19 _ (List.mem_of_getElem? (i := 2) rfl)
theorem mW19_3 : Cond.instanceMethod yX6_turnsOf ∈ wsL_law := inR19 _ (List.mem_of_getElem? (i := 3) rfl)
theorem mW19_4 : Cond.selects RX6 yX6_turnsOf yX6_turnsOf ∈ wsL_law := inR19 _ (List.mem_of_getElem? (i := 4) rfl)
theorem mW19_5 : Cond.code yX6_turnsOf cX6_turnsOf 4 (some .int) ∈ wsL_law := inR19 _ (List.mem_of_getElem? (i := 5) rfl)
theorem mW19_6 : Cond.methodLink RX6 84 yX6_leastCommonMultiple ∈ wsL_law := inR19 _ (List.mem_of_getElem? (i := 6) rfl)
theorem mW19_7 : Cond.static yX6_leastCommonMultiple ∈ wsL_law := inR19 _ (List.mem_of_getElem? (i := 7) rfl)
theorem mW19_8 : Cond.code yX6_leastCommonMultiple cX6_leastCommonMultiple 4 (some .long) ∈ wsL_law := inR19 _ (List.mem_of_getElem? (i := 8) rfl)
theorem mW19_9 : Cond.methodLink RL 44 yX8_word ∈ wsL_law := inR19 _ (List.mem_of_getElem? (i := 9) rfl)
theorem mW19_10 : Cond.instanceMethod yX8_word ∈ wsL_law := inR19 _ (List.mem_of_getElem? (i := 10) rfl)
theorem mW19_11 : Cond.selects RX8 yX8_word yX8_word ∈ wsL_law := inR19 _ (List.mem_of_getElem? (i := 11) rfl)
theorem mW19_12 : Cond.code yX8_word cX8_word 5 (some .int) ∈ wsL_law := inR19 _ (List.mem_of_getElem? (i := 12) rfl)
theorem mW19_13 : Cond.constantLong RX8 219 (7) ∈ wsL_law := inR19 _ (List.mem_of_getElem? (i := 13) rfl)
theorem mW19_14 : Cond.fieldLink RX8 186 "LacePillowModel" "crossings" "I" ∈ wsL_law := inR19 _ (List.mem_of_getElem? (i := 14) rfl)
theorem mW19_15 : Cond.fieldLink RX8 210 "LacePillowModel" "left" "I" ∈ wsL_law := inR19 _ (List.mem_of_getElem? (i := 15) rfl)
theorem mW19_16 : Cond.methodLink RX8 196 yX8_begins ∈ wsL_law := inR19 _ (List.mem_of_getElem? (i := 16) rfl)
theorem mW19_17 : Cond.instanceMethod yX8_begins ∈ wsL_law := inR19 _ (List.mem_of_getElem? (i := 17) rfl)
theorem mW19_18 : Cond.selects RX8 yX8_begins yX8_begins ∈ wsL_law := inR19 _ (List.mem_of_getElem? (i := 18) rfl)
theorem mW19_19 : Cond.code yX8_begins cX8_begins 2 none ∈ wsL_law := inR19 _ (List.mem_of_getElem? (i := 19) rfl)
theorem mW19_20 : Cond.methodLink RX8 193 yX8_spells ∈ wsL_law := inR19 _ (List.mem_of_getElem? (i := 20) rfl)
theorem mW19_21 : Cond.instanceMethod yX8_spells ∈ wsL_law := inR19 _ (List.mem_of_getElem? (i := 21) rfl)
theorem mW19_22 : Cond.selects RX8 yX8_spells yX8_spells ∈ wsL_law := inR19 _ (List.mem_of_getElem? (i := 22) rfl)
theorem mW19_23 : Cond.code yX8_spells cX8_spells 6 none ∈ wsL_law := inR19 _ (List.mem_of_getElem? (i := 23) rfl)
theorem mW20_0 : Cond.methodLink RX8 183 yX8_letterOf ∈ wsL_law := inR20 _ (List.mem_of_getElem? (i := 0) rfl)
theorem mW20_1 : Cond.instanceMethod yX8_letterOf ∈ wsL_law := inR20 _ (List.mem_of_getElem? (i := 1) rfl)
theorem mW20_2 : Cond.selects RX8 yX8_letterOf yX8_letterOf ∈ wsL_law := inR20 _ (List.mem_of_getElem? (i := 2) rfl)
theorem mW20_3 : Cond.code yX8_letterOf cX8_letterOf 3 (some .int) ∈ wsL_law := inR20 _ (List.mem_of_getElem? (i := 3) rfl)
theorem mW20_4 : Cond.methodLink RX8 189 yX8_cross ∈ wsL_law := inR20 _ (List.mem_of_getElem? (i := 4) rfl)
theorem mW20_5 : Cond.instanceMethod yX8_cross ∈ wsL_law := inR20 _ (List.mem_of_getElem? (i := 5) rfl)
theorem mW20_6 : Cond.selects RX8 yX8_cross yX8_cross ∈ wsL_law := inR20 _ (List.mem_of_getElem? (i := 6) rfl)
theorem mW20_7 : Cond.code yX8_cross cX8_cross 6 none ∈ wsL_law := inR20 _ (List.mem_of_getElem? (i := 7) rfl)
theorem mW20_8 : Cond.methodLink RX8 221 yX8_layers ∈ wsL_law := inR20 _ (List.mem_of_getElem? (i := 8) rfl)
theorem mW20_9 : Cond.instanceMethod yX8_layers ∈ wsL_law := inR20 _ (List.mem_of_getElem? (i := 9) rfl)
theorem mW20_10 : Cond.selects RX8 yX8_layers yX8_layers ∈ wsL_law := inR20 _ (List.mem_of_getElem? (i := 10) rfl)
theorem mW20_11 : Cond.code yX8_layers cX8_layers 5 (some .int) ∈ wsL_law := inR20 _ (List.mem_of_getElem? (i := 11) rfl)
theorem mW20_12 : Cond.methodLink RX8 216 yX8_comes ∈ wsL_law := inR20 _ (List.mem_of_getElem? (i := 12) rfl)
theorem mW20_13 : Cond.instanceMethod yX8_comes ∈ wsL_law := inR20 _ (List.mem_of_getElem? (i := 13) rfl)
theorem mW20_14 : Cond.selects RX8 yX8_comes yX8_comes ∈ wsL_law := inR20 _ (List.mem_of_getElem? (i := 14) rfl)
theorem mW20_15 : Cond.code yX8_comes cX8_comes 4 none ∈ wsL_law := inR20 _ (List.mem_of_getElem? (i := 15) rfl)
theorem mW20_16 : Cond.methodLink RX8 213 yX8_drop ∈ wsL_law := inR20 _ (List.mem_of_getElem? (i := 16) rfl)
theorem mW20_17 : Cond.instanceMethod yX8_drop ∈ wsL_law := inR20 _ (List.mem_of_getElem? (i := 17) rfl)
theorem mW20_18 : Cond.selects RX8 yX8_drop yX8_drop ∈ wsL_law := inR20 _ (List.mem_of_getElem? (i := 18) rfl)
theorem mW20_19 : Cond.code yX8_drop cX8_drop 3 none ∈ wsL_law := inR20 _ (List.mem_of_getElem? (i := 19) rfl)
theorem mW20_20 : Cond.methodLink RL 45 yX7_letter ∈ wsL_law := inR20 _ (List.mem_of_getElem? (i := 20) rfl)
theorem mW20_21 : Cond.instanceMethod yX7_letter ∈ wsL_law := inR20 _ (List.mem_of_getElem? (i := 21) rfl)
theorem mW20_22 : Cond.selects RX7 yX7_letter yX7_letter ∈ wsL_law := inR20 _ (List.mem_of_getElem? (i := 22) rfl)
theorem mW20_23 : Cond.code yX7_letter cX7_letter 3 (some .int) ∈ wsL_law := inR20 _ (List.mem_of_getElem? (i := 23) rfl)
theorem mW21_0 : Cond.fieldLink RX7 153 "LacePillow$Plan" "letters" "[I" ∈ wsL_law := inR21 _ (List.mem_of_getElem? (i := 0) rfl)
theorem mW21_1 : Cond.methodLink RL 48 yX8_letter ∈ wsL_law := inR21 _ (List.mem_of_getElem? (i := 1) rfl)
theorem mW21_2 : Cond.instanceMethod yX8_letter ∈ wsL_law := inR21 _ (List.mem_of_getElem? (i := 2) rfl)
theorem mW21_3 : Cond.selects RX8 yX8_letter yX8_letter ∈ wsL_law := inR21 _ (List.mem_of_getElem? (i := 3) rfl)
theorem mW21_4 : Cond.code yX8_letter cX8_letter 3 (some .int) ∈ wsL_law := inR21 _ (List.mem_of_getElem? (i := 4) rfl)
theorem mW21_5 : Cond.methodLink RL 49 yX7_stitches ∈ wsL_law := inR21 _ (List.mem_of_getElem? (i := 5) rfl)
theorem mW21_6 : Cond.instanceMethod yX7_stitches ∈ wsL_law := inR21 _ (List.mem_of_getElem? (i := 6) rfl)
theorem mW21_7 : Cond.selects RX7 yX7_stitches yX7_stitches ∈ wsL_law := inR21 _ (List.mem_of_getElem? (i := 7) rfl)
theorem mW21_8 : Cond.code yX7_stitches cX7_stitches 2 (some .int) ∈ wsL_law := inR21 _ (List.mem_of_getElem? (i := 8) rfl)
theorem mW21_9 : Cond.fieldLink RX7 156 "LacePillow$Ground" "deep" "I" ∈ wsL_law := inR21 _ (List.mem_of_getElem? (i := 9) rfl)
theorem mW21_10 : Cond.methodLink RX7 159 yX0_longestChain ∈ wsL_law := inR21 _ (List.mem_of_getElem? (i := 10) rfl)
theorem mW21_11 : Cond.instanceMethod yX0_longestChain ∈ wsL_law := inR21 _ (List.mem_of_getElem? (i := 11) rfl)
theorem mW21_12 : Cond.selects RX0 yX0_longestChain yX0_longestChain ∈ wsL_law := inR21 _ (List.mem_of_getElem? (i := 12) rfl)
theorem mW21_13 : Cond.code yX0_longestChain cX0_longestChain 3 (some .int) ∈ wsL_law := inR21 _ (List.mem_of_getElem? (i := 13) rfl)
theorem mW21_14 : Cond.methodLink RX7 162 yX0_widest ∈ wsL_law := inR21 _ (List.mem_of_getElem? (i := 14) rfl)
theorem mW21_15 : Cond.instanceMethod yX0_widest ∈ wsL_law := inR21 _ (List.mem_of_getElem? (i := 15) rfl)
theorem mW21_16 : Cond.selects RX0 yX0_widest yX0_widest ∈ wsL_law := inR21 _ (List.mem_of_getElem? (i := 16) rfl)
theorem mW21_17 : Cond.code yX0_widest cX0_widest 4 (some .int) ∈ wsL_law := inR21 _ (List.mem_of_getElem? (i := 17) rfl)
theorem mW21_18 : Cond.methodLink RX0 70 yX0_widestLeftOf ∈ wsL_law := inR21 _ (List.mem_of_getElem? (i := 18) rfl)
theorem mW21_19 : Cond.instanceMethod yX0_widestLeftOf ∈ wsL_law := inR21 _ (List.mem_of_getElem? (i := 19) rfl)
theorem mW21_20 : Cond.selects RX0 yX0_widestLeftOf yX0_widestLeftOf ∈ wsL_law := inR21 _ (List.mem_of_getElem? (i := 20) rfl)
theorem mW21_21 : Cond.code yX0_widestLeftOf cX0_widestLeftOf 4 (some .int) ∈ wsL_law := inR21 _ (List.mem_of_getElem? (i := 21) rfl)
theorem mW21_22 : Cond.methodLink RX0 66 yX0_leads ∈ wsL_law := inR21 _ (List.mem_of_getElem? (i := 22) rfl)
theorem mW21_23 : Cond.instanceMethod yX0_leads ∈ wsL_law := inR21 _ (List.mem_of_getElem? (i := 23) rfl)
theorem mW22_0 : Cond.selects RX0 yX0_leads yX0_leads ∈ wsL_law := inR22 _ (List.mem_of_getElem? (i := 0) rfl)
theorem mW22_1 : Cond.code yX0_leads cX0_leads 3 (some .boolean) ∈ wsL_law := inR22 _ (List.mem_of_getElem? (i := 1) rfl)
theorem mW22_2 : Cond.methodLink RX7 165 yX0_countFree ∈ wsL_law := inR22 _ (List.mem_of_getElem? (i := 2) rfl)
theorem mW22_3 : Cond.instanceMethod yX0_countFree ∈ wsL_law := inR22 _ (List.mem_of_getElem? (i := 3) rfl)
theorem mW22_4 : Cond.selects RX0 yX0_countFree yX0_countFree ∈ wsL_law := inR22 _ (List.mem_of_getElem? (i := 4) rfl)
theorem mW22_5 : Cond.code yX0_countFree cX0_countFree 5 (some .int) ∈ wsL_law := inR22 _ (List.mem_of_getElem? (i := 5) rfl)
theorem mW22_6 : Cond.methodLink RX0 62 yX0_isFree ∈ wsL_law := inR22 _ (List.mem_of_getElem? (i := 6) rfl)
theorem mW22_7 : Cond.instanceMethod yX0_isFree ∈ wsL_law := inR22 _ (List.mem_of_getElem? (i := 7) rfl)
theorem mW22_8 : Cond.selects RX0 yX0_isFree yX0_isFree ∈ wsL_law := inR22 _ (List.mem_of_getElem? (i := 8) rfl)
theorem mW22_9 : Cond.code yX0_isFree cX0_isFree 4 (some .boolean) ∈ wsL_law := inR22 _ (List.mem_of_getElem? (i := 9) rfl)
theorem mW22_10 : Cond.constantLong RX0 60 (-1) ∈ wsL_law := inR22 _ (List.mem_of_getElem? (i := 10) rfl)
theorem mW22_11 : Cond.methodLink RX7 172 yX0_leastFree ∈ wsL_law := inR22 _ (List.mem_of_getElem? (i := 11) rfl)
theorem mW22_12 : Cond.instanceMethod yX0_leastFree ∈ wsL_law := inR22 _ (List.mem_of_getElem? (i := 12) rfl)
theorem mW22_13 : Cond.selects RX0 yX0_leastFree yX0_leastFree ∈ wsL_law := inR22 _ (List.mem_of_getElem? (i := 13) rfl)
theorem mW22_14 : Cond.code yX0_leastFree cX0_leastFree 4 (some .int) ∈ wsL_law := inR22 _ (List.mem_of_getElem? (i := 14) rfl)
theorem mW22_15 : Cond.methodLink RX7 175 yX7_noneIfBelow0 ∈ wsL_law := inR22 _ (List.mem_of_getElem? (i := 15) rfl)
theorem mW22_16 : Cond.instanceMethod yX7_noneIfBelow0 ∈ wsL_law := inR22 _ (List.mem_of_getElem? (i := 16) rfl)
theorem mW22_17 : Cond.selects RX7 yX7_noneIfBelow0 yX7_noneIfBelow0 ∈ wsL_law := inR22 _ (List.mem_of_getElem? (i := 17) rfl)
theorem mW22_18 : Cond.code yX7_noneIfBelow0 cX7_noneIfBelow0 2 (some .int) ∈ wsL_law := inR22 _ (List.mem_of_getElem? (i := 18) rfl)
theorem mW22_19 : Cond.methodLink RL 52 yX8_stitches ∈ wsL_law := inR22 _ (List.mem_of_getElem? (i := 19) rfl)
theorem mW22_20 : Cond.instanceMethod yX8_stitches ∈ wsL_law := inR22 _ (List.mem_of_getElem? (i := 20) rfl)
theorem mW22_21 : Cond.selects RX8 yX8_stitches yX8_stitches ∈ wsL_law := inR22 _ (List.mem_of_getElem? (i := 21) rfl)
theorem mW22_22 : Cond.code yX8_stitches cX8_stitches 2 (some .int) ∈ wsL_law := inR22 _ (List.mem_of_getElem? (i := 22) rfl)
theorem mW22_23 : Cond.constant RX8 249 (-1000000002) ∈ wsL_law := inR22 _ (List.mem_of_getElem? (i := 23) rfl)
theorem mW23_0 : Cond.methodLink RX8 234 yX8_deep ∈ wsL_law := inR23 _ (List.mem_of_getElem? (i := 0) rfl)
theorem mW23_1 : Cond.instanceMethod yX8_deep ∈ wsL_law := inR23 _ (List.mem_of_getElem? (i := 1) rfl)
theorem mW23_2 : Cond.selects RX8 yX8_deep yX8_deep ∈ wsL_law := inR23 _ (List.mem_of_getElem? (i := 2) rfl)
theorem mW23_3 : Cond.code yX8_deep cX8_deep 1 (some .int) ∈ wsL_law := inR23 _ (List.mem_of_getElem? (i := 3) rfl)
theorem mW23_4 : Cond.methodLink RX8 237 yX8_chain ∈ wsL_law := inR23 _ (List.mem_of_getElem? (i := 4) rfl)
theorem mW23_5 : Cond.instanceMethod yX8_chain ∈ wsL_law := inR23 _ (List.mem_of_getElem? (i := 5) rfl)
theorem mW23_6 : Cond.selects RX8 yX8_chain yX8_chain ∈ wsL_law := inR23 _ (List.mem_of_getElem? (i := 6) rfl)
theorem mW23_7 : Cond.code yX8_chain cX8_chain 3 (some .int) ∈ wsL_law := inR23 _ (List.mem_of_getElem? (i := 7) rfl)
theorem mW23_8 : Cond.methodLink RX8 240 yX8_wide ∈ wsL_law := inR23 _ (List.mem_of_getElem? (i := 8) rfl)
theorem mW23_9 : Cond.instanceMethod yX8_wide ∈ wsL_law := inR23 _ (List.mem_of_getElem? (i := 9) rfl)
theorem mW23_10 : Cond.selects RX8 yX8_wide yX8_wide ∈ wsL_law := inR23 _ (List.mem_of_getElem? (i := 10) rfl)
theorem mW23_11 : Cond.code yX8_wide cX8_wide 3 (some .int) ∈ wsL_law := inR23 _ (List.mem_of_getElem? (i := 11) rfl)
theorem mW23_12 : Cond.fieldLink RX8 224 "LacePillowModel" "seen" "J" ∈ wsL_law := inR23 _ (List.mem_of_getElem? (i := 12) rfl)
theorem mW23_13 : Cond.methodLink RX8 228 yX8_takes ∈ wsL_law := inR23 _ (List.mem_of_getElem? (i := 13) rfl)
theorem mW23_14 : Cond.instanceMethod yX8_takes ∈ wsL_law := inR23 _ (List.mem_of_getElem? (i := 14) rfl)
theorem mW23_15 : Cond.selects RX8 yX8_takes yX8_takes ∈ wsL_law := inR23 _ (List.mem_of_getElem? (i := 15) rfl)
theorem mW23_16 : Cond.code yX8_takes cX8_takes 3 (some .boolean) ∈ wsL_law := inR23 _ (List.mem_of_getElem? (i := 16) rfl)
theorem mW23_17 : Cond.methodLink RX8 243 yX8_freeMany ∈ wsL_law := inR23 _ (List.mem_of_getElem? (i := 17) rfl)
theorem mW23_18 : Cond.instanceMethod yX8_freeMany ∈ wsL_law := inR23 _ (List.mem_of_getElem? (i := 18) rfl)
theorem mW23_19 : Cond.selects RX8 yX8_freeMany yX8_freeMany ∈ wsL_law := inR23 _ (List.mem_of_getElem? (i := 19) rfl)
theorem mW23_20 : Cond.code yX8_freeMany cX8_freeMany 3 (some .int) ∈ wsL_law := inR23 _ (List.mem_of_getElem? (i := 20) rfl)
theorem mW23_21 : Cond.methodLink RX8 231 yX8_isFree ∈ wsL_law := inR23 _ (List.mem_of_getElem? (i := 21) rfl)
theorem mW23_22 : Cond.instanceMethod yX8_isFree ∈ wsL_law := inR23 _ (List.mem_of_getElem? (i := 22) rfl)
theorem mW23_23 : Cond.selects RX8 yX8_isFree yX8_isFree ∈ wsL_law := inR23 _ (List.mem_of_getElem? (i := 23) rfl)
theorem mW24_0 : Cond.code yX8_isFree cX8_isFree 4 (some .boolean) ∈ wsL_law := inR24 _ (List.mem_of_getElem? (i := 0) rfl)
theorem mW24_1 : Cond.methodLink RX8 135 yX8_workedSet ∈ wsL_law := inR24 _ (List.mem_of_getElem? (i := 1) rfl)
theorem mW24_2 : Cond.instanceMethod yX8_workedSet ∈ wsL_law := inR24 _ (List.mem_of_getElem? (i := 2) rfl)
theorem mW24_3 : Cond.selects RX8 yX8_workedSet yX8_workedSet ∈ wsL_law := inR24 _ (List.mem_of_getElem? (i := 3) rfl)
theorem mW24_4 : Cond.code yX8_workedSet cX8_workedSet 4 (some .long) ∈ wsL_law := inR24 _ (List.mem_of_getElem? (i := 4) rfl)
theorem mW24_5 : Cond.methodLink RX8 246 yX8_leastFree ∈ wsL_law := inR24 _ (List.mem_of_getElem? (i := 5) rfl)
theorem mW24_6 : Cond.instanceMethod yX8_leastFree ∈ wsL_law := inR24 _ (List.mem_of_getElem? (i := 6) rfl)
theorem mW24_7 : Cond.selects RX8 yX8_leastFree yX8_leastFree ∈ wsL_law := inR24 _ (List.mem_of_getElem? (i := 7) rfl)
theorem mW24_8 : Cond.code yX8_leastFree cX8_leastFree 2 (some .int) ∈ wsL_law := inR24 _ (List.mem_of_getElem? (i := 8) rfl)
theorem mW24_9 : Cond.methodLink RL 53 yX7_stitch ∈ wsL_law := inR24 _ (List.mem_of_getElem? (i := 9) rfl)
theorem mW24_10 : Cond.instanceMethod yX7_stitch ∈ wsL_law := inR24 _ (List.mem_of_getElem? (i := 10) rfl)
theorem mW24_11 : Cond.selects RX7 yX7_stitch yX7_stitch ∈ wsL_law := inR24 _ (List.mem_of_getElem? (i := 11) rfl)
theorem mW24_12 : Cond.code yX7_stitch cX7_stitch 3 (some .int) ∈ wsL_law := inR24 _ (List.mem_of_getElem? (i := 12) rfl)
theorem mW24_13 : Cond.fieldLink RX7 182 "LacePillow$Ground" "rows" "[I" ∈ wsL_law := inR24 _ (List.mem_of_getElem? (i := 13) rfl)
theorem mW24_14 : Cond.fieldLink RX7 185 "LacePillow$Ground" "gaps" "[I" ∈ wsL_law := inR24 _ (List.mem_of_getElem? (i := 14) rfl)
theorem mW24_15 : Cond.fieldLink RX7 188 "LacePillow$Ground" "kinds" "[I" ∈ wsL_law := inR24 _ (List.mem_of_getElem? (i := 15) rfl)
theorem mW24_16 : Cond.fieldLink RX7 191 "LacePillow$Ground" "levels" "[I" ∈ wsL_law := inR24 _ (List.mem_of_getElem? (i := 16) rfl)
theorem mW24_17 : Cond.fieldLink RX7 194 "LacePillow$Ground" "before" "[J" ∈ wsL_law := inR24 _ (List.mem_of_getElem? (i := 17) rfl)
theorem mW24_18 : Cond.methodLink RX7 178 yX7_isStitch ∈ wsL_law := inR24 _ (List.mem_of_getElem? (i := 18) rfl)
theorem mW24_19 : Cond.instanceMethod yX7_isStitch ∈ wsL_law := inR24 _ (List.mem_of_getElem? (i := 19) rfl)
theorem mW24_20 : Cond.selects RX7 yX7_isStitch yX7_isStitch ∈ wsL_law := inR24 _ (List.mem_of_getElem? (i := 20) rfl)
theorem mW24_21 : Cond.code yX7_isStitch cX7_isStitch 3 (some .boolean) ∈ wsL_law := inR24 _ (List.mem_of_getElem? (i := 21) rfl)
theorem mW24_22 : Cond.methodLink RX7 198 yJ13_bitCount_95d88 ∈ wsL_law := inR24 _ (List.mem_of_getElem? (i := 22) rfl)
theorem mW24_23 : Cond.static yJ13_bitCount_95d88 ∈ wsL_law := inR24 _ (List.mem_of_getElem? (i := 23) rfl)
theorem mW25_0 : Cond.initialized RJ13 ∈ wsL_law := inR25 _ (List.mem_of_getElem? (i := 0) rfl)
theorem mW25_1 : Cond.code yJ13_bitCount_95d88 cJ13_bitCount_95d88 2 (some .int) ∈ wsL_law := inR25 _ (List.mem_of_getElem? (i := 1) rfl)
theorem mW25_2 : Cond.constantLong RJ13 314 (6148914691236517205) ∈ wsL_law := inR25 _ (List.mem_of_getElem? (i := 2) rfl)
theorem mW25_3 : Cond.constantLong RJ13 316 (3689348814741910323) ∈ wsL_law := inR25 _ (List.mem_of_getElem? (i := 3) rfl)
theorem mW25_4 : Cond.constantLong RJ13 318 (1085102592571150095) ∈ wsL_law := inR25 _ (List.mem_of_getElem? (i := 4) rfl)
theorem mW25_5 : Cond.methodLink RX7 203 yX0_countBehind ∈ wsL_law := inR25 _ (List.mem_of_getElem? (i := 5) rfl)
theorem mW25_6 : Cond.instanceMethod yX0_countBehind ∈ wsL_law := inR25 _ (List.mem_of_getElem? (i := 6) rfl)
theorem mW25_7 : Cond.selects RX0 yX0_countBehind yX0_countBehind ∈ wsL_law := inR25 _ (List.mem_of_getElem? (i := 7) rfl)
theorem mW25_8 : Cond.code yX0_countBehind cX0_countBehind 4 (some .int) ∈ wsL_law := inR25 _ (List.mem_of_getElem? (i := 8) rfl)
theorem mW25_9 : Cond.methodLink RX7 206 yX0_isFree ∈ wsL_law := inR25 _ (List.mem_of_getElem? (i := 9) rfl)
theorem mW25_10 : Cond.methodLink RL 56 yX8_stitch ∈ wsL_law := inR25 _ (List.mem_of_getElem? (i := 10) rfl)
theorem mW25_11 : Cond.instanceMethod yX8_stitch ∈ wsL_law := inR25 _ (List.mem_of_getElem? (i := 11) rfl)
theorem mW25_12 : Cond.selects RX8 yX8_stitch yX8_stitch ∈ wsL_law := inR25 _ (List.mem_of_getElem? (i := 12) rfl)
theorem mW25_13 : Cond.code yX8_stitch cX8_stitch 3 (some .int) ∈ wsL_law := inR25 _ (List.mem_of_getElem? (i := 13) rfl)
theorem mW25_14 : Cond.methodLink RX8 250 yX8_isStitch ∈ wsL_law := inR25 _ (List.mem_of_getElem? (i := 14) rfl)
theorem mW25_15 : Cond.instanceMethod yX8_isStitch ∈ wsL_law := inR25 _ (List.mem_of_getElem? (i := 15) rfl)
theorem mW25_16 : Cond.selects RX8 yX8_isStitch yX8_isStitch ∈ wsL_law := inR25 _ (List.mem_of_getElem? (i := 16) rfl)
theorem mW25_17 : Cond.code yX8_isStitch cX8_isStitch 3 (some .boolean) ∈ wsL_law := inR25 _ (List.mem_of_getElem? (i := 17) rfl)
theorem mW25_18 : Cond.methodLink RX8 254 yX8_bits ∈ wsL_law := inR25 _ (List.mem_of_getElem? (i := 18) rfl)
theorem mW25_19 : Cond.static yX8_bits ∈ wsL_law := inR25 _ (List.mem_of_getElem? (i := 19) rfl)
theorem mW25_20 : Cond.code yX8_bits cX8_bits 5 (some .int) ∈ wsL_law := inR25 _ (List.mem_of_getElem? (i := 20) rfl)
theorem mW25_21 : Cond.methodLink RX8 258 yX8_behind ∈ wsL_law := inR25 _ (List.mem_of_getElem? (i := 21) rfl)
theorem mW25_22 : Cond.instanceMethod yX8_behind ∈ wsL_law := inR25 _ (List.mem_of_getElem? (i := 22) rfl)
theorem mW25_23 : Cond.selects RX8 yX8_behind yX8_behind ∈ wsL_law := inR25 _ (List.mem_of_getElem? (i := 23) rfl)
theorem mW26_0 : Cond.code yX8_behind cX8_behind 4 (some .int) ∈ wsL_law := inR26 _ (List.mem_of_getElem? (i := 0) rfl)
theorem mW26_1 : Cond.methodLink RL 57 yX7_ahead ∈ wsL_law := inR26 _ (List.mem_of_getElem? (i := 1) rfl)
theorem mW26_2 : Cond.instanceMethod yX7_ahead ∈ wsL_law := inR26 _ (List.mem_of_getElem? (i := 2) rfl)
theorem mW26_3 : Cond.selects RX7 yX7_ahead yX7_ahead ∈ wsL_law := inR26 _ (List.mem_of_getElem? (i := 3) rfl)
theorem mW26_4 : Cond.code yX7_ahead cX7_ahead 3 (some .int) ∈ wsL_law := inR26 _ (List.mem_of_getElem? (i := 4) rfl)
theorem mW26_5 : Cond.methodLink RX7 210 yX0_leads ∈ wsL_law := inR26 _ (List.mem_of_getElem? (i := 5) rfl)
theorem mW26_6 : Cond.methodLink RL 60 yX8_ahead ∈ wsL_law := inR26 _ (List.mem_of_getElem? (i := 6) rfl)
theorem mW26_7 : Cond.instanceMethod yX8_ahead ∈ wsL_law := inR26 _ (List.mem_of_getElem? (i := 7) rfl)
theorem mW26_8 : Cond.selects RX8 yX8_ahead yX8_ahead ∈ wsL_law := inR26 _ (List.mem_of_getElem? (i := 8) rfl)
theorem mW26_9 : Cond.code yX8_ahead cX8_ahead 3 (some .int) ∈ wsL_law := inR26 _ (List.mem_of_getElem? (i := 9) rfl)
theorem mW26_10 : Cond.methodLink RL 61 yX7_orders ∈ wsL_law := inR26 _ (List.mem_of_getElem? (i := 10) rfl)
theorem mW26_11 : Cond.instanceMethod yX7_orders ∈ wsL_law := inR26 _ (List.mem_of_getElem? (i := 11) rfl)
theorem mW26_12 : Cond.selects RX7 yX7_orders yX7_orders ∈ wsL_law := inR26 _ (List.mem_of_getElem? (i := 12) rfl)
theorem mW26_13 : Cond.code yX7_orders cX7_orders 1 (some .long) ∈ wsL_law := inR26 _ (List.mem_of_getElem? (i := 13) rfl)
theorem mW26_14 : Cond.fieldLink RX7 221 "LacePillow$Ways" "counts" "[J" ∈ wsL_law := inR26 _ (List.mem_of_getElem? (i := 14) rfl)
theorem mW26_15 : Cond.methodLink RX7 213 yX7_failLong ∈ wsL_law := inR26 _ (List.mem_of_getElem? (i := 15) rfl)
theorem mW26_16 : Cond.instanceMethod yX7_failLong ∈ wsL_law := inR26 _ (List.mem_of_getElem? (i := 16) rfl)
theorem mW26_17 : Cond.selects RX7 yX7_failLong yX7_failLong ∈ wsL_law := inR26 _ (List.mem_of_getElem? (i := 17) rfl)
theorem mW26_18 : Cond.code yX7_failLong cX7_failLong 2 (some .long) ∈ wsL_law := inR26 _ (List.mem_of_getElem? (i := 18) rfl)
theorem mW26_19 : Cond.constantLong RX7 344 (-9000000000000000000) ∈ wsL_law := inR26 _ (List.mem_of_getElem? (i := 19) rfl)
theorem mW26_20 : Cond.methodLink RX7 217 yX5_reckon ∈ wsL_law := inR26 _ (List.mem_of_getElem? (i := 20) rfl)
theorem mW26_21 : Cond.instanceMethod yX5_reckon ∈ wsL_law := inR26 _ (List.mem_of_getElem? (i := 21) rfl)
theorem mW26_22 : Cond.selects RX5 yX5_reckon yX5_reckon ∈ wsL_law := inR26 _ (List.mem_of_getElem? (i := 22) rfl)
theorem mW26_23 : Cond.code yX5_reckon cX5_reckon 6 none ∈ wsL_law := inR26 _ (List.mem_of_getElem? (i := 23) rfl)
theorem mW27_0 : Cond.methodLink RX5 32 yX5_sortIntoLines ∈ wsL_law := inR27 _ (List.mem_of_getElem? (i := 0) rfl)
theorem mW27_1 : Cond.instanceMethod yX5_sortIntoLines ∈ wsL_law := inR27 _ (List.mem_of_getElem? (i := 1) rfl)
theorem mW27_2 : Cond.selects RX5 yX5_sortIntoLines yX5_sortIntoLines ∈ wsL_law := inR27 _ (List.mem_of_getElem? (i := 2) rfl)
theorem mW27_3 : Cond.code yX5_sortIntoLines cX5_sortIntoLines 5 none ∈ wsL_law := inR27 _ (List.mem_of_getElem? (i := 3) rfl)
theorem mW27_4 : Cond.fieldLink RX5 49 "LacePillow$Ground" "size" "I" ∈ wsL_law := inR27 _ (List.mem_of_getElem? (i := 4) rfl)
theorem mW27_5 : Cond.fieldLink RX5 55 "LacePillow$Ground" "gaps" "[I" ∈ wsL_law := inR27 _ (List.mem_of_getElem? (i := 5) rfl)
theorem mW27_6 : Cond.methodLink RX5 40 yJ7_fill_53178 ∈ wsL_law := inR27 _ (List.mem_of_getElem? (i := 6) rfl)
theorem mW27_7 : Cond.methodLink RX5 46 yJ7_fill_d0a16 ∈ wsL_law := inR27 _ (List.mem_of_getElem? (i := 7) rfl)
theorem mW27_8 : Cond.static yJ7_fill_d0a16 ∈ wsL_law := inR27 _ (List.mem_of_getElem? (i := 8) rfl)
theorem mW27_9 : Cond.code yJ7_fill_d0a16 cJ7_fill_d0a16 5 none ∈ wsL_law := inR27 _ (List.mem_of_getElem? (i := 9) rfl)
theorem mW27_10 : Cond.methodLink RX5 36 yX5_reckonState ∈ wsL_law := inR27 _ (List.mem_of_getElem? (i := 10) rfl)
theorem mW27_11 : Cond.instanceMethod yX5_reckonState ∈ wsL_law := inR27 _ (List.mem_of_getElem? (i := 11) rfl)
theorem mW27_12 : Cond.selects RX5 yX5_reckonState yX5_reckonState ∈ wsL_law := inR27 _ (List.mem_of_getElem? (i := 12) rfl)
theorem mW27_13 : Cond.code yX5_reckonState cX5_reckonState 9 none ∈ wsL_law := inR27 _ (List.mem_of_getElem? (i := 13) rfl)
theorem mW27_14 : Cond.methodLink RX5 58 yX5_bitsOf ∈ wsL_law := inR27 _ (List.mem_of_getElem? (i := 14) rfl)
theorem mW27_15 : Cond.instanceMethod yX5_bitsOf ∈ wsL_law := inR27 _ (List.mem_of_getElem? (i := 15) rfl)
theorem mW27_16 : Cond.selects RX5 yX5_bitsOf yX5_bitsOf ∈ wsL_law := inR27 _ (List.mem_of_getElem? (i := 16) rfl)
theorem mW27_17 : Cond.code yX5_bitsOf cX5_bitsOf 3 (some .long) ∈ wsL_law := inR27 _ (List.mem_of_getElem? (i := 17) rfl)
theorem mW27_18 : Cond.methodLink RX5 62 yJ13_bitCount_95d88 ∈ wsL_law := inR27 _ (List.mem_of_getElem? (i := 18) rfl)
theorem mW27_19 : Cond.methodLink RX5 68 yX5_onward ∈ wsL_law := inR27 _ (List.mem_of_getElem? (i := 19) rfl)
theorem mW27_20 : Cond.instanceMethod yX5_onward ∈ wsL_law := inR27 _ (List.mem_of_getElem? (i := 20) rfl)
theorem mW27_21 : Cond.selects RX5 yX5_onward yX5_onward ∈ wsL_law := inR27 _ (List.mem_of_getElem? (i := 21) rfl)
theorem mW27_22 : Cond.code yX5_onward cX5_onward 7 (some .long) ∈ wsL_law := inR27 _ (List.mem_of_getElem? (i := 22) rfl)
theorem mW27_23 : Cond.methodLink RX5 72 yX0_isFree ∈ wsL_law := inR27 _ (List.mem_of_getElem? (i := 23) rfl)
theorem mW28_0 : Cond.methodLink RX5 76 yX5_countOf ∈ wsL_law := inR28 _ (List.mem_of_getElem? (i := 0) rfl)
theorem mW28_1 : Cond.instanceMethod yX5_countOf ∈ wsL_law := inR28 _ (List.mem_of_getElem? (i := 1) rfl)
theorem mW28_2 : Cond.selects RX5 yX5_countOf yX5_countOf ∈ wsL_law := inR28 _ (List.mem_of_getElem? (i := 2) rfl)
theorem mW28_3 : Cond.code yX5_countOf cX5_countOf 2 (some .long) ∈ wsL_law := inR28 _ (List.mem_of_getElem? (i := 3) rfl)
theorem mW28_4 : Cond.methodLink RL 65 yX8_orders ∈ wsL_law := inR28 _ (List.mem_of_getElem? (i := 4) rfl)
theorem mW28_5 : Cond.instanceMethod yX8_orders ∈ wsL_law := inR28 _ (List.mem_of_getElem? (i := 5) rfl)
theorem mW28_6 : Cond.selects RX8 yX8_orders yX8_orders ∈ wsL_law := inR28 _ (List.mem_of_getElem? (i := 6) rfl)
theorem mW28_7 : Cond.code yX8_orders cX8_orders 1 (some .long) ∈ wsL_law := inR28 _ (List.mem_of_getElem? (i := 7) rfl)
theorem mW28_8 : Cond.methodLink RX8 266 yX8_errsLong ∈ wsL_law := inR28 _ (List.mem_of_getElem? (i := 8) rfl)
theorem mW28_9 : Cond.instanceMethod yX8_errsLong ∈ wsL_law := inR28 _ (List.mem_of_getElem? (i := 9) rfl)
theorem mW28_10 : Cond.selects RX8 yX8_errsLong yX8_errsLong ∈ wsL_law := inR28 _ (List.mem_of_getElem? (i := 10) rfl)
theorem mW28_11 : Cond.code yX8_errsLong cX8_errsLong 2 (some .long) ∈ wsL_law := inR28 _ (List.mem_of_getElem? (i := 11) rfl)
theorem mW28_12 : Cond.constantLong RX8 118 (-9000000000000000000) ∈ wsL_law := inR28 _ (List.mem_of_getElem? (i := 12) rfl)
theorem mW28_13 : Cond.methodLink RX8 269 yX8_forgets ∈ wsL_law := inR28 _ (List.mem_of_getElem? (i := 13) rfl)
theorem mW28_14 : Cond.instanceMethod yX8_forgets ∈ wsL_law := inR28 _ (List.mem_of_getElem? (i := 14) rfl)
theorem mW28_15 : Cond.selects RX8 yX8_forgets yX8_forgets ∈ wsL_law := inR28 _ (List.mem_of_getElem? (i := 15) rfl)
theorem mW28_16 : Cond.code yX8_forgets cX8_forgets 2 none ∈ wsL_law := inR28 _ (List.mem_of_getElem? (i := 16) rfl)
theorem mW28_17 : Cond.methodLink RX8 262 yX8_ways ∈ wsL_law := inR28 _ (List.mem_of_getElem? (i := 17) rfl)
theorem mW28_18 : Cond.instanceMethod yX8_ways ∈ wsL_law := inR28 _ (List.mem_of_getElem? (i := 18) rfl)
theorem mW28_19 : Cond.selects RX8 yX8_ways yX8_ways ∈ wsL_law := inR28 _ (List.mem_of_getElem? (i := 19) rfl)
theorem mW28_20 : Cond.code yX8_ways cX8_ways 6 (some .long) ∈ wsL_law := inR28 _ (List.mem_of_getElem? (i := 20) rfl)
theorem mW28_21 : Cond.constant RX8 261 (40503) ∈ wsL_law := inR28 _ (List.mem_of_getElem? (i := 21) rfl)
theorem mW28_22 : Cond.methodLink RL 68 yX7_order ∈ wsL_law := inR28 _ (List.mem_of_getElem? (i := 22) rfl)
theorem mW28_23 : Cond.instanceMethod yX7_order ∈ wsL_law := inR28 _ (List.mem_of_getElem? (i := 23) rfl)
theorem mW29_0 : Cond.selects RX7 yX7_order yX7_order ∈ wsL_law := inR29 _ (List.mem_of_getElem? (i := 0) rfl)
theorem mW29_1 : Cond.code yX7_order cX7_order 4 (some .int) ∈ wsL_law := inR29 _ (List.mem_of_getElem? (i := 1) rfl)
theorem mW29_2 : Cond.methodLink RX7 224 yX5_stitchOf ∈ wsL_law := inR29 _ (List.mem_of_getElem? (i := 2) rfl)
theorem mW29_3 : Cond.instanceMethod yX5_stitchOf ∈ wsL_law := inR29 _ (List.mem_of_getElem? (i := 3) rfl)
theorem mW29_4 : Cond.selects RX5 yX5_stitchOf yX5_stitchOf ∈ wsL_law := inR29 _ (List.mem_of_getElem? (i := 4) rfl)
theorem mW29_5 : Cond.code yX5_stitchOf cX5_stitchOf 15 (some .int) ∈ wsL_law := inR29 _ (List.mem_of_getElem? (i := 5) rfl)
theorem mW29_6 : Cond.methodLink RX5 80 yX5_strideOf ∈ wsL_law := inR29 _ (List.mem_of_getElem? (i := 6) rfl)
theorem mW29_7 : Cond.instanceMethod yX5_strideOf ∈ wsL_law := inR29 _ (List.mem_of_getElem? (i := 7) rfl)
theorem mW29_8 : Cond.selects RX5 yX5_strideOf yX5_strideOf ∈ wsL_law := inR29 _ (List.mem_of_getElem? (i := 8) rfl)
theorem mW29_9 : Cond.code yX5_strideOf cX5_strideOf 3 (some .int) ∈ wsL_law := inR29 _ (List.mem_of_getElem? (i := 9) rfl)
theorem mW29_10 : Cond.methodLink RL 72 yX8_order ∈ wsL_law := inR29 _ (List.mem_of_getElem? (i := 10) rfl)
theorem mW29_11 : Cond.instanceMethod yX8_order ∈ wsL_law := inR29 _ (List.mem_of_getElem? (i := 11) rfl)
theorem mW29_12 : Cond.selects RX8 yX8_order yX8_order ∈ wsL_law := inR29 _ (List.mem_of_getElem? (i := 12) rfl)
theorem mW29_13 : Cond.code yX8_order cX8_order 12 (some .int) ∈ wsL_law := inR29 _ (List.mem_of_getElem? (i := 13) rfl)
theorem mW29_14 : Cond.methodLink RL 73 yX7_rank ∈ wsL_law := inR29 _ (List.mem_of_getElem? (i := 14) rfl)
theorem mW29_15 : Cond.instanceMethod yX7_rank ∈ wsL_law := inR29 _ (List.mem_of_getElem? (i := 15) rfl)
theorem mW29_16 : Cond.selects RX7 yX7_rank yX7_rank ∈ wsL_law := inR29 _ (List.mem_of_getElem? (i := 16) rfl)
theorem mW29_17 : Cond.code yX7_rank cX7_rank 4 (some .long) ∈ wsL_law := inR29 _ (List.mem_of_getElem? (i := 17) rfl)
theorem mW29_18 : Cond.fieldLink RX7 231 "LacePillow$Sheet" "sort" "I" ∈ wsL_law := inR29 _ (List.mem_of_getElem? (i := 18) rfl)
theorem mW29_19 : Cond.methodLink RX7 228 yX7_isSheet ∈ wsL_law := inR29 _ (List.mem_of_getElem? (i := 19) rfl)
theorem mW29_20 : Cond.static yX7_isSheet ∈ wsL_law := inR29 _ (List.mem_of_getElem? (i := 20) rfl)
theorem mW29_21 : Cond.code yX7_isSheet cX7_isSheet 1 (some .boolean) ∈ wsL_law := inR29 _ (List.mem_of_getElem? (i := 21) rfl)
theorem mW29_22 : Cond.methodLink RX7 234 yX5_numberOf ∈ wsL_law := inR29 _ (List.mem_of_getElem? (i := 22) rfl)
theorem mW29_23 : Cond.instanceMethod yX5_numberOf ∈ wsL_law := inR29 _ (List.mem_of_getElem? (i := 23) rfl)
theorem mW30_0 : Cond.selects RX5 yX5_numberOf yX5_numberOf ∈ wsL_law := inR30 _ (List.mem_of_getElem? (i := 0) rfl)
theorem mW30_1 : Cond.code yX5_numberOf cX5_numberOf 13 (some .long) ∈ wsL_law := inR30 _ (List.mem_of_getElem? (i := 1) rfl)
theorem mW30_2 : Cond.fieldLink RX5 84 "LacePillow$Sheet" "size" "I" ∈ wsL_law := inR30 _ (List.mem_of_getElem? (i := 2) rfl)
theorem mW30_3 : Cond.constantLong RX5 87 (-1) ∈ wsL_law := inR30 _ (List.mem_of_getElem? (i := 3) rfl)
theorem mW30_4 : Cond.fieldLink RX5 89 "LacePillow$Sheet" "numbers" "[J" ∈ wsL_law := inR30 _ (List.mem_of_getElem? (i := 4) rfl)
theorem mW30_5 : Cond.methodLink RL 77 yX8_rank ∈ wsL_law := inR30 _ (List.mem_of_getElem? (i := 5) rfl)
theorem mW30_6 : Cond.instanceMethod yX8_rank ∈ wsL_law := inR30 _ (List.mem_of_getElem? (i := 6) rfl)
theorem mW30_7 : Cond.selects RX8 yX8_rank yX8_rank ∈ wsL_law := inR30 _ (List.mem_of_getElem? (i := 7) rfl)
theorem mW30_8 : Cond.code yX8_rank cX8_rank 4 (some .long) ∈ wsL_law := inR30 _ (List.mem_of_getElem? (i := 8) rfl)
theorem mW30_9 : Cond.constant RX8 275 (-1000000007) ∈ wsL_law := inR30 _ (List.mem_of_getElem? (i := 9) rfl)
theorem mW30_10 : Cond.methodLink RX8 272 yX8_isSheet ∈ wsL_law := inR30 _ (List.mem_of_getElem? (i := 10) rfl)
theorem mW30_11 : Cond.static yX8_isSheet ∈ wsL_law := inR30 _ (List.mem_of_getElem? (i := 11) rfl)
theorem mW30_12 : Cond.code yX8_isSheet cX8_isSheet 1 (some .boolean) ∈ wsL_law := inR30 _ (List.mem_of_getElem? (i := 12) rfl)
theorem mW30_13 : Cond.constantLong RX8 314 (3) ∈ wsL_law := inR30 _ (List.mem_of_getElem? (i := 13) rfl)
theorem mW30_14 : Cond.methodLink RX8 276 yX8_rankOf ∈ wsL_law := inR30 _ (List.mem_of_getElem? (i := 14) rfl)
theorem mW30_15 : Cond.instanceMethod yX8_rankOf ∈ wsL_law := inR30 _ (List.mem_of_getElem? (i := 15) rfl)
theorem mW30_16 : Cond.selects RX8 yX8_rankOf yX8_rankOf ∈ wsL_law := inR30 _ (List.mem_of_getElem? (i := 16) rfl)
theorem mW30_17 : Cond.code yX8_rankOf cX8_rankOf 9 (some .long) ∈ wsL_law := inR30 _ (List.mem_of_getElem? (i := 17) rfl)
theorem mW30_18 : Cond.methodLink RL 78 yX7_work ∈ wsL_law := inR30 _ (List.mem_of_getElem? (i := 18) rfl)
theorem mW30_19 : Cond.instanceMethod yX7_work ∈ wsL_law := inR30 _ (List.mem_of_getElem? (i := 19) rfl)
theorem mW30_20 : Cond.selects RX7 yX7_work yX7_work ∈ wsL_law := inR30 _ (List.mem_of_getElem? (i := 20) rfl)
theorem mW30_21 : Cond.code yX7_work cX7_work 3 (some .int) ∈ wsL_law := inR30 _ (List.mem_of_getElem? (i := 21) rfl)
theorem mW30_22 : Cond.methodLink RX7 238 yX7_tryStitch ∈ wsL_law := inR30 _ (List.mem_of_getElem? (i := 22) rfl)
theorem mW30_23 : Cond.instanceMethod yX7_tryStitch ∈ wsL_law := inR30 _ (List.mem_of_getElem? (i := 23) rfl)
theorem mW31_0 : Cond.selects RX7 yX7_tryStitch yX7_tryStitch ∈ wsL_law := inR31 _ (List.mem_of_getElem? (i := 0) rfl)
theorem mW31_1 : Cond.code yX7_tryStitch cX7_tryStitch 4 (some .int) ∈ wsL_law := inR31 _ (List.mem_of_getElem? (i := 1) rfl)
theorem mW31_2 : Cond.fieldLink RX7 263 "LacePillow$Plan" "wound" "[I" ∈ wsL_law := inR31 _ (List.mem_of_getElem? (i := 2) rfl)
theorem mW31_3 : Cond.fieldLink RX7 251 "LacePillow$Plan" "work" "[I" ∈ wsL_law := inR31 _ (List.mem_of_getElem? (i := 3) rfl)
theorem mW31_4 : Cond.methodLink RX7 287 yX6_leastLacking ∈ wsL_law := inR31 _ (List.mem_of_getElem? (i := 4) rfl)
theorem mW31_5 : Cond.instanceMethod yX6_leastLacking ∈ wsL_law := inR31 _ (List.mem_of_getElem? (i := 5) rfl)
theorem mW31_6 : Cond.selects RX6 yX6_leastLacking yX6_leastLacking ∈ wsL_law := inR31 _ (List.mem_of_getElem? (i := 6) rfl)
theorem mW31_7 : Cond.code yX6_leastLacking cX6_leastLacking 3 (some .int) ∈ wsL_law := inR31 _ (List.mem_of_getElem? (i := 7) rfl)
theorem mW31_8 : Cond.methodLink RX7 248 yX7_replay ∈ wsL_law := inR31 _ (List.mem_of_getElem? (i := 8) rfl)
theorem mW31_9 : Cond.instanceMethod yX7_replay ∈ wsL_law := inR31 _ (List.mem_of_getElem? (i := 9) rfl)
theorem mW31_10 : Cond.selects RX7 yX7_replay yX7_replay ∈ wsL_law := inR31 _ (List.mem_of_getElem? (i := 10) rfl)
theorem mW31_11 : Cond.code yX7_replay cX7_replay 3 none ∈ wsL_law := inR31 _ (List.mem_of_getElem? (i := 11) rfl)
theorem mW31_12 : Cond.methodLink RX7 241 yX2_crossingsOf ∈ wsL_law := inR31 _ (List.mem_of_getElem? (i := 12) rfl)
theorem mW31_13 : Cond.instanceMethod yX2_crossingsOf ∈ wsL_law := inR31 _ (List.mem_of_getElem? (i := 13) rfl)
theorem mW31_14 : Cond.selects RX2 yX2_crossingsOf yX2_crossingsOf ∈ wsL_law := inR31 _ (List.mem_of_getElem? (i := 14) rfl)
theorem mW31_15 : Cond.code yX2_crossingsOf cX2_crossingsOf 5 (some .int) ∈ wsL_law := inR31 _ (List.mem_of_getElem? (i := 15) rfl)
theorem mW31_16 : Cond.methodLink RL 81 yX8_work ∈ wsL_law := inR31 _ (List.mem_of_getElem? (i := 16) rfl)
theorem mW31_17 : Cond.instanceMethod yX8_work ∈ wsL_law := inR31 _ (List.mem_of_getElem? (i := 17) rfl)
theorem mW31_18 : Cond.selects RX8 yX8_work yX8_work ∈ wsL_law := inR31 _ (List.mem_of_getElem? (i := 18) rfl)
theorem mW31_19 : Cond.code yX8_work cX8_work 3 (some .int) ∈ wsL_law := inR31 _ (List.mem_of_getElem? (i := 19) rfl)
theorem mW31_20 : Cond.methodLink RX8 283 yX8_wrong ∈ wsL_law := inR31 _ (List.mem_of_getElem? (i := 20) rfl)
theorem mW31_21 : Cond.instanceMethod yX8_wrong ∈ wsL_law := inR31 _ (List.mem_of_getElem? (i := 21) rfl)
theorem mW31_22 : Cond.selects RX8 yX8_wrong yX8_wrong ∈ wsL_law := inR31 _ (List.mem_of_getElem? (i := 22) rfl)
theorem mW31_23 : Cond.code yX8_wrong cX8_wrong 4 (some .int) ∈ wsL_law := inR31 _ (List.mem_of_getElem? (i := 23) rfl)
theorem mW32_0 : Cond.constant RX8 282 (-1000000006) ∈ wsL_law := inR32 _ (List.mem_of_getElem? (i := 0) rfl)
theorem mW32_1 : Cond.methodLink RX8 203 yX8_theWork ∈ wsL_law := inR32 _ (List.mem_of_getElem? (i := 1) rfl)
theorem mW32_2 : Cond.instanceMethod yX8_theWork ∈ wsL_law := inR32 _ (List.mem_of_getElem? (i := 2) rfl)
theorem mW32_3 : Cond.selects RX8 yX8_theWork yX8_theWork ∈ wsL_law := inR32 _ (List.mem_of_getElem? (i := 3) rfl)
theorem mW32_4 : Cond.code yX8_theWork cX8_theWork 2 none ∈ wsL_law := inR32 _ (List.mem_of_getElem? (i := 4) rfl)
theorem mW32_5 : Cond.methodLink RX8 199 yX8_works ∈ wsL_law := inR32 _ (List.mem_of_getElem? (i := 5) rfl)
theorem mW32_6 : Cond.instanceMethod yX8_works ∈ wsL_law := inR32 _ (List.mem_of_getElem? (i := 6) rfl)
theorem mW32_7 : Cond.selects RX8 yX8_works yX8_works ∈ wsL_law := inR32 _ (List.mem_of_getElem? (i := 7) rfl)
theorem mW32_8 : Cond.code yX8_works cX8_works 4 none ∈ wsL_law := inR32 _ (List.mem_of_getElem? (i := 8) rfl)
theorem mW32_9 : Cond.methodLink RX8 279 yX8_threads ∈ wsL_law := inR32 _ (List.mem_of_getElem? (i := 9) rfl)
theorem mW32_10 : Cond.instanceMethod yX8_threads ∈ wsL_law := inR32 _ (List.mem_of_getElem? (i := 10) rfl)
theorem mW32_11 : Cond.selects RX8 yX8_threads yX8_threads ∈ wsL_law := inR32 _ (List.mem_of_getElem? (i := 11) rfl)
theorem mW32_12 : Cond.code yX8_threads cX8_threads 1 (some .int) ∈ wsL_law := inR32 _ (List.mem_of_getElem? (i := 12) rfl)
theorem mW32_13 : Cond.methodLink RX8 286 yX8_doWork ∈ wsL_law := inR32 _ (List.mem_of_getElem? (i := 13) rfl)
theorem mW32_14 : Cond.instanceMethod yX8_doWork ∈ wsL_law := inR32 _ (List.mem_of_getElem? (i := 14) rfl)
theorem mW32_15 : Cond.selects RX8 yX8_doWork yX8_doWork ∈ wsL_law := inR32 _ (List.mem_of_getElem? (i := 15) rfl)
theorem mW32_16 : Cond.code yX8_doWork cX8_doWork 4 (some .int) ∈ wsL_law := inR32 _ (List.mem_of_getElem? (i := 16) rfl)
theorem mW32_17 : Cond.methodLink RL 82 yX7_works ∈ wsL_law := inR32 _ (List.mem_of_getElem? (i := 17) rfl)
theorem mW32_18 : Cond.instanceMethod yX7_works ∈ wsL_law := inR32 _ (List.mem_of_getElem? (i := 18) rfl)
theorem mW32_19 : Cond.selects RX7 yX7_works yX7_works ∈ wsL_law := inR32 _ (List.mem_of_getElem? (i := 19) rfl)
theorem mW32_20 : Cond.code yX7_works cX7_works 4 (some .int) ∈ wsL_law := inR32 _ (List.mem_of_getElem? (i := 20) rfl)
theorem mW32_21 : Cond.fieldLink RX7 244 "LacePillow$Sheet" "size" "I" ∈ wsL_law := inR32 _ (List.mem_of_getElem? (i := 21) rfl)
theorem mW32_22 : Cond.fieldLink RX7 245 "LacePillow$Sheet" "numbers" "[J" ∈ wsL_law := inR32 _ (List.mem_of_getElem? (i := 22) rfl)
theorem mW32_23 : Cond.methodLink RL 85 yX8_works_ ∈ wsL_law := inR32 _ (List.mem_of_getElem? (i := 23) rfl)
theorem mW33_0 : Cond.instanceMethod yX8_works_ ∈ wsL_law := inR33 _ (List.mem_of_getElem? (i := 0) rfl)
theorem mW33_1 : Cond.selects RX8 yX8_works_ yX8_works_ ∈ wsL_law := inR33 _ (List.mem_of_getElem? (i := 1) rfl)
theorem mW33_2 : Cond.code yX8_works_ cX8_works_ 4 (some .int) ∈ wsL_law := inR33 _ (List.mem_of_getElem? (i := 2) rfl)
theorem mW33_3 : Cond.methodLink RL 86 yX7_back ∈ wsL_law := inR33 _ (List.mem_of_getElem? (i := 3) rfl)
theorem mW33_4 : Cond.instanceMethod yX7_back ∈ wsL_law := inR33 _ (List.mem_of_getElem? (i := 4) rfl)
theorem mW33_5 : Cond.selects RX7 yX7_back yX7_back ∈ wsL_law := inR33 _ (List.mem_of_getElem? (i := 5) rfl)
theorem mW33_6 : Cond.code yX7_back cX7_back 1 (some .int) ∈ wsL_law := inR33 _ (List.mem_of_getElem? (i := 6) rfl)
theorem mW33_7 : Cond.methodLink RL 89 yX8_back ∈ wsL_law := inR33 _ (List.mem_of_getElem? (i := 7) rfl)
theorem mW33_8 : Cond.instanceMethod yX8_back ∈ wsL_law := inR33 _ (List.mem_of_getElem? (i := 8) rfl)
theorem mW33_9 : Cond.selects RX8 yX8_back yX8_back ∈ wsL_law := inR33 _ (List.mem_of_getElem? (i := 9) rfl)
theorem mW33_10 : Cond.code yX8_back cX8_back 1 (some .int) ∈ wsL_law := inR33 _ (List.mem_of_getElem? (i := 10) rfl)
theorem mW33_11 : Cond.methodLink RL 90 yX7_worked ∈ wsL_law := inR33 _ (List.mem_of_getElem? (i := 11) rfl)
theorem mW33_12 : Cond.instanceMethod yX7_worked ∈ wsL_law := inR33 _ (List.mem_of_getElem? (i := 12) rfl)
theorem mW33_13 : Cond.selects RX7 yX7_worked yX7_worked ∈ wsL_law := inR33 _ (List.mem_of_getElem? (i := 13) rfl)
theorem mW33_14 : Cond.code yX7_worked cX7_worked 2 (some .int) ∈ wsL_law := inR33 _ (List.mem_of_getElem? (i := 14) rfl)
theorem mW33_15 : Cond.methodLink RL 93 yX8_worked ∈ wsL_law := inR33 _ (List.mem_of_getElem? (i := 15) rfl)
theorem mW33_16 : Cond.instanceMethod yX8_worked ∈ wsL_law := inR33 _ (List.mem_of_getElem? (i := 16) rfl)
theorem mW33_17 : Cond.selects RX8 yX8_worked yX8_worked ∈ wsL_law := inR33 _ (List.mem_of_getElem? (i := 17) rfl)
theorem mW33_18 : Cond.code yX8_worked cX8_worked 2 (some .int) ∈ wsL_law := inR33 _ (List.mem_of_getElem? (i := 18) rfl)
theorem mW33_19 : Cond.methodLink RL 94 yX7_at ∈ wsL_law := inR33 _ (List.mem_of_getElem? (i := 19) rfl)
theorem mW33_20 : Cond.instanceMethod yX7_at ∈ wsL_law := inR33 _ (List.mem_of_getElem? (i := 20) rfl)
theorem mW33_21 : Cond.selects RX7 yX7_at yX7_at ∈ wsL_law := inR33 _ (List.mem_of_getElem? (i := 21) rfl)
theorem mW33_22 : Cond.code yX7_at cX7_at 2 (some .int) ∈ wsL_law := inR33 _ (List.mem_of_getElem? (i := 22) rfl)
theorem mW33_23 : Cond.fieldLink RX7 257 "LacePillow$Weave" "threads" "[I" ∈ wsL_law := inR33 _ (List.mem_of_getElem? (i := 23) rfl)
theorem mW34_0 : Cond.methodLink RX7 254 yX7_isThread ∈ wsL_law := inR34 _ (List.mem_of_getElem? (i := 0) rfl)
theorem mW34_1 : Cond.instanceMethod yX7_isThread ∈ wsL_law := inR34 _ (List.mem_of_getElem? (i := 1) rfl)
theorem mW34_2 : Cond.selects RX7 yX7_isThread yX7_isThread ∈ wsL_law := inR34 _ (List.mem_of_getElem? (i := 2) rfl)
theorem mW34_3 : Cond.code yX7_isThread cX7_isThread 2 (some .boolean) ∈ wsL_law := inR34 _ (List.mem_of_getElem? (i := 3) rfl)
theorem mW34_4 : Cond.methodLink RL 97 yX8_at ∈ wsL_law := inR34 _ (List.mem_of_getElem? (i := 4) rfl)
theorem mW34_5 : Cond.instanceMethod yX8_at ∈ wsL_law := inR34 _ (List.mem_of_getElem? (i := 5) rfl)
theorem mW34_6 : Cond.selects RX8 yX8_at yX8_at ∈ wsL_law := inR34 _ (List.mem_of_getElem? (i := 6) rfl)
theorem mW34_7 : Cond.code yX8_at cX8_at 2 (some .int) ∈ wsL_law := inR34 _ (List.mem_of_getElem? (i := 7) rfl)
theorem mW34_8 : Cond.methodLink RL 98 yX7_wind ∈ wsL_law := inR34 _ (List.mem_of_getElem? (i := 8) rfl)
theorem mW34_9 : Cond.instanceMethod yX7_wind ∈ wsL_law := inR34 _ (List.mem_of_getElem? (i := 9) rfl)
theorem mW34_10 : Cond.selects RX7 yX7_wind yX7_wind ∈ wsL_law := inR34 _ (List.mem_of_getElem? (i := 10) rfl)
theorem mW34_11 : Cond.code yX7_wind cX7_wind 4 (some .int) ∈ wsL_law := inR34 _ (List.mem_of_getElem? (i := 11) rfl)
theorem mW34_12 : Cond.fieldLink RX7 260 "LacePillow$Weave" "used" "[I" ∈ wsL_law := inR34 _ (List.mem_of_getElem? (i := 12) rfl)
theorem mW34_13 : Cond.methodLink RL 101 yX8_wind ∈ wsL_law := inR34 _ (List.mem_of_getElem? (i := 13) rfl)
theorem mW34_14 : Cond.instanceMethod yX8_wind ∈ wsL_law := inR34 _ (List.mem_of_getElem? (i := 14) rfl)
theorem mW34_15 : Cond.selects RX8 yX8_wind yX8_wind ∈ wsL_law := inR34 _ (List.mem_of_getElem? (i := 15) rfl)
theorem mW34_16 : Cond.code yX8_wind cX8_wind 4 (some .int) ∈ wsL_law := inR34 _ (List.mem_of_getElem? (i := 16) rfl)
theorem mW34_17 : Cond.constantLong RX8 292 (9999) ∈ wsL_law := inR34 _ (List.mem_of_getElem? (i := 17) rfl)
theorem mW34_18 : Cond.methodLink RX8 289 yX8_isThread ∈ wsL_law := inR34 _ (List.mem_of_getElem? (i := 18) rfl)
theorem mW34_19 : Cond.instanceMethod yX8_isThread ∈ wsL_law := inR34 _ (List.mem_of_getElem? (i := 19) rfl)
theorem mW34_20 : Cond.selects RX8 yX8_isThread yX8_isThread ∈ wsL_law := inR34 _ (List.mem_of_getElem? (i := 20) rfl)
theorem mW34_21 : Cond.code yX8_isThread cX8_isThread 2 (some .boolean) ∈ wsL_law := inR34 _ (List.mem_of_getElem? (i := 21) rfl)
theorem mW34_22 : Cond.methodLink RL 102 yX7_thread ∈ wsL_law := inR34 _ (List.mem_of_getElem? (i := 22) rfl)
theorem mW34_23 : Cond.instanceMethod yX7_thread ∈ wsL_law := inR34 _ (List.mem_of_getElem? (i := 23) rfl)
theorem mW35_0 : Cond.selects RX7 yX7_thread yX7_thread ∈ wsL_law := inR35 _ (List.mem_of_getElem? (i := 0) rfl)
theorem mW35_1 : Cond.code yX7_thread cX7_thread 3 (some .int) ∈ wsL_law := inR35 _ (List.mem_of_getElem? (i := 1) rfl)
theorem mW35_2 : Cond.fieldLink RX7 272 "LacePillow$Weave" "overs" "[I" ∈ wsL_law := inR35 _ (List.mem_of_getElem? (i := 2) rfl)
theorem mW35_3 : Cond.fieldLink RX7 275 "LacePillow$Weave" "unders" "[I" ∈ wsL_law := inR35 _ (List.mem_of_getElem? (i := 3) rfl)
theorem mW35_4 : Cond.fieldLink RX7 278 "LacePillow$Weave" "falses" "[I" ∈ wsL_law := inR35 _ (List.mem_of_getElem? (i := 4) rfl)
theorem mW35_5 : Cond.methodLink RX7 266 yX7_thinkStitches ∈ wsL_law := inR35 _ (List.mem_of_getElem? (i := 5) rfl)
theorem mW35_6 : Cond.instanceMethod yX7_thinkStitches ∈ wsL_law := inR35 _ (List.mem_of_getElem? (i := 6) rfl)
theorem mW35_7 : Cond.selects RX7 yX7_thinkStitches yX7_thinkStitches ∈ wsL_law := inR35 _ (List.mem_of_getElem? (i := 7) rfl)
theorem mW35_8 : Cond.code yX7_thinkStitches cX7_thinkStitches 3 none ∈ wsL_law := inR35 _ (List.mem_of_getElem? (i := 8) rfl)
theorem mW35_9 : Cond.methodLink RX7 269 yX6_turnsOf ∈ wsL_law := inR35 _ (List.mem_of_getElem? (i := 9) rfl)
theorem mW35_10 : Cond.methodLink RL 105 yX8_thread ∈ wsL_law := inR35 _ (List.mem_of_getElem? (i := 10) rfl)
theorem mW35_11 : Cond.instanceMethod yX8_thread ∈ wsL_law := inR35 _ (List.mem_of_getElem? (i := 11) rfl)
theorem mW35_12 : Cond.selects RX8 yX8_thread yX8_thread ∈ wsL_law := inR35 _ (List.mem_of_getElem? (i := 12) rfl)
theorem mW35_13 : Cond.code yX8_thread cX8_thread 3 (some .int) ∈ wsL_law := inR35 _ (List.mem_of_getElem? (i := 13) rfl)
theorem mW35_14 : Cond.methodLink RX8 297 yX8_whole ∈ wsL_law := inR35 _ (List.mem_of_getElem? (i := 14) rfl)
theorem mW35_15 : Cond.instanceMethod yX8_whole ∈ wsL_law := inR35 _ (List.mem_of_getElem? (i := 15) rfl)
theorem mW35_16 : Cond.selects RX8 yX8_whole yX8_whole ∈ wsL_law := inR35 _ (List.mem_of_getElem? (i := 16) rfl)
theorem mW35_17 : Cond.code yX8_whole cX8_whole 2 none ∈ wsL_law := inR35 _ (List.mem_of_getElem? (i := 17) rfl)
theorem mW35_18 : Cond.methodLink RX8 206 yX8_first ∈ wsL_law := inR35 _ (List.mem_of_getElem? (i := 18) rfl)
theorem mW35_19 : Cond.instanceMethod yX8_first ∈ wsL_law := inR35 _ (List.mem_of_getElem? (i := 19) rfl)
theorem mW35_20 : Cond.selects RX8 yX8_first yX8_first ∈ wsL_law := inR35 _ (List.mem_of_getElem? (i := 20) rfl)
theorem mW35_21 : Cond.code yX8_first cX8_first 3 none ∈ wsL_law := inR35 _ (List.mem_of_getElem? (i := 21) rfl)
theorem mW35_22 : Cond.methodLink RX8 294 yX8_placeOf ∈ wsL_law := inR35 _ (List.mem_of_getElem? (i := 22) rfl)
theorem mW35_23 : Cond.instanceMethod yX8_placeOf ∈ wsL_law := inR35 _ (List.mem_of_getElem? (i := 23) rfl)
theorem mW36_0 : Cond.selects RX8 yX8_placeOf yX8_placeOf ∈ wsL_law := inR36 _ (List.mem_of_getElem? (i := 0) rfl)
theorem mW36_1 : Cond.code yX8_placeOf cX8_placeOf 3 (some .int) ∈ wsL_law := inR36 _ (List.mem_of_getElem? (i := 1) rfl)
theorem mW36_2 : Cond.methodLink RX8 300 yX8_roundsOf ∈ wsL_law := inR36 _ (List.mem_of_getElem? (i := 2) rfl)
theorem mW36_3 : Cond.instanceMethod yX8_roundsOf ∈ wsL_law := inR36 _ (List.mem_of_getElem? (i := 3) rfl)
theorem mW36_4 : Cond.selects RX8 yX8_roundsOf yX8_roundsOf ∈ wsL_law := inR36 _ (List.mem_of_getElem? (i := 4) rfl)
theorem mW36_5 : Cond.code yX8_roundsOf cX8_roundsOf 4 (some .int) ∈ wsL_law := inR36 _ (List.mem_of_getElem? (i := 5) rfl)
theorem mW36_6 : Cond.methodLink RX8 303 yX8_overs ∈ wsL_law := inR36 _ (List.mem_of_getElem? (i := 6) rfl)
theorem mW36_7 : Cond.instanceMethod yX8_overs ∈ wsL_law := inR36 _ (List.mem_of_getElem? (i := 7) rfl)
theorem mW36_8 : Cond.selects RX8 yX8_overs yX8_overs ∈ wsL_law := inR36 _ (List.mem_of_getElem? (i := 8) rfl)
theorem mW36_9 : Cond.code yX8_overs cX8_overs 5 (some .int) ∈ wsL_law := inR36 _ (List.mem_of_getElem? (i := 9) rfl)
theorem mW36_10 : Cond.methodLink RX8 307 yX8_falseOf ∈ wsL_law := inR36 _ (List.mem_of_getElem? (i := 10) rfl)
theorem mW36_11 : Cond.instanceMethod yX8_falseOf ∈ wsL_law := inR36 _ (List.mem_of_getElem? (i := 11) rfl)
theorem mW36_12 : Cond.selects RX8 yX8_falseOf yX8_falseOf ∈ wsL_law := inR36 _ (List.mem_of_getElem? (i := 12) rfl)
theorem mW36_13 : Cond.code yX8_falseOf cX8_falseOf 6 (some .int) ∈ wsL_law := inR36 _ (List.mem_of_getElem? (i := 13) rfl)
theorem mW36_14 : Cond.methodLink RL 106 yX7_place ∈ wsL_law := inR36 _ (List.mem_of_getElem? (i := 14) rfl)
theorem mW36_15 : Cond.instanceMethod yX7_place ∈ wsL_law := inR36 _ (List.mem_of_getElem? (i := 15) rfl)
theorem mW36_16 : Cond.selects RX7 yX7_place yX7_place ∈ wsL_law := inR36 _ (List.mem_of_getElem? (i := 16) rfl)
theorem mW36_17 : Cond.code yX7_place cX7_place 3 (some .int) ∈ wsL_law := inR36 _ (List.mem_of_getElem? (i := 17) rfl)
theorem mW36_18 : Cond.methodLink RL 109 yX8_place ∈ wsL_law := inR36 _ (List.mem_of_getElem? (i := 18) rfl)
theorem mW36_19 : Cond.instanceMethod yX8_place ∈ wsL_law := inR36 _ (List.mem_of_getElem? (i := 19) rfl)
theorem mW36_20 : Cond.selects RX8 yX8_place yX8_place ∈ wsL_law := inR36 _ (List.mem_of_getElem? (i := 20) rfl)
theorem mW36_21 : Cond.code yX8_place cX8_place 3 (some .int) ∈ wsL_law := inR36 _ (List.mem_of_getElem? (i := 21) rfl)
theorem mW36_22 : Cond.methodLink RL 110 yX7_rounds ∈ wsL_law := inR36 _ (List.mem_of_getElem? (i := 22) rfl)
theorem mW36_23 : Cond.instanceMethod yX7_rounds ∈ wsL_law := inR36 _ (List.mem_of_getElem? (i := 23) rfl)
theorem mW37_0 : Cond.selects RX7 yX7_rounds yX7_rounds ∈ wsL_law := inR37 _ (List.mem_of_getElem? (i := 0) rfl)
theorem mW37_1 : Cond.code yX7_rounds cX7_rounds 1 (some .long) ∈ wsL_law := inR37 _ (List.mem_of_getElem? (i := 1) rfl)
theorem mW37_2 : Cond.methodLink RL 113 yX8_rounds ∈ wsL_law := inR37 _ (List.mem_of_getElem? (i := 2) rfl)
theorem mW37_3 : Cond.instanceMethod yX8_rounds ∈ wsL_law := inR37 _ (List.mem_of_getElem? (i := 3) rfl)
theorem mW37_4 : Cond.selects RX8 yX8_rounds yX8_rounds ∈ wsL_law := inR37 _ (List.mem_of_getElem? (i := 4) rfl)
theorem mW37_5 : Cond.code yX8_rounds cX8_rounds 6 (some .long) ∈ wsL_law := inR37 _ (List.mem_of_getElem? (i := 5) rfl)
theorem mW37_6 : Cond.methodLink RX8 310 yX8_divisor ∈ wsL_law := inR37 _ (List.mem_of_getElem? (i := 6) rfl)
theorem mW37_7 : Cond.static yX8_divisor ∈ wsL_law := inR37 _ (List.mem_of_getElem? (i := 7) rfl)
theorem mW37_8 : Cond.code yX8_divisor cX8_divisor 10 (some .long) ∈ wsL_law := inR37 _ (List.mem_of_getElem? (i := 8) rfl)
theorem mW37_9 : Cond.methodLink RL 114 yX7_link ∈ wsL_law := inR37 _ (List.mem_of_getElem? (i := 9) rfl)
theorem mW37_10 : Cond.instanceMethod yX7_link ∈ wsL_law := inR37 _ (List.mem_of_getElem? (i := 10) rfl)
theorem mW37_11 : Cond.selects RX7 yX7_link yX7_link ∈ wsL_law := inR37 _ (List.mem_of_getElem? (i := 11) rfl)
theorem mW37_12 : Cond.code yX7_link cX7_link 3 (some .int) ∈ wsL_law := inR37 _ (List.mem_of_getElem? (i := 12) rfl)
theorem mW37_13 : Cond.fieldLink RX7 281 "LacePillow$Weave" "passes" "[I" ∈ wsL_law := inR37 _ (List.mem_of_getElem? (i := 13) rfl)
theorem mW37_14 : Cond.methodLink RL 117 yX8_link ∈ wsL_law := inR37 _ (List.mem_of_getElem? (i := 14) rfl)
theorem mW37_15 : Cond.instanceMethod yX8_link ∈ wsL_law := inR37 _ (List.mem_of_getElem? (i := 15) rfl)
theorem mW37_16 : Cond.selects RX8 yX8_link yX8_link ∈ wsL_law := inR37 _ (List.mem_of_getElem? (i := 16) rfl)
theorem mW37_17 : Cond.code yX8_link cX8_link 5 (some .int) ∈ wsL_law := inR37 _ (List.mem_of_getElem? (i := 17) rfl)
theorem mW37_18 : Cond.methodLink RL 118 yX7_meet ∈ wsL_law := inR37 _ (List.mem_of_getElem? (i := 18) rfl)
theorem mW37_19 : Cond.instanceMethod yX7_meet ∈ wsL_law := inR37 _ (List.mem_of_getElem? (i := 19) rfl)
theorem mW37_20 : Cond.selects RX7 yX7_meet yX7_meet ∈ wsL_law := inR37 _ (List.mem_of_getElem? (i := 20) rfl)
theorem mW37_21 : Cond.code yX7_meet cX7_meet 4 (some .int) ∈ wsL_law := inR37 _ (List.mem_of_getElem? (i := 21) rfl)
theorem mW37_22 : Cond.methodLink RX7 284 yX6_haveCrossed ∈ wsL_law := inR37 _ (List.mem_of_getElem? (i := 22) rfl)
theorem mW37_23 : Cond.instanceMethod yX6_haveCrossed ∈ wsL_law := inR37 _ (List.mem_of_getElem? (i := 23) rfl)
theorem mW38_0 : Cond.selects RX6 yX6_haveCrossed yX6_haveCrossed ∈ wsL_law := inR38 _ (List.mem_of_getElem? (i := 0) rfl)
theorem mW38_1 : Cond.code yX6_haveCrossed cX6_haveCrossed 3 (some .boolean) ∈ wsL_law := inR38 _ (List.mem_of_getElem? (i := 1) rfl)
theorem mW38_2 : Cond.methodLink RL 121 yX8_meet ∈ wsL_law := inR38 _ (List.mem_of_getElem? (i := 2) rfl)
theorem mW38_3 : Cond.instanceMethod yX8_meet ∈ wsL_law := inR38 _ (List.mem_of_getElem? (i := 3) rfl)
theorem mW38_4 : Cond.selects RX8 yX8_meet yX8_meet ∈ wsL_law := inR38 _ (List.mem_of_getElem? (i := 4) rfl)
theorem mW38_5 : Cond.code yX8_meet cX8_meet 4 (some .int) ∈ wsL_law := inR38 _ (List.mem_of_getElem? (i := 5) rfl)
theorem mW38_6 : Cond.methodLink RL 122 yX7_lacks ∈ wsL_law := inR38 _ (List.mem_of_getElem? (i := 6) rfl)
theorem mW38_7 : Cond.instanceMethod yX7_lacks ∈ wsL_law := inR38 _ (List.mem_of_getElem? (i := 7) rfl)
theorem mW38_8 : Cond.selects RX7 yX7_lacks yX7_lacks ∈ wsL_law := inR38 _ (List.mem_of_getElem? (i := 8) rfl)
theorem mW38_9 : Cond.code yX7_lacks cX7_lacks 4 (some .int) ∈ wsL_law := inR38 _ (List.mem_of_getElem? (i := 9) rfl)
theorem mW38_10 : Cond.methodLink RL 125 yX8_lacks ∈ wsL_law := inR38 _ (List.mem_of_getElem? (i := 10) rfl)
theorem mW38_11 : Cond.instanceMethod yX8_lacks ∈ wsL_law := inR38 _ (List.mem_of_getElem? (i := 11) rfl)
theorem mW38_12 : Cond.selects RX8 yX8_lacks yX8_lacks ∈ wsL_law := inR38 _ (List.mem_of_getElem? (i := 12) rfl)
theorem mW38_13 : Cond.code yX8_lacks cX8_lacks 4 (some .int) ∈ wsL_law := inR38 _ (List.mem_of_getElem? (i := 13) rfl)
theorem mW38_14 : Cond.methodLink RL 126 yX7_lace ∈ wsL_law := inR38 _ (List.mem_of_getElem? (i := 14) rfl)
theorem mW38_15 : Cond.instanceMethod yX7_lace ∈ wsL_law := inR38 _ (List.mem_of_getElem? (i := 15) rfl)
theorem mW38_16 : Cond.selects RX7 yX7_lace yX7_lace ∈ wsL_law := inR38 _ (List.mem_of_getElem? (i := 16) rfl)
theorem mW38_17 : Cond.code yX7_lace cX7_lace 4 (some .int) ∈ wsL_law := inR38 _ (List.mem_of_getElem? (i := 17) rfl)
theorem mW38_18 : Cond.methodLink RX7 291 yX7_weaveOf ∈ wsL_law := inR38 _ (List.mem_of_getElem? (i := 18) rfl)
theorem mW38_19 : Cond.instanceMethod yX7_weaveOf ∈ wsL_law := inR38 _ (List.mem_of_getElem? (i := 19) rfl)
theorem mW38_20 : Cond.selects RX7 yX7_weaveOf yX7_weaveOf ∈ wsL_law := inR38 _ (List.mem_of_getElem? (i := 20) rfl)
theorem mW38_21 : Cond.code yX7_weaveOf cX7_weaveOf 2 (some (.object "LacePillow$Weave")) ∈ wsL_law := inR38 _ (List.mem_of_getElem? (i := 21) rfl)
theorem mW38_22 : Cond.methodLink RX7 295 yX1_countLayers ∈ wsL_law := inR38 _ (List.mem_of_getElem? (i := 22) rfl)
theorem mW38_23 : Cond.instanceMethod yX1_countLayers ∈ wsL_law := inR38 _ (List.mem_of_getElem? (i := 23) rfl)
theorem mW39_0 : Cond.selects RX1 yX1_countLayers yX1_countLayers ∈ wsL_law := inR39 _ (List.mem_of_getElem? (i := 0) rfl)
theorem mW39_1 : Cond.code yX1_countLayers cX1_countLayers 3 (some .int) ∈ wsL_law := inR39 _ (List.mem_of_getElem? (i := 1) rfl)
theorem mW39_2 : Cond.methodLink RX7 298 yX1_countSign ∈ wsL_law := inR39 _ (List.mem_of_getElem? (i := 2) rfl)
theorem mW39_3 : Cond.instanceMethod yX1_countSign ∈ wsL_law := inR39 _ (List.mem_of_getElem? (i := 3) rfl)
theorem mW39_4 : Cond.selects RX1 yX1_countSign yX1_countSign ∈ wsL_law := inR39 _ (List.mem_of_getElem? (i := 4) rfl)
theorem mW39_5 : Cond.code yX1_countSign cX1_countSign 4 (some .int) ∈ wsL_law := inR39 _ (List.mem_of_getElem? (i := 5) rfl)
theorem mW39_6 : Cond.methodLink RL 129 yX8_lace ∈ wsL_law := inR39 _ (List.mem_of_getElem? (i := 6) rfl)
theorem mW39_7 : Cond.instanceMethod yX8_lace ∈ wsL_law := inR39 _ (List.mem_of_getElem? (i := 7) rfl)
theorem mW39_8 : Cond.selects RX8 yX8_lace yX8_lace ∈ wsL_law := inR39 _ (List.mem_of_getElem? (i := 8) rfl)
theorem mW39_9 : Cond.code yX8_lace cX8_lace 6 (some .int) ∈ wsL_law := inR39 _ (List.mem_of_getElem? (i := 9) rfl)
theorem mW39_10 : Cond.methodLink RL 130 yX7_layer ∈ wsL_law := inR39 _ (List.mem_of_getElem? (i := 10) rfl)
theorem mW39_11 : Cond.instanceMethod yX7_layer ∈ wsL_law := inR39 _ (List.mem_of_getElem? (i := 11) rfl)
theorem mW39_12 : Cond.selects RX7 yX7_layer yX7_layer ∈ wsL_law := inR39 _ (List.mem_of_getElem? (i := 12) rfl)
theorem mW39_13 : Cond.code yX7_layer cX7_layer 4 (some .int) ∈ wsL_law := inR39 _ (List.mem_of_getElem? (i := 13) rfl)
theorem mW39_14 : Cond.methodLink RX7 301 yX1_signAt ∈ wsL_law := inR39 _ (List.mem_of_getElem? (i := 14) rfl)
theorem mW39_15 : Cond.instanceMethod yX1_signAt ∈ wsL_law := inR39 _ (List.mem_of_getElem? (i := 15) rfl)
theorem mW39_16 : Cond.selects RX1 yX1_signAt yX1_signAt ∈ wsL_law := inR39 _ (List.mem_of_getElem? (i := 16) rfl)
theorem mW39_17 : Cond.code yX1_signAt cX1_signAt 3 (some .int) ∈ wsL_law := inR39 _ (List.mem_of_getElem? (i := 17) rfl)
theorem mW39_18 : Cond.methodLink RL 133 yX8_layer ∈ wsL_law := inR39 _ (List.mem_of_getElem? (i := 18) rfl)
theorem mW39_19 : Cond.instanceMethod yX8_layer ∈ wsL_law := inR39 _ (List.mem_of_getElem? (i := 19) rfl)
theorem mW39_20 : Cond.selects RX8 yX8_layer yX8_layer ∈ wsL_law := inR39 _ (List.mem_of_getElem? (i := 20) rfl)
theorem mW39_21 : Cond.code yX8_layer cX8_layer 5 (some .int) ∈ wsL_law := inR39 _ (List.mem_of_getElem? (i := 21) rfl)
theorem mW39_22 : Cond.methodLink RX8 316 yX8_signIn ∈ wsL_law := inR39 _ (List.mem_of_getElem? (i := 22) rfl)
theorem mW39_23 : Cond.instanceMethod yX8_signIn ∈ wsL_law := inR39 _ (List.mem_of_getElem? (i := 23) rfl)
theorem mW40_0 : Cond.selects RX8 yX8_signIn yX8_signIn ∈ wsL_law := inR40 _ (List.mem_of_getElem? (i := 0) rfl)
theorem mW40_1 : Cond.code yX8_signIn cX8_signIn 4 (some .int) ∈ wsL_law := inR40 _ (List.mem_of_getElem? (i := 1) rfl)
theorem mW40_2 : Cond.methodLink RL 134 yX7_repeat ∈ wsL_law := inR40 _ (List.mem_of_getElem? (i := 2) rfl)
theorem mW40_3 : Cond.instanceMethod yX7_repeat ∈ wsL_law := inR40 _ (List.mem_of_getElem? (i := 3) rfl)
theorem mW40_4 : Cond.selects RX7 yX7_repeat yX7_repeat ∈ wsL_law := inR40 _ (List.mem_of_getElem? (i := 4) rfl)
theorem mW40_5 : Cond.code yX7_repeat cX7_repeat 2 (some .int) ∈ wsL_law := inR40 _ (List.mem_of_getElem? (i := 5) rfl)
theorem mW40_6 : Cond.methodLink RX7 305 yX2_repeatsBy ∈ wsL_law := inR40 _ (List.mem_of_getElem? (i := 6) rfl)
theorem mW40_7 : Cond.instanceMethod yX2_repeatsBy ∈ wsL_law := inR40 _ (List.mem_of_getElem? (i := 7) rfl)
theorem mW40_8 : Cond.selects RX2 yX2_repeatsBy yX2_repeatsBy ∈ wsL_law := inR40 _ (List.mem_of_getElem? (i := 8) rfl)
theorem mW40_9 : Cond.code yX2_repeatsBy cX2_repeatsBy 5 (some .boolean) ∈ wsL_law := inR40 _ (List.mem_of_getElem? (i := 9) rfl)
theorem mW40_10 : Cond.methodLink RL 137 yX8_repeat ∈ wsL_law := inR40 _ (List.mem_of_getElem? (i := 10) rfl)
theorem mW40_11 : Cond.instanceMethod yX8_repeat ∈ wsL_law := inR40 _ (List.mem_of_getElem? (i := 11) rfl)
theorem mW40_12 : Cond.selects RX8 yX8_repeat yX8_repeat ∈ wsL_law := inR40 _ (List.mem_of_getElem? (i := 12) rfl)
theorem mW40_13 : Cond.code yX8_repeat cX8_repeat 4 (some .int) ∈ wsL_law := inR40 _ (List.mem_of_getElem? (i := 13) rfl)
theorem mW40_14 : Cond.methodLink RX8 319 yX8_areRowsAlike ∈ wsL_law := inR40 _ (List.mem_of_getElem? (i := 14) rfl)
theorem mW40_15 : Cond.instanceMethod yX8_areRowsAlike ∈ wsL_law := inR40 _ (List.mem_of_getElem? (i := 15) rfl)
theorem mW40_16 : Cond.selects RX8 yX8_areRowsAlike yX8_areRowsAlike ∈ wsL_law := inR40 _ (List.mem_of_getElem? (i := 16) rfl)
theorem mW40_17 : Cond.code yX8_areRowsAlike cX8_areRowsAlike 4 (some .boolean) ∈ wsL_law := inR40 _ (List.mem_of_getElem? (i := 17) rfl)
theorem mW40_18 : Cond.methodLink RL 138 yX7_motif ∈ wsL_law := inR40 _ (List.mem_of_getElem? (i := 18) rfl)
theorem mW40_19 : Cond.instanceMethod yX7_motif ∈ wsL_law := inR40 _ (List.mem_of_getElem? (i := 19) rfl)
theorem mW40_20 : Cond.selects RX7 yX7_motif yX7_motif ∈ wsL_law := inR40 _ (List.mem_of_getElem? (i := 20) rfl)
theorem mW40_21 : Cond.code yX7_motif cX7_motif 8 (some .int) ∈ wsL_law := inR40 _ (List.mem_of_getElem? (i := 21) rfl)
theorem mW40_22 : Cond.methodLink RX7 308 yX2_fits ∈ wsL_law := inR40 _ (List.mem_of_getElem? (i := 22) rfl)
theorem mW40_23 : Cond.instanceMethod yX2_fits ∈ wsL_law := inR40 _ (List.mem_of_getElem? (i := 23) rfl)
theorem mW41_0 : Cond.selects RX2 yX2_fits yX2_fits ∈ wsL_law := inR41 _ (List.mem_of_getElem? (i := 0) rfl)
theorem mW41_1 : Cond.code yX2_fits cX2_fits 8 (some .boolean) ∈ wsL_law := inR41 _ (List.mem_of_getElem? (i := 1) rfl)
theorem mW41_2 : Cond.fieldLink RX2 72 "LacePillow$Sheet" "size" "I" ∈ wsL_law := inR41 _ (List.mem_of_getElem? (i := 2) rfl)
theorem mW41_3 : Cond.fieldLink RX2 77 "LacePillow$Sheet" "numbers" "[J" ∈ wsL_law := inR41 _ (List.mem_of_getElem? (i := 3) rfl)
theorem mW41_4 : Cond.methodLink RX2 81 yX2_fitsCell ∈ wsL_law := inR41 _ (List.mem_of_getElem? (i := 4) rfl)
theorem mW41_5 : Cond.static yX2_fitsCell ∈ wsL_law := inR41 _ (List.mem_of_getElem? (i := 5) rfl)
theorem mW41_6 : Cond.code yX2_fitsCell cX2_fitsCell 3 (some .boolean) ∈ wsL_law := inR41 _ (List.mem_of_getElem? (i := 6) rfl)
theorem mW41_7 : Cond.constantLong RX2 85 (-2) ∈ wsL_law := inR41 _ (List.mem_of_getElem? (i := 7) rfl)
theorem mW41_8 : Cond.methodLink RL 141 yX8_motif ∈ wsL_law := inR41 _ (List.mem_of_getElem? (i := 8) rfl)
theorem mW41_9 : Cond.instanceMethod yX8_motif ∈ wsL_law := inR41 _ (List.mem_of_getElem? (i := 9) rfl)
theorem mW41_10 : Cond.selects RX8 yX8_motif yX8_motif ∈ wsL_law := inR41 _ (List.mem_of_getElem? (i := 10) rfl)
theorem mW41_11 : Cond.code yX8_motif cX8_motif 9 (some .int) ∈ wsL_law := inR41 _ (List.mem_of_getElem? (i := 11) rfl)
theorem mW41_12 : Cond.methodLink RX8 328 yX8_isFound ∈ wsL_law := inR41 _ (List.mem_of_getElem? (i := 12) rfl)
theorem mW41_13 : Cond.instanceMethod yX8_isFound ∈ wsL_law := inR41 _ (List.mem_of_getElem? (i := 13) rfl)
theorem mW41_14 : Cond.selects RX8 yX8_isFound yX8_isFound ∈ wsL_law := inR41 _ (List.mem_of_getElem? (i := 14) rfl)
theorem mW41_15 : Cond.code yX8_isFound cX8_isFound 6 (some .boolean) ∈ wsL_law := inR41 _ (List.mem_of_getElem? (i := 15) rfl)
theorem mW41_16 : Cond.methodLink RX8 324 yX8_fits ∈ wsL_law := inR41 _ (List.mem_of_getElem? (i := 16) rfl)
theorem mW41_17 : Cond.instanceMethod yX8_fits ∈ wsL_law := inR41 _ (List.mem_of_getElem? (i := 17) rfl)
theorem mW41_18 : Cond.selects RX8 yX8_fits yX8_fits ∈ wsL_law := inR41 _ (List.mem_of_getElem? (i := 18) rfl)
theorem mW41_19 : Cond.code yX8_fits cX8_fits 5 (some .boolean) ∈ wsL_law := inR41 _ (List.mem_of_getElem? (i := 19) rfl)
theorem mW41_20 : Cond.constantLong RX8 322 (-2) ∈ wsL_law := inR41 _ (List.mem_of_getElem? (i := 20) rfl)
theorem mW41_21 : Cond.methodLink RL 142 yX7_sheet ∈ wsL_law := inR41 _ (List.mem_of_getElem? (i := 21) rfl)
theorem mW41_22 : Cond.instanceMethod yX7_sheet ∈ wsL_law := inR41 _ (List.mem_of_getElem? (i := 22) rfl)
theorem mW41_23 : Cond.selects RX7 yX7_sheet yX7_sheet ∈ wsL_law := inR41 _ (List.mem_of_getElem? (i := 23) rfl)
theorem mW42_0 : Cond.code yX7_sheet cX7_sheet 4 (some .int) ∈ wsL_law := inR42 _ (List.mem_of_getElem? (i := 0) rfl)
theorem mW42_1 : Cond.methodLink RX7 312 yX3_begin ∈ wsL_law := inR42 _ (List.mem_of_getElem? (i := 1) rfl)
theorem mW42_2 : Cond.instanceMethod yX3_begin ∈ wsL_law := inR42 _ (List.mem_of_getElem? (i := 2) rfl)
theorem mW42_3 : Cond.selects RX3 yX3_begin yX3_begin ∈ wsL_law := inR42 _ (List.mem_of_getElem? (i := 3) rfl)
theorem mW42_4 : Cond.code yX3_begin cX3_begin 3 none ∈ wsL_law := inR42 _ (List.mem_of_getElem? (i := 4) rfl)
theorem mW42_5 : Cond.methodLink RX3 22 yJ7_fill_d0a16 ∈ wsL_law := inR42 _ (List.mem_of_getElem? (i := 5) rfl)
theorem mW42_6 : Cond.methodLink RL 145 yX8_sheet ∈ wsL_law := inR42 _ (List.mem_of_getElem? (i := 6) rfl)
theorem mW42_7 : Cond.instanceMethod yX8_sheet ∈ wsL_law := inR42 _ (List.mem_of_getElem? (i := 7) rfl)
theorem mW42_8 : Cond.selects RX8 yX8_sheet yX8_sheet ∈ wsL_law := inR42 _ (List.mem_of_getElem? (i := 8) rfl)
theorem mW42_9 : Cond.code yX8_sheet cX8_sheet 5 (some .int) ∈ wsL_law := inR42 _ (List.mem_of_getElem? (i := 9) rfl)
theorem mW42_10 : Cond.methodLink RL 146 yX7_put ∈ wsL_law := inR42 _ (List.mem_of_getElem? (i := 10) rfl)
theorem mW42_11 : Cond.instanceMethod yX7_put ∈ wsL_law := inR42 _ (List.mem_of_getElem? (i := 11) rfl)
theorem mW42_12 : Cond.selects RX7 yX7_put yX7_put ∈ wsL_law := inR42 _ (List.mem_of_getElem? (i := 12) rfl)
theorem mW42_13 : Cond.code yX7_put cX7_put 5 (some .int) ∈ wsL_law := inR42 _ (List.mem_of_getElem? (i := 13) rfl)
theorem mW42_14 : Cond.methodLink RX7 316 yX3_has ∈ wsL_law := inR42 _ (List.mem_of_getElem? (i := 14) rfl)
theorem mW42_15 : Cond.instanceMethod yX3_has ∈ wsL_law := inR42 _ (List.mem_of_getElem? (i := 15) rfl)
theorem mW42_16 : Cond.selects RX3 yX3_has yX3_has ∈ wsL_law := inR42 _ (List.mem_of_getElem? (i := 16) rfl)
theorem mW42_17 : Cond.code yX3_has cX3_has 2 (some .boolean) ∈ wsL_law := inR42 _ (List.mem_of_getElem? (i := 17) rfl)
theorem mW42_18 : Cond.methodLink RX7 319 yX3_cut ∈ wsL_law := inR42 _ (List.mem_of_getElem? (i := 18) rfl)
theorem mW42_19 : Cond.instanceMethod yX3_cut ∈ wsL_law := inR42 _ (List.mem_of_getElem? (i := 19) rfl)
theorem mW42_20 : Cond.selects RX3 yX3_cut yX3_cut ∈ wsL_law := inR42 _ (List.mem_of_getElem? (i := 20) rfl)
theorem mW42_21 : Cond.code yX3_cut cX3_cut 3 (some .long) ∈ wsL_law := inR42 _ (List.mem_of_getElem? (i := 21) rfl)
theorem mW42_22 : Cond.methodLink RL 150 yX8_put ∈ wsL_law := inR42 _ (List.mem_of_getElem? (i := 22) rfl)
theorem mW42_23 : Cond.instanceMethod yX8_put ∈ wsL_law := inR42 _ (List.mem_of_getElem? (i := 23) rfl)
theorem mW43_0 : Cond.selects RX8 yX8_put yX8_put ∈ wsL_law := inR43 _ (List.mem_of_getElem? (i := 0) rfl)
theorem mW43_1 : Cond.code yX8_put cX8_put 5 (some .int) ∈ wsL_law := inR43 _ (List.mem_of_getElem? (i := 1) rfl)
theorem mW43_2 : Cond.methodLink RX8 332 yX8_isItem ∈ wsL_law := inR43 _ (List.mem_of_getElem? (i := 2) rfl)
theorem mW43_3 : Cond.instanceMethod yX8_isItem ∈ wsL_law := inR43 _ (List.mem_of_getElem? (i := 3) rfl)
theorem mW43_4 : Cond.selects RX8 yX8_isItem yX8_isItem ∈ wsL_law := inR43 _ (List.mem_of_getElem? (i := 4) rfl)
theorem mW43_5 : Cond.code yX8_isItem cX8_isItem 3 (some .boolean) ∈ wsL_law := inR43 _ (List.mem_of_getElem? (i := 5) rfl)
theorem mW43_6 : Cond.methodLink RL 151 yX7_number ∈ wsL_law := inR43 _ (List.mem_of_getElem? (i := 6) rfl)
theorem mW43_7 : Cond.instanceMethod yX7_number ∈ wsL_law := inR43 _ (List.mem_of_getElem? (i := 7) rfl)
theorem mW43_8 : Cond.selects RX7 yX7_number yX7_number ∈ wsL_law := inR43 _ (List.mem_of_getElem? (i := 8) rfl)
theorem mW43_9 : Cond.code yX7_number cX7_number 3 (some .long) ∈ wsL_law := inR43 _ (List.mem_of_getElem? (i := 9) rfl)
theorem mW43_10 : Cond.methodLink RL 155 yX8_number ∈ wsL_law := inR43 _ (List.mem_of_getElem? (i := 10) rfl)
theorem mW43_11 : Cond.instanceMethod yX8_number ∈ wsL_law := inR43 _ (List.mem_of_getElem? (i := 11) rfl)
theorem mW43_12 : Cond.selects RX8 yX8_number yX8_number ∈ wsL_law := inR43 _ (List.mem_of_getElem? (i := 12) rfl)
theorem mW43_13 : Cond.code yX8_number cX8_number 3 (some .long) ∈ wsL_law := inR43 _ (List.mem_of_getElem? (i := 13) rfl)
theorem mW43_14 : Cond.methodLink RL 156 yX7_image ∈ wsL_law := inR43 _ (List.mem_of_getElem? (i := 14) rfl)
theorem mW43_15 : Cond.instanceMethod yX7_image ∈ wsL_law := inR43 _ (List.mem_of_getElem? (i := 15) rfl)
theorem mW43_16 : Cond.selects RX7 yX7_image yX7_image ∈ wsL_law := inR43 _ (List.mem_of_getElem? (i := 16) rfl)
theorem mW43_17 : Cond.code yX7_image cX7_image 1 (some .int) ∈ wsL_law := inR43 _ (List.mem_of_getElem? (i := 17) rfl)
theorem mW43_18 : Cond.methodLink RX7 323 yX2_copyFrom ∈ wsL_law := inR43 _ (List.mem_of_getElem? (i := 18) rfl)
theorem mW43_19 : Cond.instanceMethod yX2_copyFrom ∈ wsL_law := inR43 _ (List.mem_of_getElem? (i := 19) rfl)
theorem mW43_20 : Cond.selects RX2 yX2_copyFrom yX2_copyFrom ∈ wsL_law := inR43 _ (List.mem_of_getElem? (i := 20) rfl)
theorem mW43_21 : Cond.code yX2_copyFrom cX2_copyFrom 2 none ∈ wsL_law := inR43 _ (List.mem_of_getElem? (i := 21) rfl)
theorem mW43_22 : Cond.methodLink RX2 66 arraycopyName ∈ wsL_law := inR43 _ (List.mem_of_getElem? (i := 22) rfl)
theorem mW43_23 : Cond.native arraycopyName ∈ wsL_law := inR43 _ (List.mem_of_getElem? (i := 23) rfl)
theorem mW44_0 : Cond.static arraycopyName ∈ wsL_law := inR44 _ (List.mem_of_getElem? (i := 0) rfl)
theorem mW44_1 : Cond.initialized "java/lang/System" ∈ wsL_law := inR44 _ (List.mem_of_getElem? (i := 1) rfl)
theorem mW44_2 : Cond.methodLink RX7 326 yX1_copyFrom ∈ wsL_law := inR44 _ (List.mem_of_getElem? (i := 2) rfl)
theorem mW44_3 : Cond.instanceMethod yX1_copyFrom ∈ wsL_law := inR44 _ (List.mem_of_getElem? (i := 3) rfl)
theorem mW44_4 : Cond.selects RX1 yX1_copyFrom yX1_copyFrom ∈ wsL_law := inR44 _ (List.mem_of_getElem? (i := 4) rfl)
theorem mW44_5 : Cond.code yX1_copyFrom cX1_copyFrom 2 none ∈ wsL_law := inR44 _ (List.mem_of_getElem? (i := 5) rfl)
theorem mW44_6 : Cond.methodLink RX1 28 arraycopyName ∈ wsL_law := inR44 _ (List.mem_of_getElem? (i := 6) rfl)
theorem mW44_7 : Cond.methodLink RL 159 yX8_image ∈ wsL_law := inR44 _ (List.mem_of_getElem? (i := 7) rfl)
theorem mW44_8 : Cond.instanceMethod yX8_image ∈ wsL_law := inR44 _ (List.mem_of_getElem? (i := 8) rfl)
theorem mW44_9 : Cond.selects RX8 yX8_image yX8_image ∈ wsL_law := inR44 _ (List.mem_of_getElem? (i := 9) rfl)
theorem mW44_10 : Cond.code yX8_image cX8_image 1 (some .int) ∈ wsL_law := inR44 _ (List.mem_of_getElem? (i := 10) rfl)
theorem mW44_11 : Cond.fieldLink RX8 339 "LacePillowModel" "isKept" "Z" ∈ wsL_law := inR44 _ (List.mem_of_getElem? (i := 11) rfl)
theorem mW44_12 : Cond.methodLink RX8 335 yX8_copy ∈ wsL_law := inR44 _ (List.mem_of_getElem? (i := 12) rfl)
theorem mW44_13 : Cond.static yX8_copy ∈ wsL_law := inR44 _ (List.mem_of_getElem? (i := 13) rfl)
theorem mW44_14 : Cond.code yX8_copy cX8_copy 3 none ∈ wsL_law := inR44 _ (List.mem_of_getElem? (i := 14) rfl)
theorem mW44_15 : Cond.methodLink RL 160 yX7_restore ∈ wsL_law := inR44 _ (List.mem_of_getElem? (i := 15) rfl)
theorem mW44_16 : Cond.instanceMethod yX7_restore ∈ wsL_law := inR44 _ (List.mem_of_getElem? (i := 16) rfl)
theorem mW44_17 : Cond.selects RX7 yX7_restore yX7_restore ∈ wsL_law := inR44 _ (List.mem_of_getElem? (i := 17) rfl)
theorem mW44_18 : Cond.code yX7_restore cX7_restore 1 (some .int) ∈ wsL_law := inR44 _ (List.mem_of_getElem? (i := 18) rfl)
theorem mW44_19 : Cond.methodLink RL 163 yX8_restore ∈ wsL_law := inR44 _ (List.mem_of_getElem? (i := 19) rfl)
theorem mW44_20 : Cond.instanceMethod yX8_restore ∈ wsL_law := inR44 _ (List.mem_of_getElem? (i := 20) rfl)
theorem mW44_21 : Cond.selects RX8 yX8_restore yX8_restore ∈ wsL_law := inR44 _ (List.mem_of_getElem? (i := 21) rfl)
theorem mW44_22 : Cond.code yX8_restore cX8_restore 1 (some .int) ∈ wsL_law := inR44 _ (List.mem_of_getElem? (i := 22) rfl)
theorem mW44_23 : Cond.methodLink RL 164 yX7_alike ∈ wsL_law := inR44 _ (List.mem_of_getElem? (i := 23) rfl)
theorem mW45_0 : Cond.instanceMethod yX7_alike ∈ wsL_law := inR45 _ (List.mem_of_getElem? (i := 0) rfl)
theorem mW45_1 : Cond.selects RX7 yX7_alike yX7_alike ∈ wsL_law := inR45 _ (List.mem_of_getElem? (i := 1) rfl)
theorem mW45_2 : Cond.code yX7_alike cX7_alike 1 (some .int) ∈ wsL_law := inR45 _ (List.mem_of_getElem? (i := 2) rfl)
theorem mW45_3 : Cond.methodLink RX7 332 yX1_isAs ∈ wsL_law := inR45 _ (List.mem_of_getElem? (i := 3) rfl)
theorem mW45_4 : Cond.instanceMethod yX1_isAs ∈ wsL_law := inR45 _ (List.mem_of_getElem? (i := 4) rfl)
theorem mW45_5 : Cond.selects RX1 yX1_isAs yX1_isAs ∈ wsL_law := inR45 _ (List.mem_of_getElem? (i := 5) rfl)
theorem mW45_6 : Cond.code yX1_isAs cX1_isAs 3 (some .boolean) ∈ wsL_law := inR45 _ (List.mem_of_getElem? (i := 6) rfl)
theorem mW45_7 : Cond.methodLink RL 167 yX8_alike ∈ wsL_law := inR45 _ (List.mem_of_getElem? (i := 7) rfl)
theorem mW45_8 : Cond.instanceMethod yX8_alike ∈ wsL_law := inR45 _ (List.mem_of_getElem? (i := 8) rfl)
theorem mW45_9 : Cond.selects RX8 yX8_alike yX8_alike ∈ wsL_law := inR45 _ (List.mem_of_getElem? (i := 9) rfl)
theorem mW45_10 : Cond.code yX8_alike cX8_alike 5 (some .int) ∈ wsL_law := inR45 _ (List.mem_of_getElem? (i := 10) rfl)
theorem mW45_11 : Cond.methodLink RL 168 yX7_count ∈ wsL_law := inR45 _ (List.mem_of_getElem? (i := 11) rfl)
theorem mW45_12 : Cond.instanceMethod yX7_count ∈ wsL_law := inR45 _ (List.mem_of_getElem? (i := 12) rfl)
theorem mW45_13 : Cond.selects RX7 yX7_count yX7_count ∈ wsL_law := inR45 _ (List.mem_of_getElem? (i := 13) rfl)
theorem mW45_14 : Cond.code yX7_count cX7_count 3 (some .int) ∈ wsL_law := inR45 _ (List.mem_of_getElem? (i := 14) rfl)
theorem mW45_15 : Cond.methodLink RX7 336 yX7_sumOf ∈ wsL_law := inR45 _ (List.mem_of_getElem? (i := 15) rfl)
theorem mW45_16 : Cond.static yX7_sumOf ∈ wsL_law := inR45 _ (List.mem_of_getElem? (i := 16) rfl)
theorem mW45_17 : Cond.code yX7_sumOf cX7_sumOf 4 (some .int) ∈ wsL_law := inR45 _ (List.mem_of_getElem? (i := 17) rfl)
theorem mW45_18 : Cond.methodLink RX7 340 yX6_countAtHome ∈ wsL_law := inR45 _ (List.mem_of_getElem? (i := 18) rfl)
theorem mW45_19 : Cond.instanceMethod yX6_countAtHome ∈ wsL_law := inR45 _ (List.mem_of_getElem? (i := 19) rfl)
theorem mW45_20 : Cond.selects RX6 yX6_countAtHome yX6_countAtHome ∈ wsL_law := inR45 _ (List.mem_of_getElem? (i := 20) rfl)
theorem mW45_21 : Cond.code yX6_countAtHome cX6_countAtHome 4 (some .int) ∈ wsL_law := inR45 _ (List.mem_of_getElem? (i := 21) rfl)
theorem mW45_22 : Cond.methodLink RL 171 yX8_count ∈ wsL_law := inR45 _ (List.mem_of_getElem? (i := 22) rfl)
theorem mW45_23 : Cond.instanceMethod yX8_count ∈ wsL_law := inR45 _ (List.mem_of_getElem? (i := 23) rfl)
theorem mW46_0 : Cond.selects RX8 yX8_count yX8_count ∈ wsL_law := inR46 _ (List.mem_of_getElem? (i := 0) rfl)
theorem mW46_1 : Cond.code yX8_count cX8_count 2 (some .int) ∈ wsL_law := inR46 _ (List.mem_of_getElem? (i := 1) rfl)
theorem mW46_2 : Cond.methodLink RX8 343 yX8_all ∈ wsL_law := inR46 _ (List.mem_of_getElem? (i := 2) rfl)
theorem mW46_3 : Cond.instanceMethod yX8_all ∈ wsL_law := inR46 _ (List.mem_of_getElem? (i := 3) rfl)
theorem mW46_4 : Cond.selects RX8 yX8_all yX8_all ∈ wsL_law := inR46 _ (List.mem_of_getElem? (i := 4) rfl)
theorem mW46_5 : Cond.code yX8_all cX8_all 4 (some .int) ∈ wsL_law := inR46 _ (List.mem_of_getElem? (i := 5) rfl)
theorem mW46_6 : Cond.methodLink RX8 347 yX8_made ∈ wsL_law := inR46 _ (List.mem_of_getElem? (i := 6) rfl)
theorem mW46_7 : Cond.instanceMethod yX8_made ∈ wsL_law := inR46 _ (List.mem_of_getElem? (i := 7) rfl)
theorem mW46_8 : Cond.selects RX8 yX8_made yX8_made ∈ wsL_law := inR46 _ (List.mem_of_getElem? (i := 8) rfl)
theorem mW46_9 : Cond.code yX8_made cX8_made 1 (some .int) ∈ wsL_law := inR46 _ (List.mem_of_getElem? (i := 9) rfl)
theorem mW46_10 : Cond.methodLink RX8 350 yX8_atHome ∈ wsL_law := inR46 _ (List.mem_of_getElem? (i := 10) rfl)
theorem mW46_11 : Cond.instanceMethod yX8_atHome ∈ wsL_law := inR46 _ (List.mem_of_getElem? (i := 11) rfl)
theorem mW46_12 : Cond.selects RX8 yX8_atHome yX8_atHome ∈ wsL_law := inR46 _ (List.mem_of_getElem? (i := 12) rfl)
theorem mW46_13 : Cond.code yX8_atHome cX8_atHome 3 (some .int) ∈ wsL_law := inR46 _ (List.mem_of_getElem? (i := 13) rfl)
theorem mW46_14 : Cond.methodLink RL 172 yX7_told ∈ wsL_law := inR46 _ (List.mem_of_getElem? (i := 14) rfl)
theorem mW46_15 : Cond.instanceMethod yX7_told ∈ wsL_law := inR46 _ (List.mem_of_getElem? (i := 15) rfl)
theorem mW46_16 : Cond.selects RX7 yX7_told yX7_told ∈ wsL_law := inR46 _ (List.mem_of_getElem? (i := 16) rfl)
theorem mW46_17 : Cond.code yX7_told cX7_told 2 (some .int) ∈ wsL_law := inR46 _ (List.mem_of_getElem? (i := 17) rfl)
theorem mW46_18 : Cond.methodLink RL 175 yX8_told ∈ wsL_law := inR46 _ (List.mem_of_getElem? (i := 18) rfl)
theorem mW46_19 : Cond.instanceMethod yX8_told ∈ wsL_law := inR46 _ (List.mem_of_getElem? (i := 19) rfl)
theorem mW46_20 : Cond.selects RX8 yX8_told yX8_told ∈ wsL_law := inR46 _ (List.mem_of_getElem? (i := 20) rfl)
theorem mW46_21 : Cond.code yX8_told cX8_told 2 (some .int) ∈ wsL_law := inR46 _ (List.mem_of_getElem? (i := 21) rfl)
set_option maxRecDepth 20000 in
theorem mq_wsX7_init_r1 : ∀ w ∈ wsX7_init_r1, w ∈ wsL_law := List.forall_mem_cons.mpr ⟨mW1_10, List.forall_mem_cons.mpr ⟨mW1_11, List.forall_mem_cons.mpr ⟨mW1_12, List.forall_mem_cons.mpr ⟨mW1_13, List.forall_mem_cons.mpr ⟨mW1_14, List.forall_mem_cons.mpr ⟨mW1_15, List.forall_mem_cons.mpr ⟨mW1_16, List.forall_mem_cons.mpr ⟨mW1_17, List.forall_mem_cons.mpr ⟨mW1_18, List.forall_mem_cons.mpr ⟨mW1_19, List.forall_mem_cons.mpr ⟨mW1_20, List.forall_mem_cons.mpr ⟨mW1_21, List.forall_mem_cons.mpr ⟨mW1_22, List.forall_mem_cons.mpr ⟨mW1_23, List.forall_mem_cons.mpr ⟨mW2_0, List.forall_mem_cons.mpr ⟨mW2_1, List.forall_mem_cons.mpr ⟨mW2_2, List.forall_mem_cons.mpr ⟨mW2_3, List.forall_mem_cons.mpr ⟨mW2_4, List.forall_mem_cons.mpr ⟨mW2_5, List.forall_mem_cons.mpr ⟨mW2_6, List.forall_mem_cons.mpr ⟨mW2_7, List.forall_mem_cons.mpr ⟨mW2_8, List.forall_mem_cons.mpr ⟨mW2_9, fun _ h => absurd h List.not_mem_nil⟩⟩⟩⟩⟩⟩⟩⟩⟩⟩⟩⟩⟩⟩⟩⟩⟩⟩⟩⟩⟩⟩⟩⟩
set_option maxRecDepth 20000 in
theorem mq_wsX7_init_r2 : ∀ w ∈ wsX7_init_r2, w ∈ wsL_law := List.forall_mem_cons.mpr ⟨mW2_10, List.forall_mem_cons.mpr ⟨mW2_11, List.forall_mem_cons.mpr ⟨mW2_12, List.forall_mem_cons.mpr ⟨mW2_13, List.forall_mem_cons.mpr ⟨mW2_14, List.forall_mem_cons.mpr ⟨mW2_15, List.forall_mem_cons.mpr ⟨mW2_16, List.forall_mem_cons.mpr ⟨mW2_17, List.forall_mem_cons.mpr ⟨mW2_18, List.forall_mem_cons.mpr ⟨mW2_19, List.forall_mem_cons.mpr ⟨mW2_20, List.forall_mem_cons.mpr ⟨mW2_21, List.forall_mem_cons.mpr ⟨mW2_22, List.forall_mem_cons.mpr ⟨mW2_23, List.forall_mem_cons.mpr ⟨mW3_0, List.forall_mem_cons.mpr ⟨mW3_1, List.forall_mem_cons.mpr ⟨mW3_2, List.forall_mem_cons.mpr ⟨mW3_3, List.forall_mem_cons.mpr ⟨mW3_4, List.forall_mem_cons.mpr ⟨mW3_5, List.forall_mem_cons.mpr ⟨mW3_6, List.forall_mem_cons.mpr ⟨mW3_7, List.forall_mem_cons.mpr ⟨mW3_8, List.forall_mem_cons.mpr ⟨mW3_9, fun _ h => absurd h List.not_mem_nil⟩⟩⟩⟩⟩⟩⟩⟩⟩⟩⟩⟩⟩⟩⟩⟩⟩⟩⟩⟩⟩⟩⟩⟩
set_option maxRecDepth 20000 in
theorem mq_wsX7_init_r3 : ∀ w ∈ wsX7_init_r3, w ∈ wsL_law := List.forall_mem_cons.mpr ⟨mW3_10, List.forall_mem_cons.mpr ⟨mW3_11, List.forall_mem_cons.mpr ⟨mW3_12, List.forall_mem_cons.mpr ⟨mW3_13, List.forall_mem_cons.mpr ⟨mW3_14, List.forall_mem_cons.mpr ⟨mW3_15, List.forall_mem_cons.mpr ⟨mW3_16, List.forall_mem_cons.mpr ⟨mW3_17, List.forall_mem_cons.mpr ⟨mW3_18, List.forall_mem_cons.mpr ⟨mW3_19, List.forall_mem_cons.mpr ⟨mW3_20, List.forall_mem_cons.mpr ⟨mW3_21, List.forall_mem_cons.mpr ⟨mW3_22, List.forall_mem_cons.mpr ⟨mW3_23, List.forall_mem_cons.mpr ⟨mW4_0, List.forall_mem_cons.mpr ⟨mW4_1, List.forall_mem_cons.mpr ⟨mW4_2, List.forall_mem_cons.mpr ⟨mW4_3, List.forall_mem_cons.mpr ⟨mW4_4, List.forall_mem_cons.mpr ⟨mW4_5, List.forall_mem_cons.mpr ⟨mW4_6, List.forall_mem_cons.mpr ⟨mW4_7, List.forall_mem_cons.mpr ⟨mW4_8, List.forall_mem_cons.mpr ⟨mW4_9, fun _ h => absurd h List.not_mem_nil⟩⟩⟩⟩⟩⟩⟩⟩⟩⟩⟩⟩⟩⟩⟩⟩⟩⟩⟩⟩⟩⟩⟩⟩
set_option maxRecDepth 20000 in
theorem mq_wsX7_init_r4 : ∀ w ∈ wsX7_init_r4, w ∈ wsL_law := List.forall_mem_cons.mpr ⟨mW4_10, List.forall_mem_cons.mpr ⟨mW4_11, List.forall_mem_cons.mpr ⟨mW4_12, List.forall_mem_cons.mpr ⟨mW4_13, List.forall_mem_cons.mpr ⟨mW4_14, List.forall_mem_cons.mpr ⟨mW4_15, List.forall_mem_cons.mpr ⟨mW4_16, List.forall_mem_cons.mpr ⟨mW4_17, List.forall_mem_cons.mpr ⟨mW4_18, List.forall_mem_cons.mpr ⟨mW4_19, List.forall_mem_cons.mpr ⟨mW4_20, List.forall_mem_cons.mpr ⟨mW4_21, List.forall_mem_cons.mpr ⟨mW4_22, List.forall_mem_cons.mpr ⟨mW4_23, List.forall_mem_cons.mpr ⟨mW5_0, List.forall_mem_cons.mpr ⟨mW5_1, List.forall_mem_cons.mpr ⟨mW5_2, List.forall_mem_cons.mpr ⟨mW5_3, List.forall_mem_cons.mpr ⟨mW5_4, List.forall_mem_cons.mpr ⟨mW5_5, List.forall_mem_cons.mpr ⟨mW5_6, List.forall_mem_cons.mpr ⟨mW5_7, List.forall_mem_cons.mpr ⟨mW5_8, List.forall_mem_cons.mpr ⟨mW5_9, fun _ h => absurd h List.not_mem_nil⟩⟩⟩⟩⟩⟩⟩⟩⟩⟩⟩⟩⟩⟩⟩⟩⟩⟩⟩⟩⟩⟩⟩⟩
set_option maxRecDepth 20000 in
theorem mq_wsX7_init_r5 : ∀ w ∈ wsX7_init_r5, w ∈ wsL_law := List.forall_mem_cons.mpr ⟨mW5_10, List.forall_mem_cons.mpr ⟨mW5_11, List.forall_mem_cons.mpr ⟨mW5_12, List.forall_mem_cons.mpr ⟨mW5_13, List.forall_mem_cons.mpr ⟨mW5_14, List.forall_mem_cons.mpr ⟨mW5_15, List.forall_mem_cons.mpr ⟨mW5_16, List.forall_mem_cons.mpr ⟨mW5_17, List.forall_mem_cons.mpr ⟨mW5_18, List.forall_mem_cons.mpr ⟨mW5_19, List.forall_mem_cons.mpr ⟨mW5_20, List.forall_mem_cons.mpr ⟨mW5_21, List.forall_mem_cons.mpr ⟨mW5_22, List.forall_mem_cons.mpr ⟨mW5_23, List.forall_mem_cons.mpr ⟨mW6_0, List.forall_mem_cons.mpr ⟨mW6_1, List.forall_mem_cons.mpr ⟨mW6_2, List.forall_mem_cons.mpr ⟨mW6_3, List.forall_mem_cons.mpr ⟨mW6_4, List.forall_mem_cons.mpr ⟨mW6_5, List.forall_mem_cons.mpr ⟨mW6_6, List.forall_mem_cons.mpr ⟨mW6_7, List.forall_mem_cons.mpr ⟨mW6_8, List.forall_mem_cons.mpr ⟨mW6_9, fun _ h => absurd h List.not_mem_nil⟩⟩⟩⟩⟩⟩⟩⟩⟩⟩⟩⟩⟩⟩⟩⟩⟩⟩⟩⟩⟩⟩⟩⟩
set_option maxRecDepth 20000 in
theorem mq_wsX7_init_r6 : ∀ w ∈ wsX7_init_r6, w ∈ wsL_law := List.forall_mem_cons.mpr ⟨mW6_10, List.forall_mem_cons.mpr ⟨mW6_11, List.forall_mem_cons.mpr ⟨mW6_12, List.forall_mem_cons.mpr ⟨mW6_13, List.forall_mem_cons.mpr ⟨mW6_14, List.forall_mem_cons.mpr ⟨mW6_15, List.forall_mem_cons.mpr ⟨mW6_16, List.forall_mem_cons.mpr ⟨mW6_17, List.forall_mem_cons.mpr ⟨mW6_18, List.forall_mem_cons.mpr ⟨mW6_19, List.forall_mem_cons.mpr ⟨mW6_20, List.forall_mem_cons.mpr ⟨mW6_21, List.forall_mem_cons.mpr ⟨mW6_22, List.forall_mem_cons.mpr ⟨mW6_23, List.forall_mem_cons.mpr ⟨mW7_0, List.forall_mem_cons.mpr ⟨mW7_1, List.forall_mem_cons.mpr ⟨mW7_2, List.forall_mem_cons.mpr ⟨mW7_3, List.forall_mem_cons.mpr ⟨mW7_4, List.forall_mem_cons.mpr ⟨mW7_5, List.forall_mem_cons.mpr ⟨mW7_6, List.forall_mem_cons.mpr ⟨mW7_7, List.forall_mem_cons.mpr ⟨mW7_8, List.forall_mem_cons.mpr ⟨mW7_9, fun _ h => absurd h List.not_mem_nil⟩⟩⟩⟩⟩⟩⟩⟩⟩⟩⟩⟩⟩⟩⟩⟩⟩⟩⟩⟩⟩⟩⟩⟩
set_option maxRecDepth 20000 in
theorem mq_wsX7_init_r7 : ∀ w ∈ wsX7_init_r7, w ∈ wsL_law := List.forall_mem_cons.mpr ⟨mW7_10, List.forall_mem_cons.mpr ⟨mW7_11, List.forall_mem_cons.mpr ⟨mW7_12, List.forall_mem_cons.mpr ⟨mW7_13, List.forall_mem_cons.mpr ⟨mW7_14, List.forall_mem_cons.mpr ⟨mW7_15, List.forall_mem_cons.mpr ⟨mW7_16, List.forall_mem_cons.mpr ⟨mW7_17, List.forall_mem_cons.mpr ⟨mW7_18, List.forall_mem_cons.mpr ⟨mW7_19, List.forall_mem_cons.mpr ⟨mW7_20, List.forall_mem_cons.mpr ⟨mW7_21, List.forall_mem_cons.mpr ⟨mW7_22, List.forall_mem_cons.mpr ⟨mW7_23, List.forall_mem_cons.mpr ⟨mW8_0, List.forall_mem_cons.mpr ⟨mW8_1, List.forall_mem_cons.mpr ⟨mW8_2, List.forall_mem_cons.mpr ⟨mW8_3, List.forall_mem_cons.mpr ⟨mW8_4, List.forall_mem_cons.mpr ⟨mW8_5, List.forall_mem_cons.mpr ⟨mW8_6, List.forall_mem_cons.mpr ⟨mW8_7, fun _ h => absurd h List.not_mem_nil⟩⟩⟩⟩⟩⟩⟩⟩⟩⟩⟩⟩⟩⟩⟩⟩⟩⟩⟩⟩⟩⟩
theorem ggw_X7_init : ∀ w ∈ wsX7_init, w ∈ wsL_law := List.forall_mem_cons.mpr ⟨mW1_9, List.forall_mem_append.mpr ⟨List.forall_mem_append.mpr ⟨List.forall_mem_append.mpr ⟨List.forall_mem_append.mpr ⟨List.forall_mem_append.mpr ⟨List.forall_mem_append.mpr ⟨List.forall_mem_append.mpr ⟨List.forall_mem_append.mpr ⟨List.forall_mem_append.mpr ⟨mq_wsX7_init_r1, List.forall_mem_append.mpr ⟨mq_wsX7_init_r2, List.forall_mem_append.mpr ⟨mq_wsX7_init_r3, List.forall_mem_append.mpr ⟨mq_wsX7_init_r4, List.forall_mem_append.mpr ⟨mq_wsX7_init_r5, List.forall_mem_append.mpr ⟨mq_wsX7_init_r6, mq_wsX7_init_r7⟩⟩⟩⟩⟩⟩, inlX2⟩, inlX7⟩, inlX1⟩, inlX0⟩, inlX5⟩, inlX6⟩, inlX4⟩, inlX3⟩⟩
set_option maxRecDepth 20000 in
theorem ggL_law_X7_init : GoodIn wsL_law wsX7_init := goodIn_sub ggw_X7_init (by decide +kernel)
set_option maxRecDepth 20000 in
theorem mq_wsX8_init_r1 : ∀ w ∈ wsX8_init_r1, w ∈ wsL_law := List.forall_mem_cons.mpr ⟨mW8_11, List.forall_mem_cons.mpr ⟨mW1_11, List.forall_mem_cons.mpr ⟨mW1_12, List.forall_mem_cons.mpr ⟨mW2_20, List.forall_mem_cons.mpr ⟨mW8_12, List.forall_mem_cons.mpr ⟨mW8_13, List.forall_mem_cons.mpr ⟨mW8_14, List.forall_mem_cons.mpr ⟨mW8_15, List.forall_mem_cons.mpr ⟨mW8_16, List.forall_mem_cons.mpr ⟨mW8_17, List.forall_mem_cons.mpr ⟨mW8_18, List.forall_mem_cons.mpr ⟨mW8_19, List.forall_mem_cons.mpr ⟨mW6_12, List.forall_mem_cons.mpr ⟨mW8_20, List.forall_mem_cons.mpr ⟨mW8_21, List.forall_mem_cons.mpr ⟨mW8_22, List.forall_mem_cons.mpr ⟨mW8_23, List.forall_mem_cons.mpr ⟨mW9_0, List.forall_mem_cons.mpr ⟨mW9_1, List.forall_mem_cons.mpr ⟨mW9_2, List.forall_mem_cons.mpr ⟨mW9_3, List.forall_mem_cons.mpr ⟨mW9_4, List.forall_mem_cons.mpr ⟨mW9_5, List.forall_mem_cons.mpr ⟨mW9_6, fun _ h => absurd h List.not_mem_nil⟩⟩⟩⟩⟩⟩⟩⟩⟩⟩⟩⟩⟩⟩⟩⟩⟩⟩⟩⟩⟩⟩⟩⟩
set_option maxRecDepth 20000 in
theorem mq_wsX8_init_r2 : ∀ w ∈ wsX8_init_r2, w ∈ wsL_law := List.forall_mem_cons.mpr ⟨mW9_7, List.forall_mem_cons.mpr ⟨mW9_8, List.forall_mem_cons.mpr ⟨mW9_9, List.forall_mem_cons.mpr ⟨mW9_10, List.forall_mem_cons.mpr ⟨mW9_11, List.forall_mem_cons.mpr ⟨mW9_12, List.forall_mem_cons.mpr ⟨mW9_13, List.forall_mem_cons.mpr ⟨mW9_14, List.forall_mem_cons.mpr ⟨mW9_15, List.forall_mem_cons.mpr ⟨mW9_16, List.forall_mem_cons.mpr ⟨mW3_19, List.forall_mem_cons.mpr ⟨mW3_20, List.forall_mem_cons.mpr ⟨mW3_21, List.forall_mem_cons.mpr ⟨mW3_22, List.forall_mem_cons.mpr ⟨mW3_23, List.forall_mem_cons.mpr ⟨mW4_0, List.forall_mem_cons.mpr ⟨mW4_1, List.forall_mem_cons.mpr ⟨mW4_2, List.forall_mem_cons.mpr ⟨mW4_3, List.forall_mem_cons.mpr ⟨mW4_4, List.forall_mem_cons.mpr ⟨mW4_5, List.forall_mem_cons.mpr ⟨mW9_17, List.forall_mem_cons.mpr ⟨mW4_7, List.forall_mem_cons.mpr ⟨mW4_8, fun _ h => absurd h List.not_mem_nil⟩⟩⟩⟩⟩⟩⟩⟩⟩⟩⟩⟩⟩⟩⟩⟩⟩⟩⟩⟩⟩⟩⟩⟩
set_option maxRecDepth 20000 in
theorem mq_wsX8_init_r3 : ∀ w ∈ wsX8_init_r3, w ∈ wsL_law := List.forall_mem_cons.mpr ⟨mW4_9, List.forall_mem_cons.mpr ⟨mW4_10, List.forall_mem_cons.mpr ⟨mW4_11, List.forall_mem_cons.mpr ⟨mW4_12, List.forall_mem_cons.mpr ⟨mW4_13, List.forall_mem_cons.mpr ⟨mW4_14, List.forall_mem_cons.mpr ⟨mW4_15, List.forall_mem_cons.mpr ⟨mW4_16, List.forall_mem_cons.mpr ⟨mW4_17, List.forall_mem_cons.mpr ⟨mW4_18, List.forall_mem_cons.mpr ⟨mW4_19, List.forall_mem_cons.mpr ⟨mW4_20, List.forall_mem_cons.mpr ⟨mW4_21, List.forall_mem_cons.mpr ⟨mW4_22, List.forall_mem_cons.mpr ⟨mW4_23, List.forall_mem_cons.mpr ⟨mW5_0, List.forall_mem_cons.mpr ⟨mW5_1, List.forall_mem_cons.mpr ⟨mW5_2, List.forall_mem_cons.mpr ⟨mW5_3, List.forall_mem_cons.mpr ⟨mW5_4, List.forall_mem_cons.mpr ⟨mW5_5, List.forall_mem_cons.mpr ⟨mW5_6, List.forall_mem_cons.mpr ⟨mW5_7, List.forall_mem_cons.mpr ⟨mW5_8, fun _ h => absurd h List.not_mem_nil⟩⟩⟩⟩⟩⟩⟩⟩⟩⟩⟩⟩⟩⟩⟩⟩⟩⟩⟩⟩⟩⟩⟩⟩
set_option maxRecDepth 20000 in
theorem mq_wsX8_init_r4 : ∀ w ∈ wsX8_init_r4, w ∈ wsL_law := List.forall_mem_cons.mpr ⟨mW5_9, List.forall_mem_cons.mpr ⟨mW5_10, List.forall_mem_cons.mpr ⟨mW5_11, List.forall_mem_cons.mpr ⟨mW5_12, List.forall_mem_cons.mpr ⟨mW5_13, List.forall_mem_cons.mpr ⟨mW5_14, List.forall_mem_cons.mpr ⟨mW5_15, List.forall_mem_cons.mpr ⟨mW5_16, List.forall_mem_cons.mpr ⟨mW5_17, List.forall_mem_cons.mpr ⟨mW5_18, List.forall_mem_cons.mpr ⟨mW9_18, List.forall_mem_cons.mpr ⟨mW9_19, List.forall_mem_cons.mpr ⟨mW9_20, List.forall_mem_cons.mpr ⟨mW1_5, List.forall_mem_cons.mpr ⟨mW9_21, List.forall_mem_cons.mpr ⟨mW9_22, List.forall_mem_cons.mpr ⟨mW9_23, List.forall_mem_cons.mpr ⟨mW10_0, List.forall_mem_cons.mpr ⟨mW10_1, List.forall_mem_cons.mpr ⟨mW10_2, List.forall_mem_cons.mpr ⟨mW10_3, List.forall_mem_cons.mpr ⟨mW10_4, List.forall_mem_cons.mpr ⟨mW10_5, List.forall_mem_cons.mpr ⟨mW10_6, fun _ h => absurd h List.not_mem_nil⟩⟩⟩⟩⟩⟩⟩⟩⟩⟩⟩⟩⟩⟩⟩⟩⟩⟩⟩⟩⟩⟩⟩⟩
set_option maxRecDepth 20000 in
theorem mq_wsX8_init_r5 : ∀ w ∈ wsX8_init_r5, w ∈ wsL_law := List.forall_mem_cons.mpr ⟨mW10_7, List.forall_mem_cons.mpr ⟨mW10_8, List.forall_mem_cons.mpr ⟨mW10_9, List.forall_mem_cons.mpr ⟨mW10_10, fun _ h => absurd h List.not_mem_nil⟩⟩⟩⟩
theorem ggw_X8_init : ∀ w ∈ wsX8_init, w ∈ wsL_law := List.forall_mem_cons.mpr ⟨mW8_10, List.forall_mem_append.mpr ⟨List.forall_mem_append.mpr ⟨mq_wsX8_init_r1, List.forall_mem_append.mpr ⟨mq_wsX8_init_r2, List.forall_mem_append.mpr ⟨mq_wsX8_init_r3, List.forall_mem_append.mpr ⟨mq_wsX8_init_r4, mq_wsX8_init_r5⟩⟩⟩⟩, inlX8⟩⟩
set_option maxRecDepth 20000 in
theorem ggL_law_X8_init : GoodIn wsL_law wsX8_init := goodIn_sub ggw_X8_init (by decide +kernel)
set_option maxRecDepth 20000 in
theorem mq_wsX7_pairs_r1 : ∀ w ∈ wsX7_pairs_r1, w ∈ wsL_law := List.forall_mem_cons.mpr ⟨mW1_16, List.forall_mem_cons.mpr ⟨mW10_15, List.forall_mem_cons.mpr ⟨mW10_16, List.forall_mem_cons.mpr ⟨mW10_17, List.forall_mem_cons.mpr ⟨mW10_18, List.forall_mem_cons.mpr ⟨mW10_19, List.forall_mem_cons.mpr ⟨mW1_2, List.forall_mem_cons.mpr ⟨mW10_20, List.forall_mem_cons.mpr ⟨mW2_21, List.forall_mem_cons.mpr ⟨mW10_21, List.forall_mem_cons.mpr ⟨mW10_22, List.forall_mem_cons.mpr ⟨mW3_12, List.forall_mem_cons.mpr ⟨mW3_13, List.forall_mem_cons.mpr ⟨mW3_14, List.forall_mem_cons.mpr ⟨mW10_23, List.forall_mem_cons.mpr ⟨mW11_0, List.forall_mem_cons.mpr ⟨mW11_1, List.forall_mem_cons.mpr ⟨mW11_2, List.forall_mem_cons.mpr ⟨mW11_3, List.forall_mem_cons.mpr ⟨mW2_10, List.forall_mem_cons.mpr ⟨mW2_13, List.forall_mem_cons.mpr ⟨mW11_4, List.forall_mem_cons.mpr ⟨mW11_5, List.forall_mem_cons.mpr ⟨mW11_6, fun _ h => absurd h List.not_mem_nil⟩⟩⟩⟩⟩⟩⟩⟩⟩⟩⟩⟩⟩⟩⟩⟩⟩⟩⟩⟩⟩⟩⟩⟩
set_option maxRecDepth 20000 in
theorem mq_wsX7_pairs_r2 : ∀ w ∈ wsX7_pairs_r2, w ∈ wsL_law := List.forall_mem_cons.mpr ⟨mW2_9, List.forall_mem_cons.mpr ⟨mW11_7, List.forall_mem_cons.mpr ⟨mW7_6, List.forall_mem_cons.mpr ⟨mW7_7, List.forall_mem_cons.mpr ⟨mW7_8, List.forall_mem_cons.mpr ⟨mW7_9, List.forall_mem_cons.mpr ⟨mW7_10, List.forall_mem_cons.mpr ⟨mW7_11, List.forall_mem_cons.mpr ⟨mW7_13, List.forall_mem_cons.mpr ⟨mW7_14, List.forall_mem_cons.mpr ⟨mW7_16, List.forall_mem_cons.mpr ⟨mW7_17, List.forall_mem_cons.mpr ⟨mW7_18, List.forall_mem_cons.mpr ⟨mW7_19, List.forall_mem_cons.mpr ⟨mW7_4, List.forall_mem_cons.mpr ⟨mW7_5, List.forall_mem_cons.mpr ⟨mW7_20, List.forall_mem_cons.mpr ⟨mW11_8, List.forall_mem_cons.mpr ⟨mW11_9, List.forall_mem_cons.mpr ⟨mW11_10, List.forall_mem_cons.mpr ⟨mW1_20, List.forall_mem_cons.mpr ⟨mW11_11, List.forall_mem_cons.mpr ⟨mW5_23, List.forall_mem_cons.mpr ⟨mW6_0, fun _ h => absurd h List.not_mem_nil⟩⟩⟩⟩⟩⟩⟩⟩⟩⟩⟩⟩⟩⟩⟩⟩⟩⟩⟩⟩⟩⟩⟩⟩
set_option maxRecDepth 20000 in
theorem mq_wsX7_pairs_r3 : ∀ w ∈ wsX7_pairs_r3, w ∈ wsL_law := List.forall_mem_cons.mpr ⟨mW6_1, List.forall_mem_cons.mpr ⟨mW6_2, List.forall_mem_cons.mpr ⟨mW11_12, List.forall_mem_cons.mpr ⟨mW11_13, List.forall_mem_cons.mpr ⟨mW11_14, List.forall_mem_cons.mpr ⟨mW11_15, List.forall_mem_cons.mpr ⟨mW2_2, List.forall_mem_cons.mpr ⟨mW2_6, List.forall_mem_cons.mpr ⟨mW11_16, List.forall_mem_cons.mpr ⟨mW2_12, List.forall_mem_cons.mpr ⟨mW11_17, List.forall_mem_cons.mpr ⟨mW11_18, List.forall_mem_cons.mpr ⟨mW11_19, List.forall_mem_cons.mpr ⟨mW2_1, List.forall_mem_cons.mpr ⟨mW11_20, List.forall_mem_cons.mpr ⟨mW6_6, List.forall_mem_cons.mpr ⟨mW6_7, List.forall_mem_cons.mpr ⟨mW11_21, List.forall_mem_cons.mpr ⟨mW11_22, List.forall_mem_cons.mpr ⟨mW11_23, List.forall_mem_cons.mpr ⟨mW12_0, List.forall_mem_cons.mpr ⟨mW12_1, List.forall_mem_cons.mpr ⟨mW12_2, List.forall_mem_cons.mpr ⟨mW6_8, fun _ h => absurd h List.not_mem_nil⟩⟩⟩⟩⟩⟩⟩⟩⟩⟩⟩⟩⟩⟩⟩⟩⟩⟩⟩⟩⟩⟩⟩⟩
set_option maxRecDepth 20000 in
theorem mq_wsX7_pairs_r4 : ∀ w ∈ wsX7_pairs_r4, w ∈ wsL_law := List.forall_mem_cons.mpr ⟨mW6_9, List.forall_mem_cons.mpr ⟨mW6_10, List.forall_mem_cons.mpr ⟨mW6_11, List.forall_mem_cons.mpr ⟨mW6_13, List.forall_mem_cons.mpr ⟨mW12_3, List.forall_mem_cons.mpr ⟨mW12_4, List.forall_mem_cons.mpr ⟨mW12_5, List.forall_mem_cons.mpr ⟨mW12_6, List.forall_mem_cons.mpr ⟨mW12_7, List.forall_mem_cons.mpr ⟨mW12_8, List.forall_mem_cons.mpr ⟨mW12_9, fun _ h => absurd h List.not_mem_nil⟩⟩⟩⟩⟩⟩⟩⟩⟩⟩⟩
theorem ggw_X7_pairs : ∀ w ∈ wsX7_pairs, w ∈ wsL_law := List.forall_mem_cons.mpr ⟨mW10_14, List.forall_mem_append.mpr ⟨List.forall_mem_append.mpr ⟨List.forall_mem_append.mpr ⟨List.forall_mem_append.mpr ⟨List.forall_mem_append.mpr ⟨List.forall_mem_append.mpr ⟨List.forall_mem_append.mpr ⟨mq_wsX7_pairs_r1, List.forall_mem_append.mpr ⟨mq_wsX7_pairs_r2, List.forall_mem_append.mpr ⟨mq_wsX7_pairs_r3, mq_wsX7_pairs_r4⟩⟩⟩, inlX7⟩, inlX2⟩, inlX6⟩, inlX1⟩, inlX5⟩, inlX0⟩⟩
set_option maxRecDepth 20000 in
theorem ggL_law_X7_pairs : GoodIn wsL_law wsX7_pairs := goodIn_sub ggw_X7_pairs (by decide +kernel)
set_option maxRecDepth 20000 in
theorem mq_wsX8_pairs_r1 : ∀ w ∈ wsX8_pairs_r1, w ∈ wsL_law := List.forall_mem_cons.mpr ⟨mW12_14, List.forall_mem_cons.mpr ⟨mW12_15, List.forall_mem_cons.mpr ⟨mW12_16, List.forall_mem_cons.mpr ⟨mW8_12, List.forall_mem_cons.mpr ⟨mW12_17, List.forall_mem_cons.mpr ⟨mW12_18, List.forall_mem_cons.mpr ⟨mW1_5, List.forall_mem_cons.mpr ⟨mW12_19, List.forall_mem_cons.mpr ⟨mW12_20, List.forall_mem_cons.mpr ⟨mW12_21, List.forall_mem_cons.mpr ⟨mW12_22, List.forall_mem_cons.mpr ⟨mW12_23, List.forall_mem_cons.mpr ⟨mW8_15, List.forall_mem_cons.mpr ⟨mW13_0, List.forall_mem_cons.mpr ⟨mW13_1, List.forall_mem_cons.mpr ⟨mW13_2, List.forall_mem_cons.mpr ⟨mW13_3, List.forall_mem_cons.mpr ⟨mW13_4, List.forall_mem_cons.mpr ⟨mW9_18, List.forall_mem_cons.mpr ⟨mW9_19, List.forall_mem_cons.mpr ⟨mW9_20, List.forall_mem_cons.mpr ⟨mW9_21, List.forall_mem_cons.mpr ⟨mW9_22, List.forall_mem_cons.mpr ⟨mW9_23, fun _ h => absurd h List.not_mem_nil⟩⟩⟩⟩⟩⟩⟩⟩⟩⟩⟩⟩⟩⟩⟩⟩⟩⟩⟩⟩⟩⟩⟩⟩
set_option maxRecDepth 20000 in
theorem mq_wsX8_pairs_r2 : ∀ w ∈ wsX8_pairs_r2, w ∈ wsL_law := List.forall_mem_cons.mpr ⟨mW10_0, List.forall_mem_cons.mpr ⟨mW10_1, List.forall_mem_cons.mpr ⟨mW10_2, List.forall_mem_cons.mpr ⟨mW10_3, List.forall_mem_cons.mpr ⟨mW10_4, List.forall_mem_cons.mpr ⟨mW10_5, List.forall_mem_cons.mpr ⟨mW10_6, List.forall_mem_cons.mpr ⟨mW10_7, List.forall_mem_cons.mpr ⟨mW10_8, List.forall_mem_cons.mpr ⟨mW10_9, List.forall_mem_cons.mpr ⟨mW10_10, List.forall_mem_cons.mpr ⟨mW8_16, List.forall_mem_cons.mpr ⟨mW8_17, List.forall_mem_cons.mpr ⟨mW8_18, List.forall_mem_cons.mpr ⟨mW8_20, List.forall_mem_cons.mpr ⟨mW8_19, fun _ h => absurd h List.not_mem_nil⟩⟩⟩⟩⟩⟩⟩⟩⟩⟩⟩⟩⟩⟩⟩⟩
theorem ggw_X8_pairs : ∀ w ∈ wsX8_pairs, w ∈ wsL_law := List.forall_mem_cons.mpr ⟨mW12_13, List.forall_mem_append.mpr ⟨List.forall_mem_append.mpr ⟨mq_wsX8_pairs_r1, mq_wsX8_pairs_r2⟩, inlX8⟩⟩
set_option maxRecDepth 20000 in
theorem ggL_law_X8_pairs : GoodIn wsL_law wsX8_pairs := goodIn_sub ggw_X8_pairs (by decide +kernel)
set_option maxRecDepth 20000 in
theorem mq_wsX7_lay_r1 : ∀ w ∈ wsX7_lay_r1, w ∈ wsL_law := List.forall_mem_cons.mpr ⟨mW1_16, List.forall_mem_cons.mpr ⟨mW10_16, List.forall_mem_cons.mpr ⟨mW13_9, List.forall_mem_cons.mpr ⟨mW13_10, List.forall_mem_cons.mpr ⟨mW13_11, List.forall_mem_cons.mpr ⟨mW1_2, List.forall_mem_cons.mpr ⟨mW13_12, List.forall_mem_cons.mpr ⟨mW10_15, List.forall_mem_cons.mpr ⟨mW10_17, List.forall_mem_cons.mpr ⟨mW10_18, List.forall_mem_cons.mpr ⟨mW10_19, List.forall_mem_cons.mpr ⟨mW10_20, List.forall_mem_cons.mpr ⟨mW2_21, List.forall_mem_cons.mpr ⟨mW10_21, List.forall_mem_cons.mpr ⟨mW13_13, List.forall_mem_cons.mpr ⟨mW13_14, List.forall_mem_cons.mpr ⟨mW13_15, List.forall_mem_cons.mpr ⟨mW13_16, List.forall_mem_cons.mpr ⟨mW10_23, List.forall_mem_cons.mpr ⟨mW11_0, List.forall_mem_cons.mpr ⟨mW11_1, List.forall_mem_cons.mpr ⟨mW11_2, List.forall_mem_cons.mpr ⟨mW11_3, List.forall_mem_cons.mpr ⟨mW2_10, fun _ h => absurd h List.not_mem_nil⟩⟩⟩⟩⟩⟩⟩⟩⟩⟩⟩⟩⟩⟩⟩⟩⟩⟩⟩⟩⟩⟩⟩⟩
set_option maxRecDepth 20000 in
theorem mq_wsX7_lay_r2 : ∀ w ∈ wsX7_lay_r2, w ∈ wsL_law := List.forall_mem_cons.mpr ⟨mW2_13, List.forall_mem_cons.mpr ⟨mW11_4, List.forall_mem_cons.mpr ⟨mW11_5, List.forall_mem_cons.mpr ⟨mW11_6, List.forall_mem_cons.mpr ⟨mW2_9, List.forall_mem_cons.mpr ⟨mW11_7, List.forall_mem_cons.mpr ⟨mW7_6, List.forall_mem_cons.mpr ⟨mW7_7, List.forall_mem_cons.mpr ⟨mW7_8, List.forall_mem_cons.mpr ⟨mW7_9, List.forall_mem_cons.mpr ⟨mW7_10, List.forall_mem_cons.mpr ⟨mW7_11, List.forall_mem_cons.mpr ⟨mW7_13, List.forall_mem_cons.mpr ⟨mW7_14, List.forall_mem_cons.mpr ⟨mW7_16, List.forall_mem_cons.mpr ⟨mW7_17, List.forall_mem_cons.mpr ⟨mW7_18, List.forall_mem_cons.mpr ⟨mW7_19, List.forall_mem_cons.mpr ⟨mW7_4, List.forall_mem_cons.mpr ⟨mW7_5, List.forall_mem_cons.mpr ⟨mW7_20, List.forall_mem_cons.mpr ⟨mW3_12, List.forall_mem_cons.mpr ⟨mW3_13, List.forall_mem_cons.mpr ⟨mW3_14, fun _ h => absurd h List.not_mem_nil⟩⟩⟩⟩⟩⟩⟩⟩⟩⟩⟩⟩⟩⟩⟩⟩⟩⟩⟩⟩⟩⟩⟩⟩
set_option maxRecDepth 20000 in
theorem mq_wsX7_lay_r3 : ∀ w ∈ wsX7_lay_r3, w ∈ wsL_law := List.forall_mem_cons.mpr ⟨mW11_8, List.forall_mem_cons.mpr ⟨mW11_9, List.forall_mem_cons.mpr ⟨mW11_10, List.forall_mem_cons.mpr ⟨mW1_20, List.forall_mem_cons.mpr ⟨mW11_11, List.forall_mem_cons.mpr ⟨mW5_23, List.forall_mem_cons.mpr ⟨mW6_0, List.forall_mem_cons.mpr ⟨mW6_1, List.forall_mem_cons.mpr ⟨mW6_2, List.forall_mem_cons.mpr ⟨mW11_12, List.forall_mem_cons.mpr ⟨mW11_13, List.forall_mem_cons.mpr ⟨mW11_14, List.forall_mem_cons.mpr ⟨mW11_15, List.forall_mem_cons.mpr ⟨mW2_2, List.forall_mem_cons.mpr ⟨mW2_6, List.forall_mem_cons.mpr ⟨mW11_16, List.forall_mem_cons.mpr ⟨mW2_12, List.forall_mem_cons.mpr ⟨mW11_17, List.forall_mem_cons.mpr ⟨mW11_18, List.forall_mem_cons.mpr ⟨mW11_19, List.forall_mem_cons.mpr ⟨mW2_1, List.forall_mem_cons.mpr ⟨mW11_20, List.forall_mem_cons.mpr ⟨mW6_6, List.forall_mem_cons.mpr ⟨mW6_7, fun _ h => absurd h List.not_mem_nil⟩⟩⟩⟩⟩⟩⟩⟩⟩⟩⟩⟩⟩⟩⟩⟩⟩⟩⟩⟩⟩⟩⟩⟩
set_option maxRecDepth 20000 in
theorem mq_wsX7_lay_r4 : ∀ w ∈ wsX7_lay_r4, w ∈ wsL_law := List.forall_mem_cons.mpr ⟨mW11_21, List.forall_mem_cons.mpr ⟨mW11_22, List.forall_mem_cons.mpr ⟨mW11_23, List.forall_mem_cons.mpr ⟨mW12_0, List.forall_mem_cons.mpr ⟨mW12_1, List.forall_mem_cons.mpr ⟨mW12_2, List.forall_mem_cons.mpr ⟨mW6_8, List.forall_mem_cons.mpr ⟨mW6_9, List.forall_mem_cons.mpr ⟨mW6_10, List.forall_mem_cons.mpr ⟨mW6_11, List.forall_mem_cons.mpr ⟨mW6_13, List.forall_mem_cons.mpr ⟨mW12_3, List.forall_mem_cons.mpr ⟨mW12_4, List.forall_mem_cons.mpr ⟨mW12_5, List.forall_mem_cons.mpr ⟨mW12_6, List.forall_mem_cons.mpr ⟨mW12_7, List.forall_mem_cons.mpr ⟨mW12_8, List.forall_mem_cons.mpr ⟨mW12_9, fun _ h => absurd h List.not_mem_nil⟩⟩⟩⟩⟩⟩⟩⟩⟩⟩⟩⟩⟩⟩⟩⟩⟩⟩
theorem ggw_X7_lay : ∀ w ∈ wsX7_lay, w ∈ wsL_law := List.forall_mem_cons.mpr ⟨mW13_8, List.forall_mem_append.mpr ⟨List.forall_mem_append.mpr ⟨List.forall_mem_append.mpr ⟨List.forall_mem_append.mpr ⟨List.forall_mem_append.mpr ⟨List.forall_mem_append.mpr ⟨List.forall_mem_append.mpr ⟨mq_wsX7_lay_r1, List.forall_mem_append.mpr ⟨mq_wsX7_lay_r2, List.forall_mem_append.mpr ⟨mq_wsX7_lay_r3, mq_wsX7_lay_r4⟩⟩⟩, inlX7⟩, inlX2⟩, inlX6⟩, inlX1⟩, inlX5⟩, inlX0⟩⟩
set_option maxRecDepth 20000 in
theorem ggL_law_X7_lay : GoodIn wsL_law wsX7_lay := goodIn_sub ggw_X7_lay (by decide +kernel)
set_option maxRecDepth 20000 in
theorem mq_wsX8_lay_r1 : ∀ w ∈ wsX8_lay_r1, w ∈ wsL_law := List.forall_mem_cons.mpr ⟨mW13_21, List.forall_mem_cons.mpr ⟨mW13_22, List.forall_mem_cons.mpr ⟨mW12_16, List.forall_mem_cons.mpr ⟨mW13_23, List.forall_mem_cons.mpr ⟨mW8_12, List.forall_mem_cons.mpr ⟨mW14_0, List.forall_mem_cons.mpr ⟨mW14_1, List.forall_mem_cons.mpr ⟨mW14_2, List.forall_mem_cons.mpr ⟨mW1_5, List.forall_mem_cons.mpr ⟨mW14_3, List.forall_mem_cons.mpr ⟨mW14_4, List.forall_mem_cons.mpr ⟨mW12_17, List.forall_mem_cons.mpr ⟨mW12_18, List.forall_mem_cons.mpr ⟨mW12_19, List.forall_mem_cons.mpr ⟨mW9_23, List.forall_mem_cons.mpr ⟨mW10_0, List.forall_mem_cons.mpr ⟨mW10_1, List.forall_mem_cons.mpr ⟨mW10_2, List.forall_mem_cons.mpr ⟨mW12_20, List.forall_mem_cons.mpr ⟨mW12_21, List.forall_mem_cons.mpr ⟨mW12_22, List.forall_mem_cons.mpr ⟨mW12_23, List.forall_mem_cons.mpr ⟨mW8_15, List.forall_mem_cons.mpr ⟨mW13_0, fun _ h => absurd h List.not_mem_nil⟩⟩⟩⟩⟩⟩⟩⟩⟩⟩⟩⟩⟩⟩⟩⟩⟩⟩⟩⟩⟩⟩⟩⟩
set_option maxRecDepth 20000 in
theorem mq_wsX8_lay_r2 : ∀ w ∈ wsX8_lay_r2, w ∈ wsL_law := List.forall_mem_cons.mpr ⟨mW10_3, List.forall_mem_cons.mpr ⟨mW10_4, List.forall_mem_cons.mpr ⟨mW10_5, List.forall_mem_cons.mpr ⟨mW10_6, List.forall_mem_cons.mpr ⟨mW13_1, List.forall_mem_cons.mpr ⟨mW13_2, List.forall_mem_cons.mpr ⟨mW13_3, List.forall_mem_cons.mpr ⟨mW13_4, List.forall_mem_cons.mpr ⟨mW9_18, List.forall_mem_cons.mpr ⟨mW9_19, List.forall_mem_cons.mpr ⟨mW9_20, List.forall_mem_cons.mpr ⟨mW9_21, List.forall_mem_cons.mpr ⟨mW9_22, List.forall_mem_cons.mpr ⟨mW10_7, List.forall_mem_cons.mpr ⟨mW10_8, List.forall_mem_cons.mpr ⟨mW10_9, List.forall_mem_cons.mpr ⟨mW10_10, List.forall_mem_cons.mpr ⟨mW8_16, List.forall_mem_cons.mpr ⟨mW8_17, List.forall_mem_cons.mpr ⟨mW8_18, List.forall_mem_cons.mpr ⟨mW8_20, List.forall_mem_cons.mpr ⟨mW8_19, fun _ h => absurd h List.not_mem_nil⟩⟩⟩⟩⟩⟩⟩⟩⟩⟩⟩⟩⟩⟩⟩⟩⟩⟩⟩⟩⟩⟩
theorem ggw_X8_lay : ∀ w ∈ wsX8_lay, w ∈ wsL_law := List.forall_mem_cons.mpr ⟨mW13_20, List.forall_mem_append.mpr ⟨List.forall_mem_append.mpr ⟨mq_wsX8_lay_r1, mq_wsX8_lay_r2⟩, inlX8⟩⟩
set_option maxRecDepth 20000 in
theorem ggL_law_X8_lay : GoodIn wsL_law wsX8_lay := goodIn_sub ggw_X8_lay (by decide +kernel)
theorem ggw_X7_look : ∀ w ∈ wsX7_look, w ∈ wsL_law := List.forall_mem_cons.mpr ⟨mW14_8, List.forall_mem_append.mpr ⟨List.forall_mem_append.mpr ⟨(List.forall_mem_cons.mpr ⟨mW1_16, List.forall_mem_cons.mpr ⟨mW10_16, List.forall_mem_cons.mpr ⟨mW13_9, List.forall_mem_cons.mpr ⟨mW13_10, List.forall_mem_cons.mpr ⟨mW13_11, List.forall_mem_cons.mpr ⟨mW1_2, List.forall_mem_cons.mpr ⟨mW13_12, List.forall_mem_cons.mpr ⟨mW10_15, List.forall_mem_cons.mpr ⟨mW10_17, List.forall_mem_cons.mpr ⟨mW10_18, List.forall_mem_cons.mpr ⟨mW10_19, List.forall_mem_cons.mpr ⟨mW10_20, List.forall_mem_cons.mpr ⟨mW2_21, List.forall_mem_cons.mpr ⟨mW10_21, fun _ h => absurd h List.not_mem_nil⟩⟩⟩⟩⟩⟩⟩⟩⟩⟩⟩⟩⟩⟩), inlX7⟩, inlX2⟩⟩
set_option maxRecDepth 20000 in
theorem ggL_law_X7_look : GoodIn wsL_law wsX7_look := goodIn_sub ggw_X7_look (by decide +kernel)
set_option maxRecDepth 20000 in
theorem mq_wsX8_look_r1 : ∀ w ∈ wsX8_look_r1, w ∈ wsL_law := List.forall_mem_cons.mpr ⟨mW12_16, List.forall_mem_cons.mpr ⟨mW14_0, List.forall_mem_cons.mpr ⟨mW14_1, List.forall_mem_cons.mpr ⟨mW14_2, List.forall_mem_cons.mpr ⟨mW1_5, List.forall_mem_cons.mpr ⟨mW14_3, List.forall_mem_cons.mpr ⟨mW14_4, List.forall_mem_cons.mpr ⟨mW12_17, List.forall_mem_cons.mpr ⟨mW12_18, List.forall_mem_cons.mpr ⟨mW12_19, List.forall_mem_cons.mpr ⟨mW9_23, List.forall_mem_cons.mpr ⟨mW10_0, List.forall_mem_cons.mpr ⟨mW10_1, List.forall_mem_cons.mpr ⟨mW10_2, List.forall_mem_cons.mpr ⟨mW8_12, List.forall_mem_cons.mpr ⟨mW10_3, List.forall_mem_cons.mpr ⟨mW10_4, List.forall_mem_cons.mpr ⟨mW10_5, List.forall_mem_cons.mpr ⟨mW10_6, List.forall_mem_cons.mpr ⟨mW12_20, List.forall_mem_cons.mpr ⟨mW12_21, List.forall_mem_cons.mpr ⟨mW12_22, List.forall_mem_cons.mpr ⟨mW12_23, List.forall_mem_cons.mpr ⟨mW8_15, fun _ h => absurd h List.not_mem_nil⟩⟩⟩⟩⟩⟩⟩⟩⟩⟩⟩⟩⟩⟩⟩⟩⟩⟩⟩⟩⟩⟩⟩⟩
set_option maxRecDepth 20000 in
theorem mq_wsX8_look_r2 : ∀ w ∈ wsX8_look_r2, w ∈ wsL_law := List.forall_mem_cons.mpr ⟨mW13_0, fun _ h => absurd h List.not_mem_nil⟩
theorem ggw_X8_look : ∀ w ∈ wsX8_look, w ∈ wsL_law := List.forall_mem_cons.mpr ⟨mW14_12, List.forall_mem_append.mpr ⟨List.forall_mem_append.mpr ⟨mq_wsX8_look_r1, mq_wsX8_look_r2⟩, inlX8⟩⟩
set_option maxRecDepth 20000 in
theorem ggL_law_X8_look : GoodIn wsL_law wsX8_look := goodIn_sub ggw_X8_look (by decide +kernel)
theorem ggw_X7_feed : ∀ w ∈ wsX7_feed, w ∈ wsL_law := List.forall_mem_cons.mpr ⟨mW14_16, List.forall_mem_append.mpr ⟨List.forall_mem_append.mpr ⟨(List.forall_mem_cons.mpr ⟨mW2_17, List.forall_mem_cons.mpr ⟨mW14_17, List.forall_mem_cons.mpr ⟨mW14_18, List.forall_mem_cons.mpr ⟨mW10_17, List.forall_mem_cons.mpr ⟨mW10_18, List.forall_mem_cons.mpr ⟨mW10_19, List.forall_mem_cons.mpr ⟨mW1_2, List.forall_mem_cons.mpr ⟨mW10_20, List.forall_mem_cons.mpr ⟨mW2_21, List.forall_mem_cons.mpr ⟨mW10_21, fun _ h => absurd h List.not_mem_nil⟩⟩⟩⟩⟩⟩⟩⟩⟩⟩), inlX7⟩, inlX4⟩⟩
set_option maxRecDepth 20000 in
theorem ggL_law_X7_feed : GoodIn wsL_law wsX7_feed := goodIn_sub ggw_X7_feed (by decide +kernel)
theorem ggw_X8_feed : ∀ w ∈ wsX8_feed, w ∈ wsL_law := List.forall_mem_cons.mpr ⟨mW14_22, List.forall_mem_append.mpr ⟨(List.forall_mem_cons.mpr ⟨mW14_23, List.forall_mem_cons.mpr ⟨mW12_16, List.forall_mem_cons.mpr ⟨mW15_0, List.forall_mem_cons.mpr ⟨mW15_1, List.forall_mem_cons.mpr ⟨mW8_21, List.forall_mem_cons.mpr ⟨mW12_17, List.forall_mem_cons.mpr ⟨mW12_18, List.forall_mem_cons.mpr ⟨mW1_5, List.forall_mem_cons.mpr ⟨mW12_19, List.forall_mem_cons.mpr ⟨mW12_20, List.forall_mem_cons.mpr ⟨mW12_21, List.forall_mem_cons.mpr ⟨mW12_22, List.forall_mem_cons.mpr ⟨mW12_23, List.forall_mem_cons.mpr ⟨mW8_15, List.forall_mem_cons.mpr ⟨mW13_0, fun _ h => absurd h List.not_mem_nil⟩⟩⟩⟩⟩⟩⟩⟩⟩⟩⟩⟩⟩⟩⟩), inlX8⟩⟩
set_option maxRecDepth 20000 in
theorem ggL_law_X8_feed : GoodIn wsL_law wsX8_feed := goodIn_sub ggw_X8_feed (by decide +kernel)
set_option maxRecDepth 20000 in
theorem mq_wsX7_read_r1 : ∀ w ∈ wsX7_read_r1, w ∈ wsL_law := List.forall_mem_cons.mpr ⟨mW2_17, List.forall_mem_cons.mpr ⟨mW1_16, List.forall_mem_cons.mpr ⟨mW10_15, List.forall_mem_cons.mpr ⟨mW14_17, List.forall_mem_cons.mpr ⟨mW2_2, List.forall_mem_cons.mpr ⟨mW15_6, List.forall_mem_cons.mpr ⟨mW15_7, List.forall_mem_cons.mpr ⟨mW15_8, List.forall_mem_cons.mpr ⟨mW15_9, List.forall_mem_cons.mpr ⟨mW2_16, List.forall_mem_cons.mpr ⟨mW15_10, List.forall_mem_cons.mpr ⟨mW8_1, List.forall_mem_cons.mpr ⟨mW8_0, List.forall_mem_cons.mpr ⟨mW15_11, List.forall_mem_cons.mpr ⟨mW15_12, List.forall_mem_cons.mpr ⟨mW15_13, List.forall_mem_cons.mpr ⟨mW15_14, List.forall_mem_cons.mpr ⟨mW15_15, List.forall_mem_cons.mpr ⟨mW15_16, List.forall_mem_cons.mpr ⟨mW3_12, List.forall_mem_cons.mpr ⟨mW3_13, List.forall_mem_cons.mpr ⟨mW3_14, List.forall_mem_cons.mpr ⟨mW10_23, List.forall_mem_cons.mpr ⟨mW11_0, fun _ h => absurd h List.not_mem_nil⟩⟩⟩⟩⟩⟩⟩⟩⟩⟩⟩⟩⟩⟩⟩⟩⟩⟩⟩⟩⟩⟩⟩⟩
set_option maxRecDepth 20000 in
theorem mq_wsX7_read_r2 : ∀ w ∈ wsX7_read_r2, w ∈ wsL_law := List.forall_mem_cons.mpr ⟨mW11_1, List.forall_mem_cons.mpr ⟨mW1_2, List.forall_mem_cons.mpr ⟨mW11_2, List.forall_mem_cons.mpr ⟨mW11_3, List.forall_mem_cons.mpr ⟨mW2_10, List.forall_mem_cons.mpr ⟨mW2_13, List.forall_mem_cons.mpr ⟨mW11_4, List.forall_mem_cons.mpr ⟨mW11_5, List.forall_mem_cons.mpr ⟨mW11_6, List.forall_mem_cons.mpr ⟨mW2_9, List.forall_mem_cons.mpr ⟨mW11_7, List.forall_mem_cons.mpr ⟨mW7_6, List.forall_mem_cons.mpr ⟨mW7_7, List.forall_mem_cons.mpr ⟨mW7_8, List.forall_mem_cons.mpr ⟨mW7_9, List.forall_mem_cons.mpr ⟨mW7_10, List.forall_mem_cons.mpr ⟨mW7_11, List.forall_mem_cons.mpr ⟨mW7_13, List.forall_mem_cons.mpr ⟨mW7_14, List.forall_mem_cons.mpr ⟨mW7_16, List.forall_mem_cons.mpr ⟨mW7_17, List.forall_mem_cons.mpr ⟨mW7_18, List.forall_mem_cons.mpr ⟨mW7_19, List.forall_mem_cons.mpr ⟨mW7_4, fun _ h => absurd h List.not_mem_nil⟩⟩⟩⟩⟩⟩⟩⟩⟩⟩⟩⟩⟩⟩⟩⟩⟩⟩⟩⟩⟩⟩⟩⟩
set_option maxRecDepth 20000 in
theorem mq_wsX7_read_r3 : ∀ w ∈ wsX7_read_r3, w ∈ wsL_law := List.forall_mem_cons.mpr ⟨mW7_5, List.forall_mem_cons.mpr ⟨mW7_20, List.forall_mem_cons.mpr ⟨mW11_8, List.forall_mem_cons.mpr ⟨mW11_9, List.forall_mem_cons.mpr ⟨mW11_10, List.forall_mem_cons.mpr ⟨mW1_20, List.forall_mem_cons.mpr ⟨mW11_11, List.forall_mem_cons.mpr ⟨mW5_23, List.forall_mem_cons.mpr ⟨mW6_0, List.forall_mem_cons.mpr ⟨mW6_1, List.forall_mem_cons.mpr ⟨mW6_2, List.forall_mem_cons.mpr ⟨mW11_12, List.forall_mem_cons.mpr ⟨mW11_13, List.forall_mem_cons.mpr ⟨mW11_14, List.forall_mem_cons.mpr ⟨mW11_15, List.forall_mem_cons.mpr ⟨mW2_6, List.forall_mem_cons.mpr ⟨mW11_16, List.forall_mem_cons.mpr ⟨mW2_12, List.forall_mem_cons.mpr ⟨mW11_17, List.forall_mem_cons.mpr ⟨mW11_18, List.forall_mem_cons.mpr ⟨mW11_19, List.forall_mem_cons.mpr ⟨mW2_1, List.forall_mem_cons.mpr ⟨mW11_20, List.forall_mem_cons.mpr ⟨mW6_6, fun _ h => absurd h List.not_mem_nil⟩⟩⟩⟩⟩⟩⟩⟩⟩⟩⟩⟩⟩⟩⟩⟩⟩⟩⟩⟩⟩⟩⟩⟩
set_option maxRecDepth 20000 in
theorem mq_wsX7_read_r4 : ∀ w ∈ wsX7_read_r4, w ∈ wsL_law := List.forall_mem_cons.mpr ⟨mW6_7, List.forall_mem_cons.mpr ⟨mW11_21, List.forall_mem_cons.mpr ⟨mW11_22, List.forall_mem_cons.mpr ⟨mW11_23, List.forall_mem_cons.mpr ⟨mW12_0, List.forall_mem_cons.mpr ⟨mW12_1, List.forall_mem_cons.mpr ⟨mW12_2, List.forall_mem_cons.mpr ⟨mW6_8, List.forall_mem_cons.mpr ⟨mW6_9, List.forall_mem_cons.mpr ⟨mW6_10, List.forall_mem_cons.mpr ⟨mW6_11, List.forall_mem_cons.mpr ⟨mW6_13, List.forall_mem_cons.mpr ⟨mW12_3, List.forall_mem_cons.mpr ⟨mW12_4, List.forall_mem_cons.mpr ⟨mW12_5, List.forall_mem_cons.mpr ⟨mW12_6, List.forall_mem_cons.mpr ⟨mW12_7, List.forall_mem_cons.mpr ⟨mW12_8, List.forall_mem_cons.mpr ⟨mW12_9, fun _ h => absurd h List.not_mem_nil⟩⟩⟩⟩⟩⟩⟩⟩⟩⟩⟩⟩⟩⟩⟩⟩⟩⟩⟩
theorem ggw_X7_read : ∀ w ∈ wsX7_read, w ∈ wsL_law := List.forall_mem_cons.mpr ⟨mW15_5, List.forall_mem_append.mpr ⟨List.forall_mem_append.mpr ⟨List.forall_mem_append.mpr ⟨List.forall_mem_append.mpr ⟨List.forall_mem_append.mpr ⟨List.forall_mem_append.mpr ⟨List.forall_mem_append.mpr ⟨List.forall_mem_append.mpr ⟨mq_wsX7_read_r1, List.forall_mem_append.mpr ⟨mq_wsX7_read_r2, List.forall_mem_append.mpr ⟨mq_wsX7_read_r3, mq_wsX7_read_r4⟩⟩⟩, inlX7⟩, inlX2⟩, inlX4⟩, inlX0⟩, inlX6⟩, inlX1⟩, inlX5⟩⟩
set_option maxRecDepth 20000 in
theorem ggL_law_X7_read : GoodIn wsL_law wsX7_read := goodIn_sub ggw_X7_read (by decide +kernel)
set_option maxRecDepth 20000 in
theorem mq_wsX8_read_r1 : ∀ w ∈ wsX8_read_r1, w ∈ wsL_law := List.forall_mem_cons.mpr ⟨mW15_0, List.forall_mem_cons.mpr ⟨mW8_12, List.forall_mem_cons.mpr ⟨mW8_21, List.forall_mem_cons.mpr ⟨mW9_22, List.forall_mem_cons.mpr ⟨mW15_21, List.forall_mem_cons.mpr ⟨mW15_22, List.forall_mem_cons.mpr ⟨mW15_23, List.forall_mem_cons.mpr ⟨mW1_5, List.forall_mem_cons.mpr ⟨mW16_0, List.forall_mem_cons.mpr ⟨mW16_1, List.forall_mem_cons.mpr ⟨mW16_2, List.forall_mem_cons.mpr ⟨mW9_23, List.forall_mem_cons.mpr ⟨mW10_0, List.forall_mem_cons.mpr ⟨mW10_1, List.forall_mem_cons.mpr ⟨mW10_2, List.forall_mem_cons.mpr ⟨mW12_17, List.forall_mem_cons.mpr ⟨mW12_18, List.forall_mem_cons.mpr ⟨mW12_19, List.forall_mem_cons.mpr ⟨mW13_1, List.forall_mem_cons.mpr ⟨mW13_2, List.forall_mem_cons.mpr ⟨mW13_3, List.forall_mem_cons.mpr ⟨mW13_4, List.forall_mem_cons.mpr ⟨mW9_18, List.forall_mem_cons.mpr ⟨mW9_19, fun _ h => absurd h List.not_mem_nil⟩⟩⟩⟩⟩⟩⟩⟩⟩⟩⟩⟩⟩⟩⟩⟩⟩⟩⟩⟩⟩⟩⟩⟩
set_option maxRecDepth 20000 in
theorem mq_wsX8_read_r2 : ∀ w ∈ wsX8_read_r2, w ∈ wsL_law := List.forall_mem_cons.mpr ⟨mW9_20, List.forall_mem_cons.mpr ⟨mW9_21, List.forall_mem_cons.mpr ⟨mW10_3, List.forall_mem_cons.mpr ⟨mW10_4, List.forall_mem_cons.mpr ⟨mW10_5, List.forall_mem_cons.mpr ⟨mW10_6, List.forall_mem_cons.mpr ⟨mW10_7, List.forall_mem_cons.mpr ⟨mW10_8, List.forall_mem_cons.mpr ⟨mW10_9, List.forall_mem_cons.mpr ⟨mW10_10, List.forall_mem_cons.mpr ⟨mW8_16, List.forall_mem_cons.mpr ⟨mW8_17, List.forall_mem_cons.mpr ⟨mW8_18, List.forall_mem_cons.mpr ⟨mW8_20, List.forall_mem_cons.mpr ⟨mW8_19, fun _ h => absurd h List.not_mem_nil⟩⟩⟩⟩⟩⟩⟩⟩⟩⟩⟩⟩⟩⟩⟩
theorem ggw_X8_read : ∀ w ∈ wsX8_read, w ∈ wsL_law := List.forall_mem_cons.mpr ⟨mW15_20, List.forall_mem_append.mpr ⟨List.forall_mem_append.mpr ⟨mq_wsX8_read_r1, mq_wsX8_read_r2⟩, inlX8⟩⟩
set_option maxRecDepth 20000 in
theorem ggL_law_X8_read : GoodIn wsL_law wsX8_read := goodIn_sub ggw_X8_read (by decide +kernel)
set_option maxRecDepth 20000 in
theorem mq_wsX7_spell_r1 : ∀ w ∈ wsX7_spell_r1, w ∈ wsL_law := List.forall_mem_cons.mpr ⟨mW2_17, List.forall_mem_cons.mpr ⟨mW1_16, List.forall_mem_cons.mpr ⟨mW14_17, List.forall_mem_cons.mpr ⟨mW16_7, List.forall_mem_cons.mpr ⟨mW16_8, List.forall_mem_cons.mpr ⟨mW16_9, List.forall_mem_cons.mpr ⟨mW1_2, List.forall_mem_cons.mpr ⟨mW16_10, List.forall_mem_cons.mpr ⟨mW10_17, List.forall_mem_cons.mpr ⟨mW10_18, List.forall_mem_cons.mpr ⟨mW10_19, List.forall_mem_cons.mpr ⟨mW10_20, List.forall_mem_cons.mpr ⟨mW2_21, List.forall_mem_cons.mpr ⟨mW10_21, List.forall_mem_cons.mpr ⟨mW16_11, List.forall_mem_cons.mpr ⟨mW16_12, List.forall_mem_cons.mpr ⟨mW16_13, List.forall_mem_cons.mpr ⟨mW2_16, List.forall_mem_cons.mpr ⟨mW16_14, List.forall_mem_cons.mpr ⟨mW8_1, List.forall_mem_cons.mpr ⟨mW8_0, List.forall_mem_cons.mpr ⟨mW16_15, List.forall_mem_cons.mpr ⟨mW16_16, List.forall_mem_cons.mpr ⟨mW16_17, fun _ h => absurd h List.not_mem_nil⟩⟩⟩⟩⟩⟩⟩⟩⟩⟩⟩⟩⟩⟩⟩⟩⟩⟩⟩⟩⟩⟩⟩⟩
set_option maxRecDepth 20000 in
theorem mq_wsX7_spell_r2 : ∀ w ∈ wsX7_spell_r2, w ∈ wsL_law := List.forall_mem_cons.mpr ⟨mW16_18, List.forall_mem_cons.mpr ⟨mW16_19, List.forall_mem_cons.mpr ⟨mW16_20, List.forall_mem_cons.mpr ⟨mW16_21, List.forall_mem_cons.mpr ⟨mW16_22, List.forall_mem_cons.mpr ⟨mW12_5, List.forall_mem_cons.mpr ⟨mW16_23, List.forall_mem_cons.mpr ⟨mW10_23, List.forall_mem_cons.mpr ⟨mW11_0, List.forall_mem_cons.mpr ⟨mW11_1, List.forall_mem_cons.mpr ⟨mW11_2, List.forall_mem_cons.mpr ⟨mW11_3, List.forall_mem_cons.mpr ⟨mW2_10, List.forall_mem_cons.mpr ⟨mW2_13, List.forall_mem_cons.mpr ⟨mW11_4, List.forall_mem_cons.mpr ⟨mW11_5, List.forall_mem_cons.mpr ⟨mW11_6, List.forall_mem_cons.mpr ⟨mW2_9, List.forall_mem_cons.mpr ⟨mW11_7, List.forall_mem_cons.mpr ⟨mW7_6, List.forall_mem_cons.mpr ⟨mW7_7, List.forall_mem_cons.mpr ⟨mW7_8, List.forall_mem_cons.mpr ⟨mW7_9, List.forall_mem_cons.mpr ⟨mW7_10, fun _ h => absurd h List.not_mem_nil⟩⟩⟩⟩⟩⟩⟩⟩⟩⟩⟩⟩⟩⟩⟩⟩⟩⟩⟩⟩⟩⟩⟩⟩
set_option maxRecDepth 20000 in
theorem mq_wsX7_spell_r3 : ∀ w ∈ wsX7_spell_r3, w ∈ wsL_law := List.forall_mem_cons.mpr ⟨mW7_11, List.forall_mem_cons.mpr ⟨mW7_13, List.forall_mem_cons.mpr ⟨mW7_14, List.forall_mem_cons.mpr ⟨mW7_16, List.forall_mem_cons.mpr ⟨mW7_17, List.forall_mem_cons.mpr ⟨mW7_18, List.forall_mem_cons.mpr ⟨mW7_19, List.forall_mem_cons.mpr ⟨mW7_4, List.forall_mem_cons.mpr ⟨mW7_5, List.forall_mem_cons.mpr ⟨mW7_20, List.forall_mem_cons.mpr ⟨mW3_12, List.forall_mem_cons.mpr ⟨mW3_13, List.forall_mem_cons.mpr ⟨mW3_14, List.forall_mem_cons.mpr ⟨mW11_8, List.forall_mem_cons.mpr ⟨mW11_9, List.forall_mem_cons.mpr ⟨mW11_10, List.forall_mem_cons.mpr ⟨mW1_20, List.forall_mem_cons.mpr ⟨mW11_11, List.forall_mem_cons.mpr ⟨mW5_23, List.forall_mem_cons.mpr ⟨mW6_0, List.forall_mem_cons.mpr ⟨mW6_1, List.forall_mem_cons.mpr ⟨mW6_2, List.forall_mem_cons.mpr ⟨mW11_12, List.forall_mem_cons.mpr ⟨mW11_13, fun _ h => absurd h List.not_mem_nil⟩⟩⟩⟩⟩⟩⟩⟩⟩⟩⟩⟩⟩⟩⟩⟩⟩⟩⟩⟩⟩⟩⟩⟩
set_option maxRecDepth 20000 in
theorem mq_wsX7_spell_r4 : ∀ w ∈ wsX7_spell_r4, w ∈ wsL_law := List.forall_mem_cons.mpr ⟨mW11_14, List.forall_mem_cons.mpr ⟨mW11_15, List.forall_mem_cons.mpr ⟨mW2_2, List.forall_mem_cons.mpr ⟨mW2_6, List.forall_mem_cons.mpr ⟨mW11_16, List.forall_mem_cons.mpr ⟨mW2_12, List.forall_mem_cons.mpr ⟨mW11_17, List.forall_mem_cons.mpr ⟨mW11_18, List.forall_mem_cons.mpr ⟨mW11_19, List.forall_mem_cons.mpr ⟨mW2_1, List.forall_mem_cons.mpr ⟨mW11_20, List.forall_mem_cons.mpr ⟨mW6_6, List.forall_mem_cons.mpr ⟨mW6_7, List.forall_mem_cons.mpr ⟨mW11_21, List.forall_mem_cons.mpr ⟨mW11_22, List.forall_mem_cons.mpr ⟨mW11_23, List.forall_mem_cons.mpr ⟨mW12_0, List.forall_mem_cons.mpr ⟨mW12_1, List.forall_mem_cons.mpr ⟨mW12_2, List.forall_mem_cons.mpr ⟨mW6_8, List.forall_mem_cons.mpr ⟨mW6_9, List.forall_mem_cons.mpr ⟨mW6_10, List.forall_mem_cons.mpr ⟨mW6_11, List.forall_mem_cons.mpr ⟨mW6_13, fun _ h => absurd h List.not_mem_nil⟩⟩⟩⟩⟩⟩⟩⟩⟩⟩⟩⟩⟩⟩⟩⟩⟩⟩⟩⟩⟩⟩⟩⟩
set_option maxRecDepth 20000 in
theorem mq_wsX7_spell_r5 : ∀ w ∈ wsX7_spell_r5, w ∈ wsL_law := List.forall_mem_cons.mpr ⟨mW12_3, List.forall_mem_cons.mpr ⟨mW12_4, List.forall_mem_cons.mpr ⟨mW12_6, List.forall_mem_cons.mpr ⟨mW12_7, List.forall_mem_cons.mpr ⟨mW12_8, List.forall_mem_cons.mpr ⟨mW12_9, fun _ h => absurd h List.not_mem_nil⟩⟩⟩⟩⟩⟩
theorem ggw_X7_spell : ∀ w ∈ wsX7_spell, w ∈ wsL_law := List.forall_mem_cons.mpr ⟨mW16_6, List.forall_mem_append.mpr ⟨List.forall_mem_append.mpr ⟨List.forall_mem_append.mpr ⟨List.forall_mem_append.mpr ⟨List.forall_mem_append.mpr ⟨List.forall_mem_append.mpr ⟨List.forall_mem_append.mpr ⟨List.forall_mem_append.mpr ⟨mq_wsX7_spell_r1, List.forall_mem_append.mpr ⟨mq_wsX7_spell_r2, List.forall_mem_append.mpr ⟨mq_wsX7_spell_r3, List.forall_mem_append.mpr ⟨mq_wsX7_spell_r4, mq_wsX7_spell_r5⟩⟩⟩⟩, inlX7⟩, inlX4⟩, inlX2⟩, inlX6⟩, inlX1⟩, inlX5⟩, inlX0⟩⟩
set_option maxRecDepth 20000 in
theorem ggL_law_X7_spell : GoodIn wsL_law wsX7_spell := goodIn_sub ggw_X7_spell (by decide +kernel)
set_option maxRecDepth 20000 in
theorem mq_wsX8_spell_r1 : ∀ w ∈ wsX8_spell_r1, w ∈ wsL_law := List.forall_mem_cons.mpr ⟨mW13_22, List.forall_mem_cons.mpr ⟨mW12_16, List.forall_mem_cons.mpr ⟨mW15_0, List.forall_mem_cons.mpr ⟨mW8_21, List.forall_mem_cons.mpr ⟨mW8_12, List.forall_mem_cons.mpr ⟨mW12_17, List.forall_mem_cons.mpr ⟨mW12_18, List.forall_mem_cons.mpr ⟨mW1_5, List.forall_mem_cons.mpr ⟨mW12_19, List.forall_mem_cons.mpr ⟨mW12_20, List.forall_mem_cons.mpr ⟨mW12_21, List.forall_mem_cons.mpr ⟨mW12_22, List.forall_mem_cons.mpr ⟨mW12_23, List.forall_mem_cons.mpr ⟨mW8_15, List.forall_mem_cons.mpr ⟨mW13_0, List.forall_mem_cons.mpr ⟨mW17_4, List.forall_mem_cons.mpr ⟨mW17_5, List.forall_mem_cons.mpr ⟨mW17_6, List.forall_mem_cons.mpr ⟨mW13_1, List.forall_mem_cons.mpr ⟨mW13_2, List.forall_mem_cons.mpr ⟨mW13_3, List.forall_mem_cons.mpr ⟨mW13_4, List.forall_mem_cons.mpr ⟨mW9_18, List.forall_mem_cons.mpr ⟨mW9_19, fun _ h => absurd h List.not_mem_nil⟩⟩⟩⟩⟩⟩⟩⟩⟩⟩⟩⟩⟩⟩⟩⟩⟩⟩⟩⟩⟩⟩⟩⟩
set_option maxRecDepth 20000 in
theorem mq_wsX8_spell_r2 : ∀ w ∈ wsX8_spell_r2, w ∈ wsL_law := List.forall_mem_cons.mpr ⟨mW9_20, List.forall_mem_cons.mpr ⟨mW9_21, List.forall_mem_cons.mpr ⟨mW9_22, List.forall_mem_cons.mpr ⟨mW9_23, List.forall_mem_cons.mpr ⟨mW10_0, List.forall_mem_cons.mpr ⟨mW10_1, List.forall_mem_cons.mpr ⟨mW10_2, List.forall_mem_cons.mpr ⟨mW10_3, List.forall_mem_cons.mpr ⟨mW10_4, List.forall_mem_cons.mpr ⟨mW10_5, List.forall_mem_cons.mpr ⟨mW10_6, List.forall_mem_cons.mpr ⟨mW10_7, List.forall_mem_cons.mpr ⟨mW10_8, List.forall_mem_cons.mpr ⟨mW10_9, List.forall_mem_cons.mpr ⟨mW10_10, List.forall_mem_cons.mpr ⟨mW8_16, List.forall_mem_cons.mpr ⟨mW8_17, List.forall_mem_cons.mpr ⟨mW8_18, List.forall_mem_cons.mpr ⟨mW8_20, List.forall_mem_cons.mpr ⟨mW8_19, fun _ h => absurd h List.not_mem_nil⟩⟩⟩⟩⟩⟩⟩⟩⟩⟩⟩⟩⟩⟩⟩⟩⟩⟩⟩⟩
theorem ggw_X8_spell : ∀ w ∈ wsX8_spell, w ∈ wsL_law := List.forall_mem_cons.mpr ⟨mW17_3, List.forall_mem_append.mpr ⟨List.forall_mem_append.mpr ⟨mq_wsX8_spell_r1, mq_wsX8_spell_r2⟩, inlX8⟩⟩
set_option maxRecDepth 20000 in
theorem ggL_law_X8_spell : GoodIn wsL_law wsX8_spell := goodIn_sub ggw_X8_spell (by decide +kernel)
set_option maxRecDepth 20000 in
theorem mq_wsX7_word_r1 : ∀ w ∈ wsX7_word_r1, w ∈ wsL_law := List.forall_mem_cons.mpr ⟨mW1_16, List.forall_mem_cons.mpr ⟨mW16_7, List.forall_mem_cons.mpr ⟨mW2_11, List.forall_mem_cons.mpr ⟨mW17_11, List.forall_mem_cons.mpr ⟨mW17_12, List.forall_mem_cons.mpr ⟨mW17_13, List.forall_mem_cons.mpr ⟨mW17_14, List.forall_mem_cons.mpr ⟨mW16_8, List.forall_mem_cons.mpr ⟨mW16_9, List.forall_mem_cons.mpr ⟨mW1_2, List.forall_mem_cons.mpr ⟨mW16_10, List.forall_mem_cons.mpr ⟨mW10_17, List.forall_mem_cons.mpr ⟨mW10_18, List.forall_mem_cons.mpr ⟨mW10_19, List.forall_mem_cons.mpr ⟨mW10_20, List.forall_mem_cons.mpr ⟨mW2_21, List.forall_mem_cons.mpr ⟨mW10_21, List.forall_mem_cons.mpr ⟨mW17_15, List.forall_mem_cons.mpr ⟨mW17_16, List.forall_mem_cons.mpr ⟨mW17_17, List.forall_mem_cons.mpr ⟨mW17_18, List.forall_mem_cons.mpr ⟨mW2_12, List.forall_mem_cons.mpr ⟨mW11_4, List.forall_mem_cons.mpr ⟨mW11_5, fun _ h => absurd h List.not_mem_nil⟩⟩⟩⟩⟩⟩⟩⟩⟩⟩⟩⟩⟩⟩⟩⟩⟩⟩⟩⟩⟩⟩⟩⟩
set_option maxRecDepth 20000 in
theorem mq_wsX7_word_r2 : ∀ w ∈ wsX7_word_r2, w ∈ wsL_law := List.forall_mem_cons.mpr ⟨mW11_6, List.forall_mem_cons.mpr ⟨mW2_9, List.forall_mem_cons.mpr ⟨mW11_7, List.forall_mem_cons.mpr ⟨mW7_6, List.forall_mem_cons.mpr ⟨mW7_7, List.forall_mem_cons.mpr ⟨mW7_8, List.forall_mem_cons.mpr ⟨mW7_9, List.forall_mem_cons.mpr ⟨mW7_10, List.forall_mem_cons.mpr ⟨mW7_11, List.forall_mem_cons.mpr ⟨mW7_13, List.forall_mem_cons.mpr ⟨mW7_14, List.forall_mem_cons.mpr ⟨mW7_16, List.forall_mem_cons.mpr ⟨mW7_17, List.forall_mem_cons.mpr ⟨mW7_18, List.forall_mem_cons.mpr ⟨mW7_19, List.forall_mem_cons.mpr ⟨mW7_4, List.forall_mem_cons.mpr ⟨mW7_5, List.forall_mem_cons.mpr ⟨mW7_20, List.forall_mem_cons.mpr ⟨mW3_12, List.forall_mem_cons.mpr ⟨mW3_13, List.forall_mem_cons.mpr ⟨mW3_14, List.forall_mem_cons.mpr ⟨mW11_8, List.forall_mem_cons.mpr ⟨mW11_9, List.forall_mem_cons.mpr ⟨mW11_10, fun _ h => absurd h List.not_mem_nil⟩⟩⟩⟩⟩⟩⟩⟩⟩⟩⟩⟩⟩⟩⟩⟩⟩⟩⟩⟩⟩⟩⟩⟩
set_option maxRecDepth 20000 in
theorem mq_wsX7_word_r3 : ∀ w ∈ wsX7_word_r3, w ∈ wsL_law := List.forall_mem_cons.mpr ⟨mW1_20, List.forall_mem_cons.mpr ⟨mW11_11, List.forall_mem_cons.mpr ⟨mW5_23, List.forall_mem_cons.mpr ⟨mW6_0, List.forall_mem_cons.mpr ⟨mW6_1, List.forall_mem_cons.mpr ⟨mW6_2, List.forall_mem_cons.mpr ⟨mW17_19, List.forall_mem_cons.mpr ⟨mW17_20, List.forall_mem_cons.mpr ⟨mW17_21, List.forall_mem_cons.mpr ⟨mW17_22, List.forall_mem_cons.mpr ⟨mW17_23, List.forall_mem_cons.mpr ⟨mW18_0, List.forall_mem_cons.mpr ⟨mW18_1, List.forall_mem_cons.mpr ⟨mW18_2, List.forall_mem_cons.mpr ⟨mW18_3, List.forall_mem_cons.mpr ⟨mW18_4, List.forall_mem_cons.mpr ⟨mW18_5, List.forall_mem_cons.mpr ⟨mW18_6, List.forall_mem_cons.mpr ⟨mW18_7, List.forall_mem_cons.mpr ⟨mW18_8, List.forall_mem_cons.mpr ⟨mW18_9, List.forall_mem_cons.mpr ⟨mW18_10, List.forall_mem_cons.mpr ⟨mW18_11, List.forall_mem_cons.mpr ⟨mW18_12, fun _ h => absurd h List.not_mem_nil⟩⟩⟩⟩⟩⟩⟩⟩⟩⟩⟩⟩⟩⟩⟩⟩⟩⟩⟩⟩⟩⟩⟩⟩
set_option maxRecDepth 20000 in
theorem mq_wsX7_word_r4 : ∀ w ∈ wsX7_word_r4, w ∈ wsL_law := List.forall_mem_cons.mpr ⟨mW18_13, List.forall_mem_cons.mpr ⟨mW18_14, List.forall_mem_cons.mpr ⟨mW18_15, List.forall_mem_cons.mpr ⟨mW18_16, List.forall_mem_cons.mpr ⟨mW18_17, List.forall_mem_cons.mpr ⟨mW12_8, List.forall_mem_cons.mpr ⟨mW12_5, List.forall_mem_cons.mpr ⟨mW12_9, List.forall_mem_cons.mpr ⟨mW18_18, List.forall_mem_cons.mpr ⟨mW18_19, List.forall_mem_cons.mpr ⟨mW18_20, List.forall_mem_cons.mpr ⟨mW18_21, List.forall_mem_cons.mpr ⟨mW18_22, List.forall_mem_cons.mpr ⟨mW18_23, List.forall_mem_cons.mpr ⟨mW19_0, List.forall_mem_cons.mpr ⟨mW19_1, List.forall_mem_cons.mpr ⟨mW19_2, List.forall_mem_cons.mpr ⟨mW19_3, List.forall_mem_cons.mpr ⟨mW19_4, List.forall_mem_cons.mpr ⟨mW19_5, List.forall_mem_cons.mpr ⟨mW19_6, List.forall_mem_cons.mpr ⟨mW19_7, List.forall_mem_cons.mpr ⟨mW19_8, fun _ h => absurd h List.not_mem_nil⟩⟩⟩⟩⟩⟩⟩⟩⟩⟩⟩⟩⟩⟩⟩⟩⟩⟩⟩⟩⟩⟩⟩
theorem ggw_X7_word : ∀ w ∈ wsX7_word, w ∈ wsL_law := List.forall_mem_cons.mpr ⟨mW17_10, List.forall_mem_append.mpr ⟨List.forall_mem_append.mpr ⟨List.forall_mem_append.mpr ⟨List.forall_mem_append.mpr ⟨List.forall_mem_append.mpr ⟨mq_wsX7_word_r1, List.forall_mem_append.mpr ⟨mq_wsX7_word_r2, List.forall_mem_append.mpr ⟨mq_wsX7_word_r3, mq_wsX7_word_r4⟩⟩⟩, inlX7⟩, inlX2⟩, inlX6⟩, inlX1⟩⟩
set_option maxRecDepth 20000 in
theorem ggL_law_X7_word : GoodIn wsL_law wsX7_word := goodIn_sub ggw_X7_word (by decide +kernel)
set_option maxRecDepth 20000 in
theorem mq_wsX8_word_r1 : ∀ w ∈ wsX8_word_r1, w ∈ wsL_law := List.forall_mem_cons.mpr ⟨mW13_22, List.forall_mem_cons.mpr ⟨mW19_13, List.forall_mem_cons.mpr ⟨mW12_16, List.forall_mem_cons.mpr ⟨mW8_12, List.forall_mem_cons.mpr ⟨mW19_14, List.forall_mem_cons.mpr ⟨mW19_15, List.forall_mem_cons.mpr ⟨mW8_22, List.forall_mem_cons.mpr ⟨mW12_17, List.forall_mem_cons.mpr ⟨mW12_18, List.forall_mem_cons.mpr ⟨mW1_5, List.forall_mem_cons.mpr ⟨mW12_19, List.forall_mem_cons.mpr ⟨mW12_20, List.forall_mem_cons.mpr ⟨mW12_21, List.forall_mem_cons.mpr ⟨mW12_22, List.forall_mem_cons.mpr ⟨mW12_23, List.forall_mem_cons.mpr ⟨mW8_15, List.forall_mem_cons.mpr ⟨mW13_0, List.forall_mem_cons.mpr ⟨mW19_16, List.forall_mem_cons.mpr ⟨mW19_17, List.forall_mem_cons.mpr ⟨mW19_18, List.forall_mem_cons.mpr ⟨mW19_19, List.forall_mem_cons.mpr ⟨mW8_23, List.forall_mem_cons.mpr ⟨mW19_20, List.forall_mem_cons.mpr ⟨mW19_21, fun _ h => absurd h List.not_mem_nil⟩⟩⟩⟩⟩⟩⟩⟩⟩⟩⟩⟩⟩⟩⟩⟩⟩⟩⟩⟩⟩⟩⟩⟩
set_option maxRecDepth 20000 in
theorem mq_wsX8_word_r2 : ∀ w ∈ wsX8_word_r2, w ∈ wsL_law := List.forall_mem_cons.mpr ⟨mW19_22, List.forall_mem_cons.mpr ⟨mW19_23, List.forall_mem_cons.mpr ⟨mW20_0, List.forall_mem_cons.mpr ⟨mW20_1, List.forall_mem_cons.mpr ⟨mW20_2, List.forall_mem_cons.mpr ⟨mW20_3, List.forall_mem_cons.mpr ⟨mW20_4, List.forall_mem_cons.mpr ⟨mW20_5, List.forall_mem_cons.mpr ⟨mW20_6, List.forall_mem_cons.mpr ⟨mW20_7, List.forall_mem_cons.mpr ⟨mW9_0, List.forall_mem_cons.mpr ⟨mW9_1, List.forall_mem_cons.mpr ⟨mW9_2, List.forall_mem_cons.mpr ⟨mW9_3, List.forall_mem_cons.mpr ⟨mW9_4, List.forall_mem_cons.mpr ⟨mW20_8, List.forall_mem_cons.mpr ⟨mW20_9, List.forall_mem_cons.mpr ⟨mW20_10, List.forall_mem_cons.mpr ⟨mW20_11, List.forall_mem_cons.mpr ⟨mW9_7, List.forall_mem_cons.mpr ⟨mW9_5, List.forall_mem_cons.mpr ⟨mW20_12, List.forall_mem_cons.mpr ⟨mW20_13, List.forall_mem_cons.mpr ⟨mW20_14, fun _ h => absurd h List.not_mem_nil⟩⟩⟩⟩⟩⟩⟩⟩⟩⟩⟩⟩⟩⟩⟩⟩⟩⟩⟩⟩⟩⟩⟩⟩
set_option maxRecDepth 20000 in
theorem mq_wsX8_word_r3 : ∀ w ∈ wsX8_word_r3, w ∈ wsL_law := List.forall_mem_cons.mpr ⟨mW20_15, List.forall_mem_cons.mpr ⟨mW9_6, List.forall_mem_cons.mpr ⟨mW20_16, List.forall_mem_cons.mpr ⟨mW20_17, List.forall_mem_cons.mpr ⟨mW20_18, List.forall_mem_cons.mpr ⟨mW20_19, fun _ h => absurd h List.not_mem_nil⟩⟩⟩⟩⟩⟩
theorem ggw_X8_word : ∀ w ∈ wsX8_word, w ∈ wsL_law := List.forall_mem_cons.mpr ⟨mW19_12, List.forall_mem_append.mpr ⟨List.forall_mem_append.mpr ⟨mq_wsX8_word_r1, List.forall_mem_append.mpr ⟨mq_wsX8_word_r2, mq_wsX8_word_r3⟩⟩, inlX8⟩⟩
set_option maxRecDepth 20000 in
theorem ggL_law_X8_word : GoodIn wsL_law wsX8_word := goodIn_sub ggw_X8_word (by decide +kernel)
theorem ggw_X7_letter : ∀ w ∈ wsX7_letter, w ∈ wsL_law := List.forall_mem_cons.mpr ⟨mW20_23, List.forall_mem_append.mpr ⟨List.forall_mem_append.mpr ⟨(List.forall_mem_cons.mpr ⟨mW1_16, List.forall_mem_cons.mpr ⟨mW16_7, List.forall_mem_cons.mpr ⟨mW21_0, List.forall_mem_cons.mpr ⟨mW16_8, List.forall_mem_cons.mpr ⟨mW16_9, List.forall_mem_cons.mpr ⟨mW1_2, List.forall_mem_cons.mpr ⟨mW16_10, List.forall_mem_cons.mpr ⟨mW10_17, List.forall_mem_cons.mpr ⟨mW10_18, List.forall_mem_cons.mpr ⟨mW10_19, List.forall_mem_cons.mpr ⟨mW10_20, List.forall_mem_cons.mpr ⟨mW2_21, List.forall_mem_cons.mpr ⟨mW10_21, fun _ h => absurd h List.not_mem_nil⟩⟩⟩⟩⟩⟩⟩⟩⟩⟩⟩⟩⟩), inlX7⟩, inlX2⟩⟩
set_option maxRecDepth 20000 in
theorem ggL_law_X7_letter : GoodIn wsL_law wsX7_letter := goodIn_sub ggw_X7_letter (by decide +kernel)
theorem ggw_X8_letter : ∀ w ∈ wsX8_letter, w ∈ wsL_law := List.forall_mem_cons.mpr ⟨mW21_4, List.forall_mem_append.mpr ⟨(List.forall_mem_cons.mpr ⟨mW13_22, List.forall_mem_cons.mpr ⟨mW8_12, List.forall_mem_cons.mpr ⟨mW12_16, List.forall_mem_cons.mpr ⟨mW12_17, List.forall_mem_cons.mpr ⟨mW12_18, List.forall_mem_cons.mpr ⟨mW1_5, List.forall_mem_cons.mpr ⟨mW12_19, List.forall_mem_cons.mpr ⟨mW20_0, List.forall_mem_cons.mpr ⟨mW20_1, List.forall_mem_cons.mpr ⟨mW20_2, List.forall_mem_cons.mpr ⟨mW20_3, List.forall_mem_cons.mpr ⟨mW12_20, List.forall_mem_cons.mpr ⟨mW12_21, List.forall_mem_cons.mpr ⟨mW12_22, List.forall_mem_cons.mpr ⟨mW12_23, List.forall_mem_cons.mpr ⟨mW8_15, List.forall_mem_cons.mpr ⟨mW13_0, fun _ h => absurd h List.not_mem_nil⟩⟩⟩⟩⟩⟩⟩⟩⟩⟩⟩⟩⟩⟩⟩⟩⟩), inlX8⟩⟩
set_option maxRecDepth 20000 in
theorem ggL_law_X8_letter : GoodIn wsL_law wsX8_letter := goodIn_sub ggw_X8_letter (by decide +kernel)
set_option maxRecDepth 20000 in
theorem mq_wsX7_stitches_r1 : ∀ w ∈ wsX7_stitches_r1, w ∈ wsL_law := List.forall_mem_cons.mpr ⟨mW2_2, List.forall_mem_cons.mpr ⟨mW15_6, List.forall_mem_cons.mpr ⟨mW21_9, List.forall_mem_cons.mpr ⟨mW2_13, List.forall_mem_cons.mpr ⟨mW1_16, List.forall_mem_cons.mpr ⟨mW11_3, List.forall_mem_cons.mpr ⟨mW21_10, List.forall_mem_cons.mpr ⟨mW21_11, List.forall_mem_cons.mpr ⟨mW21_12, List.forall_mem_cons.mpr ⟨mW2_1, List.forall_mem_cons.mpr ⟨mW21_13, List.forall_mem_cons.mpr ⟨mW6_6, List.forall_mem_cons.mpr ⟨mW6_11, List.forall_mem_cons.mpr ⟨mW12_7, List.forall_mem_cons.mpr ⟨mW12_8, List.forall_mem_cons.mpr ⟨mW12_5, List.forall_mem_cons.mpr ⟨mW12_9, List.forall_mem_cons.mpr ⟨mW21_14, List.forall_mem_cons.mpr ⟨mW21_15, List.forall_mem_cons.mpr ⟨mW21_16, List.forall_mem_cons.mpr ⟨mW21_17, List.forall_mem_cons.mpr ⟨mW6_9, List.forall_mem_cons.mpr ⟨mW6_14, List.forall_mem_cons.mpr ⟨mW21_18, fun _ h => absurd h List.not_mem_nil⟩⟩⟩⟩⟩⟩⟩⟩⟩⟩⟩⟩⟩⟩⟩⟩⟩⟩⟩⟩⟩⟩⟩⟩
set_option maxRecDepth 20000 in
theorem mq_wsX7_stitches_r2 : ∀ w ∈ wsX7_stitches_r2, w ∈ wsL_law := List.forall_mem_cons.mpr ⟨mW21_19, List.forall_mem_cons.mpr ⟨mW21_20, List.forall_mem_cons.mpr ⟨mW21_21, List.forall_mem_cons.mpr ⟨mW21_22, List.forall_mem_cons.mpr ⟨mW21_23, List.forall_mem_cons.mpr ⟨mW22_0, List.forall_mem_cons.mpr ⟨mW22_1, List.forall_mem_cons.mpr ⟨mW6_13, List.forall_mem_cons.mpr ⟨mW22_2, List.forall_mem_cons.mpr ⟨mW22_3, List.forall_mem_cons.mpr ⟨mW22_4, List.forall_mem_cons.mpr ⟨mW22_5, List.forall_mem_cons.mpr ⟨mW22_6, List.forall_mem_cons.mpr ⟨mW22_7, List.forall_mem_cons.mpr ⟨mW22_8, List.forall_mem_cons.mpr ⟨mW22_9, List.forall_mem_cons.mpr ⟨mW22_10, List.forall_mem_cons.mpr ⟨mW22_11, List.forall_mem_cons.mpr ⟨mW22_12, List.forall_mem_cons.mpr ⟨mW22_13, List.forall_mem_cons.mpr ⟨mW22_14, List.forall_mem_cons.mpr ⟨mW22_15, List.forall_mem_cons.mpr ⟨mW22_16, List.forall_mem_cons.mpr ⟨mW22_17, fun _ h => absurd h List.not_mem_nil⟩⟩⟩⟩⟩⟩⟩⟩⟩⟩⟩⟩⟩⟩⟩⟩⟩⟩⟩⟩⟩⟩⟩⟩
set_option maxRecDepth 20000 in
theorem mq_wsX7_stitches_r3 : ∀ w ∈ wsX7_stitches_r3, w ∈ wsL_law := List.forall_mem_cons.mpr ⟨mW1_2, List.forall_mem_cons.mpr ⟨mW22_18, List.forall_mem_cons.mpr ⟨mW10_17, List.forall_mem_cons.mpr ⟨mW10_18, List.forall_mem_cons.mpr ⟨mW10_19, List.forall_mem_cons.mpr ⟨mW10_20, List.forall_mem_cons.mpr ⟨mW2_21, List.forall_mem_cons.mpr ⟨mW10_21, fun _ h => absurd h List.not_mem_nil⟩⟩⟩⟩⟩⟩⟩⟩
theorem ggw_X7_stitches : ∀ w ∈ wsX7_stitches, w ∈ wsL_law := List.forall_mem_cons.mpr ⟨mW21_8, List.forall_mem_append.mpr ⟨List.forall_mem_append.mpr ⟨List.forall_mem_append.mpr ⟨List.forall_mem_append.mpr ⟨mq_wsX7_stitches_r1, List.forall_mem_append.mpr ⟨mq_wsX7_stitches_r2, mq_wsX7_stitches_r3⟩⟩, inlX7⟩, inlX0⟩, inlX2⟩⟩
set_option maxRecDepth 20000 in
theorem ggL_law_X7_stitches : GoodIn wsL_law wsX7_stitches := goodIn_sub ggw_X7_stitches (by decide +kernel)
set_option maxRecDepth 20000 in
theorem mq_wsX8_stitches_r1 : ∀ w ∈ wsX8_stitches_r1, w ∈ wsL_law := List.forall_mem_cons.mpr ⟨mW9_22, List.forall_mem_cons.mpr ⟨mW8_12, List.forall_mem_cons.mpr ⟨mW22_23, List.forall_mem_cons.mpr ⟨mW12_16, List.forall_mem_cons.mpr ⟨mW23_0, List.forall_mem_cons.mpr ⟨mW23_1, List.forall_mem_cons.mpr ⟨mW23_2, List.forall_mem_cons.mpr ⟨mW1_5, List.forall_mem_cons.mpr ⟨mW23_3, List.forall_mem_cons.mpr ⟨mW8_16, List.forall_mem_cons.mpr ⟨mW23_4, List.forall_mem_cons.mpr ⟨mW23_5, List.forall_mem_cons.mpr ⟨mW23_6, List.forall_mem_cons.mpr ⟨mW23_7, List.forall_mem_cons.mpr ⟨mW8_19, List.forall_mem_cons.mpr ⟨mW23_8, List.forall_mem_cons.mpr ⟨mW23_9, List.forall_mem_cons.mpr ⟨mW23_10, List.forall_mem_cons.mpr ⟨mW23_11, List.forall_mem_cons.mpr ⟨mW9_8, List.forall_mem_cons.mpr ⟨mW23_12, List.forall_mem_cons.mpr ⟨mW23_13, List.forall_mem_cons.mpr ⟨mW23_14, List.forall_mem_cons.mpr ⟨mW23_15, fun _ h => absurd h List.not_mem_nil⟩⟩⟩⟩⟩⟩⟩⟩⟩⟩⟩⟩⟩⟩⟩⟩⟩⟩⟩⟩⟩⟩⟩⟩
set_option maxRecDepth 20000 in
theorem mq_wsX8_stitches_r2 : ∀ w ∈ wsX8_stitches_r2, w ∈ wsL_law := List.forall_mem_cons.mpr ⟨mW23_16, List.forall_mem_cons.mpr ⟨mW8_20, List.forall_mem_cons.mpr ⟨mW23_17, List.forall_mem_cons.mpr ⟨mW23_18, List.forall_mem_cons.mpr ⟨mW23_19, List.forall_mem_cons.mpr ⟨mW23_20, List.forall_mem_cons.mpr ⟨mW23_21, List.forall_mem_cons.mpr ⟨mW23_22, List.forall_mem_cons.mpr ⟨mW23_23, List.forall_mem_cons.mpr ⟨mW24_0, List.forall_mem_cons.mpr ⟨mW13_21, List.forall_mem_cons.mpr ⟨mW24_1, List.forall_mem_cons.mpr ⟨mW24_2, List.forall_mem_cons.mpr ⟨mW24_3, List.forall_mem_cons.mpr ⟨mW24_4, List.forall_mem_cons.mpr ⟨mW24_5, List.forall_mem_cons.mpr ⟨mW24_6, List.forall_mem_cons.mpr ⟨mW24_7, List.forall_mem_cons.mpr ⟨mW24_8, List.forall_mem_cons.mpr ⟨mW12_20, List.forall_mem_cons.mpr ⟨mW12_21, List.forall_mem_cons.mpr ⟨mW12_22, List.forall_mem_cons.mpr ⟨mW12_23, List.forall_mem_cons.mpr ⟨mW8_15, fun _ h => absurd h List.not_mem_nil⟩⟩⟩⟩⟩⟩⟩⟩⟩⟩⟩⟩⟩⟩⟩⟩⟩⟩⟩⟩⟩⟩⟩⟩
set_option maxRecDepth 20000 in
theorem mq_wsX8_stitches_r3 : ∀ w ∈ wsX8_stitches_r3, w ∈ wsL_law := List.forall_mem_cons.mpr ⟨mW13_0, fun _ h => absurd h List.not_mem_nil⟩
theorem ggw_X8_stitches : ∀ w ∈ wsX8_stitches, w ∈ wsL_law := List.forall_mem_cons.mpr ⟨mW22_22, List.forall_mem_append.mpr ⟨List.forall_mem_append.mpr ⟨mq_wsX8_stitches_r1, List.forall_mem_append.mpr ⟨mq_wsX8_stitches_r2, mq_wsX8_stitches_r3⟩⟩, inlX8⟩⟩
set_option maxRecDepth 20000 in
theorem ggL_law_X8_stitches : GoodIn wsL_law wsX8_stitches := goodIn_sub ggw_X8_stitches (by decide +kernel)
set_option maxRecDepth 20000 in
theorem mq_wsX7_stitch_r1 : ∀ w ∈ wsX7_stitch_r1, w ∈ wsL_law := List.forall_mem_cons.mpr ⟨mW2_2, List.forall_mem_cons.mpr ⟨mW24_13, List.forall_mem_cons.mpr ⟨mW24_14, List.forall_mem_cons.mpr ⟨mW24_15, List.forall_mem_cons.mpr ⟨mW24_16, List.forall_mem_cons.mpr ⟨mW24_17, List.forall_mem_cons.mpr ⟨mW2_13, List.forall_mem_cons.mpr ⟨mW24_18, List.forall_mem_cons.mpr ⟨mW24_19, List.forall_mem_cons.mpr ⟨mW24_20, List.forall_mem_cons.mpr ⟨mW1_2, List.forall_mem_cons.mpr ⟨mW24_21, List.forall_mem_cons.mpr ⟨mW15_6, List.forall_mem_cons.mpr ⟨mW10_17, List.forall_mem_cons.mpr ⟨mW10_18, List.forall_mem_cons.mpr ⟨mW10_19, List.forall_mem_cons.mpr ⟨mW10_20, List.forall_mem_cons.mpr ⟨mW2_21, List.forall_mem_cons.mpr ⟨mW10_21, List.forall_mem_cons.mpr ⟨mW24_22, List.forall_mem_cons.mpr ⟨mW24_23, List.forall_mem_cons.mpr ⟨mW25_0, List.forall_mem_cons.mpr ⟨mW25_1, List.forall_mem_cons.mpr ⟨mW25_2, fun _ h => absurd h List.not_mem_nil⟩⟩⟩⟩⟩⟩⟩⟩⟩⟩⟩⟩⟩⟩⟩⟩⟩⟩⟩⟩⟩⟩⟩⟩
set_option maxRecDepth 20000 in
theorem mq_wsX7_stitch_r2 : ∀ w ∈ wsX7_stitch_r2, w ∈ wsL_law := List.forall_mem_cons.mpr ⟨mW25_3, List.forall_mem_cons.mpr ⟨mW25_4, List.forall_mem_cons.mpr ⟨mW25_5, List.forall_mem_cons.mpr ⟨mW25_6, List.forall_mem_cons.mpr ⟨mW25_7, List.forall_mem_cons.mpr ⟨mW2_1, List.forall_mem_cons.mpr ⟨mW25_8, List.forall_mem_cons.mpr ⟨mW6_6, List.forall_mem_cons.mpr ⟨mW21_22, List.forall_mem_cons.mpr ⟨mW21_23, List.forall_mem_cons.mpr ⟨mW22_0, List.forall_mem_cons.mpr ⟨mW22_1, List.forall_mem_cons.mpr ⟨mW6_13, List.forall_mem_cons.mpr ⟨mW25_9, List.forall_mem_cons.mpr ⟨mW22_7, List.forall_mem_cons.mpr ⟨mW22_8, List.forall_mem_cons.mpr ⟨mW22_9, List.forall_mem_cons.mpr ⟨mW22_10, fun _ h => absurd h List.not_mem_nil⟩⟩⟩⟩⟩⟩⟩⟩⟩⟩⟩⟩⟩⟩⟩⟩⟩⟩
theorem ggw_X7_stitch : ∀ w ∈ wsX7_stitch, w ∈ wsL_law := List.forall_mem_cons.mpr ⟨mW24_12, List.forall_mem_append.mpr ⟨List.forall_mem_append.mpr ⟨List.forall_mem_append.mpr ⟨mq_wsX7_stitch_r1, mq_wsX7_stitch_r2⟩, inlX7⟩, inlX0⟩⟩
set_option maxRecDepth 20000 in
theorem ggL_law_X7_stitch : GoodIn wsL_law wsX7_stitch := goodIn_sub ggw_X7_stitch (by decide +kernel)
set_option maxRecDepth 20000 in
theorem mq_wsX8_stitch_r1 : ∀ w ∈ wsX8_stitch_r1, w ∈ wsL_law := List.forall_mem_cons.mpr ⟨mW12_16, List.forall_mem_cons.mpr ⟨mW8_16, List.forall_mem_cons.mpr ⟨mW8_17, List.forall_mem_cons.mpr ⟨mW8_18, List.forall_mem_cons.mpr ⟨mW8_19, List.forall_mem_cons.mpr ⟨mW8_20, List.forall_mem_cons.mpr ⟨mW25_14, List.forall_mem_cons.mpr ⟨mW25_15, List.forall_mem_cons.mpr ⟨mW25_16, List.forall_mem_cons.mpr ⟨mW1_5, List.forall_mem_cons.mpr ⟨mW25_17, List.forall_mem_cons.mpr ⟨mW9_22, List.forall_mem_cons.mpr ⟨mW12_17, List.forall_mem_cons.mpr ⟨mW12_18, List.forall_mem_cons.mpr ⟨mW12_19, List.forall_mem_cons.mpr ⟨mW12_20, List.forall_mem_cons.mpr ⟨mW12_21, List.forall_mem_cons.mpr ⟨mW12_22, List.forall_mem_cons.mpr ⟨mW12_23, List.forall_mem_cons.mpr ⟨mW8_15, List.forall_mem_cons.mpr ⟨mW13_0, List.forall_mem_cons.mpr ⟨mW25_18, List.forall_mem_cons.mpr ⟨mW25_19, List.forall_mem_cons.mpr ⟨mW25_20, fun _ h => absurd h List.not_mem_nil⟩⟩⟩⟩⟩⟩⟩⟩⟩⟩⟩⟩⟩⟩⟩⟩⟩⟩⟩⟩⟩⟩⟩⟩
set_option maxRecDepth 20000 in
theorem mq_wsX8_stitch_r2 : ∀ w ∈ wsX8_stitch_r2, w ∈ wsL_law := List.forall_mem_cons.mpr ⟨mW25_21, List.forall_mem_cons.mpr ⟨mW25_22, List.forall_mem_cons.mpr ⟨mW25_23, List.forall_mem_cons.mpr ⟨mW26_0, List.forall_mem_cons.mpr ⟨mW24_1, List.forall_mem_cons.mpr ⟨mW24_2, List.forall_mem_cons.mpr ⟨mW24_3, List.forall_mem_cons.mpr ⟨mW24_4, List.forall_mem_cons.mpr ⟨mW8_12, List.forall_mem_cons.mpr ⟨mW23_21, List.forall_mem_cons.mpr ⟨mW23_22, List.forall_mem_cons.mpr ⟨mW23_23, List.forall_mem_cons.mpr ⟨mW24_0, List.forall_mem_cons.mpr ⟨mW13_21, fun _ h => absurd h List.not_mem_nil⟩⟩⟩⟩⟩⟩⟩⟩⟩⟩⟩⟩⟩⟩
theorem ggw_X8_stitch : ∀ w ∈ wsX8_stitch, w ∈ wsL_law := List.forall_mem_cons.mpr ⟨mW25_13, List.forall_mem_append.mpr ⟨List.forall_mem_append.mpr ⟨mq_wsX8_stitch_r1, mq_wsX8_stitch_r2⟩, inlX8⟩⟩
set_option maxRecDepth 20000 in
theorem ggL_law_X8_stitch : GoodIn wsL_law wsX8_stitch := goodIn_sub ggw_X8_stitch (by decide +kernel)
theorem ggw_X7_ahead : ∀ w ∈ wsX7_ahead, w ∈ wsL_law := List.forall_mem_cons.mpr ⟨mW26_4, List.forall_mem_append.mpr ⟨List.forall_mem_append.mpr ⟨(List.forall_mem_cons.mpr ⟨mW2_2, List.forall_mem_cons.mpr ⟨mW24_18, List.forall_mem_cons.mpr ⟨mW24_19, List.forall_mem_cons.mpr ⟨mW24_20, List.forall_mem_cons.mpr ⟨mW1_2, List.forall_mem_cons.mpr ⟨mW24_21, List.forall_mem_cons.mpr ⟨mW15_6, List.forall_mem_cons.mpr ⟨mW10_17, List.forall_mem_cons.mpr ⟨mW10_18, List.forall_mem_cons.mpr ⟨mW10_19, List.forall_mem_cons.mpr ⟨mW10_20, List.forall_mem_cons.mpr ⟨mW2_21, List.forall_mem_cons.mpr ⟨mW10_21, List.forall_mem_cons.mpr ⟨mW26_5, List.forall_mem_cons.mpr ⟨mW21_23, List.forall_mem_cons.mpr ⟨mW22_0, List.forall_mem_cons.mpr ⟨mW2_1, List.forall_mem_cons.mpr ⟨mW22_1, List.forall_mem_cons.mpr ⟨mW6_13, fun _ h => absurd h List.not_mem_nil⟩⟩⟩⟩⟩⟩⟩⟩⟩⟩⟩⟩⟩⟩⟩⟩⟩⟩⟩), inlX7⟩, inlX0⟩⟩
set_option maxRecDepth 20000 in
theorem ggL_law_X7_ahead : GoodIn wsL_law wsX7_ahead := goodIn_sub ggw_X7_ahead (by decide +kernel)
theorem ggw_X8_ahead : ∀ w ∈ wsX8_ahead, w ∈ wsL_law := List.forall_mem_cons.mpr ⟨mW26_9, List.forall_mem_append.mpr ⟨(List.forall_mem_cons.mpr ⟨mW8_20, List.forall_mem_cons.mpr ⟨mW12_16, List.forall_mem_cons.mpr ⟨mW25_14, List.forall_mem_cons.mpr ⟨mW25_15, List.forall_mem_cons.mpr ⟨mW25_16, List.forall_mem_cons.mpr ⟨mW1_5, List.forall_mem_cons.mpr ⟨mW25_17, List.forall_mem_cons.mpr ⟨mW9_22, List.forall_mem_cons.mpr ⟨mW12_17, List.forall_mem_cons.mpr ⟨mW12_18, List.forall_mem_cons.mpr ⟨mW12_19, List.forall_mem_cons.mpr ⟨mW12_20, List.forall_mem_cons.mpr ⟨mW12_21, List.forall_mem_cons.mpr ⟨mW12_22, List.forall_mem_cons.mpr ⟨mW12_23, List.forall_mem_cons.mpr ⟨mW8_15, List.forall_mem_cons.mpr ⟨mW13_0, fun _ h => absurd h List.not_mem_nil⟩⟩⟩⟩⟩⟩⟩⟩⟩⟩⟩⟩⟩⟩⟩⟩⟩), inlX8⟩⟩
set_option maxRecDepth 20000 in
theorem ggL_law_X8_ahead : GoodIn wsL_law wsX8_ahead := goodIn_sub ggw_X8_ahead (by decide +kernel)
set_option maxRecDepth 20000 in
theorem mq_wsX7_orders_r1 : ∀ w ∈ wsX7_orders_r1, w ∈ wsL_law := List.forall_mem_cons.mpr ⟨mW2_2, List.forall_mem_cons.mpr ⟨mW15_6, List.forall_mem_cons.mpr ⟨mW2_6, List.forall_mem_cons.mpr ⟨mW26_14, List.forall_mem_cons.mpr ⟨mW26_15, List.forall_mem_cons.mpr ⟨mW26_16, List.forall_mem_cons.mpr ⟨mW26_17, List.forall_mem_cons.mpr ⟨mW1_2, List.forall_mem_cons.mpr ⟨mW26_18, List.forall_mem_cons.mpr ⟨mW2_21, List.forall_mem_cons.mpr ⟨mW26_19, List.forall_mem_cons.mpr ⟨mW26_20, List.forall_mem_cons.mpr ⟨mW26_21, List.forall_mem_cons.mpr ⟨mW26_22, List.forall_mem_cons.mpr ⟨mW2_5, List.forall_mem_cons.mpr ⟨mW26_23, List.forall_mem_cons.mpr ⟨mW6_18, List.forall_mem_cons.mpr ⟨mW6_20, List.forall_mem_cons.mpr ⟨mW27_0, List.forall_mem_cons.mpr ⟨mW27_1, List.forall_mem_cons.mpr ⟨mW27_2, List.forall_mem_cons.mpr ⟨mW27_3, List.forall_mem_cons.mpr ⟨mW6_23, List.forall_mem_cons.mpr ⟨mW27_4, fun _ h => absurd h List.not_mem_nil⟩⟩⟩⟩⟩⟩⟩⟩⟩⟩⟩⟩⟩⟩⟩⟩⟩⟩⟩⟩⟩⟩⟩⟩
set_option maxRecDepth 20000 in
theorem mq_wsX7_orders_r2 : ∀ w ∈ wsX7_orders_r2, w ∈ wsL_law := List.forall_mem_cons.mpr ⟨mW27_5, List.forall_mem_cons.mpr ⟨mW6_22, List.forall_mem_cons.mpr ⟨mW6_21, List.forall_mem_cons.mpr ⟨mW27_6, List.forall_mem_cons.mpr ⟨mW3_12, List.forall_mem_cons.mpr ⟨mW3_13, List.forall_mem_cons.mpr ⟨mW3_14, List.forall_mem_cons.mpr ⟨mW27_7, List.forall_mem_cons.mpr ⟨mW27_8, List.forall_mem_cons.mpr ⟨mW27_9, List.forall_mem_cons.mpr ⟨mW27_10, List.forall_mem_cons.mpr ⟨mW27_11, List.forall_mem_cons.mpr ⟨mW27_12, List.forall_mem_cons.mpr ⟨mW27_13, List.forall_mem_cons.mpr ⟨mW6_19, List.forall_mem_cons.mpr ⟨mW27_14, List.forall_mem_cons.mpr ⟨mW27_15, List.forall_mem_cons.mpr ⟨mW27_16, List.forall_mem_cons.mpr ⟨mW27_17, List.forall_mem_cons.mpr ⟨mW27_18, List.forall_mem_cons.mpr ⟨mW24_23, List.forall_mem_cons.mpr ⟨mW25_0, List.forall_mem_cons.mpr ⟨mW25_1, List.forall_mem_cons.mpr ⟨mW25_2, fun _ h => absurd h List.not_mem_nil⟩⟩⟩⟩⟩⟩⟩⟩⟩⟩⟩⟩⟩⟩⟩⟩⟩⟩⟩⟩⟩⟩⟩⟩
set_option maxRecDepth 20000 in
theorem mq_wsX7_orders_r3 : ∀ w ∈ wsX7_orders_r3, w ∈ wsL_law := List.forall_mem_cons.mpr ⟨mW25_3, List.forall_mem_cons.mpr ⟨mW25_4, List.forall_mem_cons.mpr ⟨mW27_19, List.forall_mem_cons.mpr ⟨mW27_20, List.forall_mem_cons.mpr ⟨mW27_21, List.forall_mem_cons.mpr ⟨mW27_22, List.forall_mem_cons.mpr ⟨mW27_23, List.forall_mem_cons.mpr ⟨mW22_7, List.forall_mem_cons.mpr ⟨mW22_8, List.forall_mem_cons.mpr ⟨mW2_1, List.forall_mem_cons.mpr ⟨mW22_9, List.forall_mem_cons.mpr ⟨mW6_13, List.forall_mem_cons.mpr ⟨mW22_10, List.forall_mem_cons.mpr ⟨mW28_0, List.forall_mem_cons.mpr ⟨mW28_1, List.forall_mem_cons.mpr ⟨mW28_2, List.forall_mem_cons.mpr ⟨mW28_3, fun _ h => absurd h List.not_mem_nil⟩⟩⟩⟩⟩⟩⟩⟩⟩⟩⟩⟩⟩⟩⟩⟩⟩
theorem ggw_X7_orders : ∀ w ∈ wsX7_orders, w ∈ wsL_law := List.forall_mem_cons.mpr ⟨mW26_13, List.forall_mem_append.mpr ⟨List.forall_mem_append.mpr ⟨List.forall_mem_append.mpr ⟨List.forall_mem_append.mpr ⟨mq_wsX7_orders_r1, List.forall_mem_append.mpr ⟨mq_wsX7_orders_r2, mq_wsX7_orders_r3⟩⟩, inlX7⟩, inlX0⟩, inlX5⟩⟩
set_option maxRecDepth 20000 in
theorem ggL_law_X7_orders : GoodIn wsL_law wsX7_orders := goodIn_sub ggw_X7_orders (by decide +kernel)
set_option maxRecDepth 20000 in
theorem mq_wsX8_orders_r1 : ∀ w ∈ wsX8_orders_r1, w ∈ wsL_law := List.forall_mem_cons.mpr ⟨mW9_22, List.forall_mem_cons.mpr ⟨mW15_1, List.forall_mem_cons.mpr ⟨mW28_8, List.forall_mem_cons.mpr ⟨mW28_9, List.forall_mem_cons.mpr ⟨mW28_10, List.forall_mem_cons.mpr ⟨mW1_5, List.forall_mem_cons.mpr ⟨mW28_11, List.forall_mem_cons.mpr ⟨mW8_15, List.forall_mem_cons.mpr ⟨mW13_0, List.forall_mem_cons.mpr ⟨mW28_12, List.forall_mem_cons.mpr ⟨mW28_13, List.forall_mem_cons.mpr ⟨mW28_14, List.forall_mem_cons.mpr ⟨mW28_15, List.forall_mem_cons.mpr ⟨mW28_16, List.forall_mem_cons.mpr ⟨mW9_9, List.forall_mem_cons.mpr ⟨mW28_17, List.forall_mem_cons.mpr ⟨mW28_18, List.forall_mem_cons.mpr ⟨mW28_19, List.forall_mem_cons.mpr ⟨mW28_20, List.forall_mem_cons.mpr ⟨mW28_21, List.forall_mem_cons.mpr ⟨mW9_10, List.forall_mem_cons.mpr ⟨mW8_20, List.forall_mem_cons.mpr ⟨mW25_18, List.forall_mem_cons.mpr ⟨mW25_19, fun _ h => absurd h List.not_mem_nil⟩⟩⟩⟩⟩⟩⟩⟩⟩⟩⟩⟩⟩⟩⟩⟩⟩⟩⟩⟩⟩⟩⟩⟩
set_option maxRecDepth 20000 in
theorem mq_wsX8_orders_r2 : ∀ w ∈ wsX8_orders_r2, w ∈ wsL_law := List.forall_mem_cons.mpr ⟨mW25_20, fun _ h => absurd h List.not_mem_nil⟩
theorem ggw_X8_orders : ∀ w ∈ wsX8_orders, w ∈ wsL_law := List.forall_mem_cons.mpr ⟨mW28_7, List.forall_mem_append.mpr ⟨List.forall_mem_append.mpr ⟨mq_wsX8_orders_r1, mq_wsX8_orders_r2⟩, inlX8⟩⟩
set_option maxRecDepth 20000 in
theorem ggL_law_X8_orders : GoodIn wsL_law wsX8_orders := goodIn_sub ggw_X8_orders (by decide +kernel)
set_option maxRecDepth 20000 in
theorem mq_wsX7_order_r1 : ∀ w ∈ wsX7_order_r1, w ∈ wsL_law := List.forall_mem_cons.mpr ⟨mW2_2, List.forall_mem_cons.mpr ⟨mW15_6, List.forall_mem_cons.mpr ⟨mW2_6, List.forall_mem_cons.mpr ⟨mW26_14, List.forall_mem_cons.mpr ⟨mW24_18, List.forall_mem_cons.mpr ⟨mW24_19, List.forall_mem_cons.mpr ⟨mW24_20, List.forall_mem_cons.mpr ⟨mW1_2, List.forall_mem_cons.mpr ⟨mW24_21, List.forall_mem_cons.mpr ⟨mW10_17, List.forall_mem_cons.mpr ⟨mW10_18, List.forall_mem_cons.mpr ⟨mW10_19, List.forall_mem_cons.mpr ⟨mW10_20, List.forall_mem_cons.mpr ⟨mW2_21, List.forall_mem_cons.mpr ⟨mW10_21, List.forall_mem_cons.mpr ⟨mW26_20, List.forall_mem_cons.mpr ⟨mW26_21, List.forall_mem_cons.mpr ⟨mW26_22, List.forall_mem_cons.mpr ⟨mW2_5, List.forall_mem_cons.mpr ⟨mW26_23, List.forall_mem_cons.mpr ⟨mW6_18, List.forall_mem_cons.mpr ⟨mW6_20, List.forall_mem_cons.mpr ⟨mW27_0, List.forall_mem_cons.mpr ⟨mW27_1, fun _ h => absurd h List.not_mem_nil⟩⟩⟩⟩⟩⟩⟩⟩⟩⟩⟩⟩⟩⟩⟩⟩⟩⟩⟩⟩⟩⟩⟩⟩
set_option maxRecDepth 20000 in
theorem mq_wsX7_order_r2 : ∀ w ∈ wsX7_order_r2, w ∈ wsL_law := List.forall_mem_cons.mpr ⟨mW27_2, List.forall_mem_cons.mpr ⟨mW27_3, List.forall_mem_cons.mpr ⟨mW6_23, List.forall_mem_cons.mpr ⟨mW27_4, List.forall_mem_cons.mpr ⟨mW27_5, List.forall_mem_cons.mpr ⟨mW6_22, List.forall_mem_cons.mpr ⟨mW6_21, List.forall_mem_cons.mpr ⟨mW27_6, List.forall_mem_cons.mpr ⟨mW3_12, List.forall_mem_cons.mpr ⟨mW3_13, List.forall_mem_cons.mpr ⟨mW3_14, List.forall_mem_cons.mpr ⟨mW27_7, List.forall_mem_cons.mpr ⟨mW27_8, List.forall_mem_cons.mpr ⟨mW27_9, List.forall_mem_cons.mpr ⟨mW27_10, List.forall_mem_cons.mpr ⟨mW27_11, List.forall_mem_cons.mpr ⟨mW27_12, List.forall_mem_cons.mpr ⟨mW27_13, List.forall_mem_cons.mpr ⟨mW6_19, List.forall_mem_cons.mpr ⟨mW27_14, List.forall_mem_cons.mpr ⟨mW27_15, List.forall_mem_cons.mpr ⟨mW27_16, List.forall_mem_cons.mpr ⟨mW27_17, List.forall_mem_cons.mpr ⟨mW27_18, fun _ h => absurd h List.not_mem_nil⟩⟩⟩⟩⟩⟩⟩⟩⟩⟩⟩⟩⟩⟩⟩⟩⟩⟩⟩⟩⟩⟩⟩⟩
set_option maxRecDepth 20000 in
theorem mq_wsX7_order_r3 : ∀ w ∈ wsX7_order_r3, w ∈ wsL_law := List.forall_mem_cons.mpr ⟨mW24_23, List.forall_mem_cons.mpr ⟨mW25_0, List.forall_mem_cons.mpr ⟨mW25_1, List.forall_mem_cons.mpr ⟨mW25_2, List.forall_mem_cons.mpr ⟨mW25_3, List.forall_mem_cons.mpr ⟨mW25_4, List.forall_mem_cons.mpr ⟨mW27_19, List.forall_mem_cons.mpr ⟨mW27_20, List.forall_mem_cons.mpr ⟨mW27_21, List.forall_mem_cons.mpr ⟨mW27_22, List.forall_mem_cons.mpr ⟨mW27_23, List.forall_mem_cons.mpr ⟨mW22_7, List.forall_mem_cons.mpr ⟨mW22_8, List.forall_mem_cons.mpr ⟨mW2_1, List.forall_mem_cons.mpr ⟨mW22_9, List.forall_mem_cons.mpr ⟨mW6_13, List.forall_mem_cons.mpr ⟨mW22_10, List.forall_mem_cons.mpr ⟨mW28_0, List.forall_mem_cons.mpr ⟨mW28_1, List.forall_mem_cons.mpr ⟨mW28_2, List.forall_mem_cons.mpr ⟨mW28_3, List.forall_mem_cons.mpr ⟨mW29_2, List.forall_mem_cons.mpr ⟨mW29_3, List.forall_mem_cons.mpr ⟨mW29_4, fun _ h => absurd h List.not_mem_nil⟩⟩⟩⟩⟩⟩⟩⟩⟩⟩⟩⟩⟩⟩⟩⟩⟩⟩⟩⟩⟩⟩⟩⟩
set_option maxRecDepth 20000 in
theorem mq_wsX7_order_r4 : ∀ w ∈ wsX7_order_r4, w ∈ wsL_law := List.forall_mem_cons.mpr ⟨mW29_5, List.forall_mem_cons.mpr ⟨mW29_6, List.forall_mem_cons.mpr ⟨mW29_7, List.forall_mem_cons.mpr ⟨mW29_8, List.forall_mem_cons.mpr ⟨mW29_9, fun _ h => absurd h List.not_mem_nil⟩⟩⟩⟩⟩
theorem ggw_X7_order : ∀ w ∈ wsX7_order, w ∈ wsL_law := List.forall_mem_cons.mpr ⟨mW29_1, List.forall_mem_append.mpr ⟨List.forall_mem_append.mpr ⟨List.forall_mem_append.mpr ⟨List.forall_mem_append.mpr ⟨mq_wsX7_order_r1, List.forall_mem_append.mpr ⟨mq_wsX7_order_r2, List.forall_mem_append.mpr ⟨mq_wsX7_order_r3, mq_wsX7_order_r4⟩⟩⟩, inlX7⟩, inlX0⟩, inlX5⟩⟩
set_option maxRecDepth 20000 in
theorem ggL_law_X7_order : GoodIn wsL_law wsX7_order := goodIn_sub ggw_X7_order (by decide +kernel)
set_option maxRecDepth 20000 in
theorem mq_wsX8_order_r1 : ∀ w ∈ wsX8_order_r1, w ∈ wsL_law := List.forall_mem_cons.mpr ⟨mW9_22, List.forall_mem_cons.mpr ⟨mW12_16, List.forall_mem_cons.mpr ⟨mW15_1, List.forall_mem_cons.mpr ⟨mW22_23, List.forall_mem_cons.mpr ⟨mW8_20, List.forall_mem_cons.mpr ⟨mW12_17, List.forall_mem_cons.mpr ⟨mW12_18, List.forall_mem_cons.mpr ⟨mW1_5, List.forall_mem_cons.mpr ⟨mW12_19, List.forall_mem_cons.mpr ⟨mW12_20, List.forall_mem_cons.mpr ⟨mW12_21, List.forall_mem_cons.mpr ⟨mW12_22, List.forall_mem_cons.mpr ⟨mW12_23, List.forall_mem_cons.mpr ⟨mW8_15, List.forall_mem_cons.mpr ⟨mW13_0, List.forall_mem_cons.mpr ⟨mW28_13, List.forall_mem_cons.mpr ⟨mW28_14, List.forall_mem_cons.mpr ⟨mW28_15, List.forall_mem_cons.mpr ⟨mW28_16, List.forall_mem_cons.mpr ⟨mW9_9, List.forall_mem_cons.mpr ⟨mW28_17, List.forall_mem_cons.mpr ⟨mW28_18, List.forall_mem_cons.mpr ⟨mW28_19, List.forall_mem_cons.mpr ⟨mW28_20, fun _ h => absurd h List.not_mem_nil⟩⟩⟩⟩⟩⟩⟩⟩⟩⟩⟩⟩⟩⟩⟩⟩⟩⟩⟩⟩⟩⟩⟩⟩
set_option maxRecDepth 20000 in
theorem mq_wsX8_order_r2 : ∀ w ∈ wsX8_order_r2, w ∈ wsL_law := List.forall_mem_cons.mpr ⟨mW28_21, List.forall_mem_cons.mpr ⟨mW9_10, List.forall_mem_cons.mpr ⟨mW25_18, List.forall_mem_cons.mpr ⟨mW25_19, List.forall_mem_cons.mpr ⟨mW25_20, fun _ h => absurd h List.not_mem_nil⟩⟩⟩⟩⟩
theorem ggw_X8_order : ∀ w ∈ wsX8_order, w ∈ wsL_law := List.forall_mem_cons.mpr ⟨mW29_13, List.forall_mem_append.mpr ⟨List.forall_mem_append.mpr ⟨mq_wsX8_order_r1, mq_wsX8_order_r2⟩, inlX8⟩⟩
set_option maxRecDepth 20000 in
theorem ggL_law_X8_order : GoodIn wsL_law wsX8_order := goodIn_sub ggw_X8_order (by decide +kernel)
set_option maxRecDepth 20000 in
theorem mq_wsX7_rank_r1 : ∀ w ∈ wsX7_rank_r1, w ∈ wsL_law := List.forall_mem_cons.mpr ⟨mW2_2, List.forall_mem_cons.mpr ⟨mW15_6, List.forall_mem_cons.mpr ⟨mW2_19, List.forall_mem_cons.mpr ⟨mW29_18, List.forall_mem_cons.mpr ⟨mW2_6, List.forall_mem_cons.mpr ⟨mW29_19, List.forall_mem_cons.mpr ⟨mW29_20, List.forall_mem_cons.mpr ⟨mW1_2, List.forall_mem_cons.mpr ⟨mW29_21, List.forall_mem_cons.mpr ⟨mW26_15, List.forall_mem_cons.mpr ⟨mW26_16, List.forall_mem_cons.mpr ⟨mW26_17, List.forall_mem_cons.mpr ⟨mW26_18, List.forall_mem_cons.mpr ⟨mW2_21, List.forall_mem_cons.mpr ⟨mW26_19, List.forall_mem_cons.mpr ⟨mW26_20, List.forall_mem_cons.mpr ⟨mW26_21, List.forall_mem_cons.mpr ⟨mW26_22, List.forall_mem_cons.mpr ⟨mW2_5, List.forall_mem_cons.mpr ⟨mW26_23, List.forall_mem_cons.mpr ⟨mW6_18, List.forall_mem_cons.mpr ⟨mW6_20, List.forall_mem_cons.mpr ⟨mW27_0, List.forall_mem_cons.mpr ⟨mW27_1, fun _ h => absurd h List.not_mem_nil⟩⟩⟩⟩⟩⟩⟩⟩⟩⟩⟩⟩⟩⟩⟩⟩⟩⟩⟩⟩⟩⟩⟩⟩
set_option maxRecDepth 20000 in
theorem mq_wsX7_rank_r2 : ∀ w ∈ wsX7_rank_r2, w ∈ wsL_law := List.forall_mem_cons.mpr ⟨mW27_2, List.forall_mem_cons.mpr ⟨mW27_3, List.forall_mem_cons.mpr ⟨mW6_23, List.forall_mem_cons.mpr ⟨mW27_4, List.forall_mem_cons.mpr ⟨mW27_5, List.forall_mem_cons.mpr ⟨mW6_22, List.forall_mem_cons.mpr ⟨mW6_21, List.forall_mem_cons.mpr ⟨mW27_6, List.forall_mem_cons.mpr ⟨mW3_12, List.forall_mem_cons.mpr ⟨mW3_13, List.forall_mem_cons.mpr ⟨mW3_14, List.forall_mem_cons.mpr ⟨mW27_7, List.forall_mem_cons.mpr ⟨mW27_8, List.forall_mem_cons.mpr ⟨mW27_9, List.forall_mem_cons.mpr ⟨mW27_10, List.forall_mem_cons.mpr ⟨mW27_11, List.forall_mem_cons.mpr ⟨mW27_12, List.forall_mem_cons.mpr ⟨mW27_13, List.forall_mem_cons.mpr ⟨mW6_19, List.forall_mem_cons.mpr ⟨mW27_14, List.forall_mem_cons.mpr ⟨mW27_15, List.forall_mem_cons.mpr ⟨mW27_16, List.forall_mem_cons.mpr ⟨mW27_17, List.forall_mem_cons.mpr ⟨mW27_18, fun _ h => absurd h List.not_mem_nil⟩⟩⟩⟩⟩⟩⟩⟩⟩⟩⟩⟩⟩⟩⟩⟩⟩⟩⟩⟩⟩⟩⟩⟩
set_option maxRecDepth 20000 in
theorem mq_wsX7_rank_r3 : ∀ w ∈ wsX7_rank_r3, w ∈ wsL_law := List.forall_mem_cons.mpr ⟨mW24_23, List.forall_mem_cons.mpr ⟨mW25_0, List.forall_mem_cons.mpr ⟨mW25_1, List.forall_mem_cons.mpr ⟨mW25_2, List.forall_mem_cons.mpr ⟨mW25_3, List.forall_mem_cons.mpr ⟨mW25_4, List.forall_mem_cons.mpr ⟨mW27_19, List.forall_mem_cons.mpr ⟨mW27_20, List.forall_mem_cons.mpr ⟨mW27_21, List.forall_mem_cons.mpr ⟨mW27_22, List.forall_mem_cons.mpr ⟨mW27_23, List.forall_mem_cons.mpr ⟨mW22_7, List.forall_mem_cons.mpr ⟨mW22_8, List.forall_mem_cons.mpr ⟨mW2_1, List.forall_mem_cons.mpr ⟨mW22_9, List.forall_mem_cons.mpr ⟨mW6_13, List.forall_mem_cons.mpr ⟨mW22_10, List.forall_mem_cons.mpr ⟨mW28_0, List.forall_mem_cons.mpr ⟨mW28_1, List.forall_mem_cons.mpr ⟨mW28_2, List.forall_mem_cons.mpr ⟨mW28_3, List.forall_mem_cons.mpr ⟨mW29_22, List.forall_mem_cons.mpr ⟨mW29_23, List.forall_mem_cons.mpr ⟨mW30_0, fun _ h => absurd h List.not_mem_nil⟩⟩⟩⟩⟩⟩⟩⟩⟩⟩⟩⟩⟩⟩⟩⟩⟩⟩⟩⟩⟩⟩⟩⟩
set_option maxRecDepth 20000 in
theorem mq_wsX7_rank_r4 : ∀ w ∈ wsX7_rank_r4, w ∈ wsL_law := List.forall_mem_cons.mpr ⟨mW30_1, List.forall_mem_cons.mpr ⟨mW30_2, List.forall_mem_cons.mpr ⟨mW30_3, List.forall_mem_cons.mpr ⟨mW30_4, List.forall_mem_cons.mpr ⟨mW29_6, List.forall_mem_cons.mpr ⟨mW29_7, List.forall_mem_cons.mpr ⟨mW29_8, List.forall_mem_cons.mpr ⟨mW29_9, fun _ h => absurd h List.not_mem_nil⟩⟩⟩⟩⟩⟩⟩⟩
theorem ggw_X7_rank : ∀ w ∈ wsX7_rank, w ∈ wsL_law := List.forall_mem_cons.mpr ⟨mW29_17, List.forall_mem_append.mpr ⟨List.forall_mem_append.mpr ⟨List.forall_mem_append.mpr ⟨List.forall_mem_append.mpr ⟨List.forall_mem_append.mpr ⟨mq_wsX7_rank_r1, List.forall_mem_append.mpr ⟨mq_wsX7_rank_r2, List.forall_mem_append.mpr ⟨mq_wsX7_rank_r3, mq_wsX7_rank_r4⟩⟩⟩, inlX7⟩, inlX0⟩, inlX3⟩, inlX5⟩⟩
set_option maxRecDepth 20000 in
theorem ggL_law_X7_rank : GoodIn wsL_law wsX7_rank := goodIn_sub ggw_X7_rank (by decide +kernel)
set_option maxRecDepth 20000 in
theorem mq_wsX8_rank_r1 : ∀ w ∈ wsX8_rank_r1, w ∈ wsL_law := List.forall_mem_cons.mpr ⟨mW12_16, List.forall_mem_cons.mpr ⟨mW9_22, List.forall_mem_cons.mpr ⟨mW15_1, List.forall_mem_cons.mpr ⟨mW9_11, List.forall_mem_cons.mpr ⟨mW30_9, List.forall_mem_cons.mpr ⟨mW13_23, List.forall_mem_cons.mpr ⟨mW30_10, List.forall_mem_cons.mpr ⟨mW30_11, List.forall_mem_cons.mpr ⟨mW1_5, List.forall_mem_cons.mpr ⟨mW30_12, List.forall_mem_cons.mpr ⟨mW30_13, List.forall_mem_cons.mpr ⟨mW12_17, List.forall_mem_cons.mpr ⟨mW12_18, List.forall_mem_cons.mpr ⟨mW12_19, List.forall_mem_cons.mpr ⟨mW28_8, List.forall_mem_cons.mpr ⟨mW28_9, List.forall_mem_cons.mpr ⟨mW28_10, List.forall_mem_cons.mpr ⟨mW28_11, List.forall_mem_cons.mpr ⟨mW8_15, List.forall_mem_cons.mpr ⟨mW13_0, List.forall_mem_cons.mpr ⟨mW28_12, List.forall_mem_cons.mpr ⟨mW30_14, List.forall_mem_cons.mpr ⟨mW30_15, List.forall_mem_cons.mpr ⟨mW30_16, fun _ h => absurd h List.not_mem_nil⟩⟩⟩⟩⟩⟩⟩⟩⟩⟩⟩⟩⟩⟩⟩⟩⟩⟩⟩⟩⟩⟩⟩⟩
set_option maxRecDepth 20000 in
theorem mq_wsX8_rank_r2 : ∀ w ∈ wsX8_rank_r2, w ∈ wsL_law := List.forall_mem_cons.mpr ⟨mW30_17, List.forall_mem_cons.mpr ⟨mW9_12, List.forall_mem_cons.mpr ⟨mW13_21, List.forall_mem_cons.mpr ⟨mW9_13, List.forall_mem_cons.mpr ⟨mW8_20, List.forall_mem_cons.mpr ⟨mW28_13, List.forall_mem_cons.mpr ⟨mW28_14, List.forall_mem_cons.mpr ⟨mW28_15, List.forall_mem_cons.mpr ⟨mW28_16, List.forall_mem_cons.mpr ⟨mW9_9, List.forall_mem_cons.mpr ⟨mW25_14, List.forall_mem_cons.mpr ⟨mW25_15, List.forall_mem_cons.mpr ⟨mW25_16, List.forall_mem_cons.mpr ⟨mW25_17, List.forall_mem_cons.mpr ⟨mW28_17, List.forall_mem_cons.mpr ⟨mW28_18, List.forall_mem_cons.mpr ⟨mW28_19, List.forall_mem_cons.mpr ⟨mW28_20, List.forall_mem_cons.mpr ⟨mW28_21, List.forall_mem_cons.mpr ⟨mW9_10, List.forall_mem_cons.mpr ⟨mW25_18, List.forall_mem_cons.mpr ⟨mW25_19, List.forall_mem_cons.mpr ⟨mW25_20, fun _ h => absurd h List.not_mem_nil⟩⟩⟩⟩⟩⟩⟩⟩⟩⟩⟩⟩⟩⟩⟩⟩⟩⟩⟩⟩⟩⟩⟩
theorem ggw_X8_rank : ∀ w ∈ wsX8_rank, w ∈ wsL_law := List.forall_mem_cons.mpr ⟨mW30_8, List.forall_mem_append.mpr ⟨List.forall_mem_append.mpr ⟨mq_wsX8_rank_r1, mq_wsX8_rank_r2⟩, inlX8⟩⟩
set_option maxRecDepth 20000 in
theorem ggL_law_X8_rank : GoodIn wsL_law wsX8_rank := goodIn_sub ggw_X8_rank (by decide +kernel)
set_option maxRecDepth 20000 in
theorem mq_wsX7_work_r1 : ∀ w ∈ wsX7_work_r1, w ∈ wsL_law := List.forall_mem_cons.mpr ⟨mW1_16, List.forall_mem_cons.mpr ⟨mW2_2, List.forall_mem_cons.mpr ⟨mW24_15, List.forall_mem_cons.mpr ⟨mW30_22, List.forall_mem_cons.mpr ⟨mW30_23, List.forall_mem_cons.mpr ⟨mW31_0, List.forall_mem_cons.mpr ⟨mW1_2, List.forall_mem_cons.mpr ⟨mW31_1, List.forall_mem_cons.mpr ⟨mW2_13, List.forall_mem_cons.mpr ⟨mW2_10, List.forall_mem_cons.mpr ⟨mW24_14, List.forall_mem_cons.mpr ⟨mW31_2, List.forall_mem_cons.mpr ⟨mW31_3, List.forall_mem_cons.mpr ⟨mW11_3, List.forall_mem_cons.mpr ⟨mW24_18, List.forall_mem_cons.mpr ⟨mW24_19, List.forall_mem_cons.mpr ⟨mW24_20, List.forall_mem_cons.mpr ⟨mW24_21, List.forall_mem_cons.mpr ⟨mW15_6, List.forall_mem_cons.mpr ⟨mW25_9, List.forall_mem_cons.mpr ⟨mW22_7, List.forall_mem_cons.mpr ⟨mW22_8, List.forall_mem_cons.mpr ⟨mW2_1, List.forall_mem_cons.mpr ⟨mW22_9, fun _ h => absurd h List.not_mem_nil⟩⟩⟩⟩⟩⟩⟩⟩⟩⟩⟩⟩⟩⟩⟩⟩⟩⟩⟩⟩⟩⟩⟩⟩
set_option maxRecDepth 20000 in
theorem mq_wsX7_work_r2 : ∀ w ∈ wsX7_work_r2, w ∈ wsL_law := List.forall_mem_cons.mpr ⟨mW6_13, List.forall_mem_cons.mpr ⟨mW22_10, List.forall_mem_cons.mpr ⟨mW17_19, List.forall_mem_cons.mpr ⟨mW17_20, List.forall_mem_cons.mpr ⟨mW17_21, List.forall_mem_cons.mpr ⟨mW2_9, List.forall_mem_cons.mpr ⟨mW17_22, List.forall_mem_cons.mpr ⟨mW7_6, List.forall_mem_cons.mpr ⟨mW7_4, List.forall_mem_cons.mpr ⟨mW17_23, List.forall_mem_cons.mpr ⟨mW18_0, List.forall_mem_cons.mpr ⟨mW18_1, List.forall_mem_cons.mpr ⟨mW18_2, List.forall_mem_cons.mpr ⟨mW18_3, List.forall_mem_cons.mpr ⟨mW18_4, List.forall_mem_cons.mpr ⟨mW7_5, List.forall_mem_cons.mpr ⟨mW7_13, List.forall_mem_cons.mpr ⟨mW7_14, List.forall_mem_cons.mpr ⟨mW18_5, List.forall_mem_cons.mpr ⟨mW18_6, List.forall_mem_cons.mpr ⟨mW18_7, List.forall_mem_cons.mpr ⟨mW18_8, List.forall_mem_cons.mpr ⟨mW7_7, List.forall_mem_cons.mpr ⟨mW7_8, fun _ h => absurd h List.not_mem_nil⟩⟩⟩⟩⟩⟩⟩⟩⟩⟩⟩⟩⟩⟩⟩⟩⟩⟩⟩⟩⟩⟩⟩⟩
set_option maxRecDepth 20000 in
theorem mq_wsX7_work_r3 : ∀ w ∈ wsX7_work_r3, w ∈ wsL_law := List.forall_mem_cons.mpr ⟨mW7_11, List.forall_mem_cons.mpr ⟨mW18_9, List.forall_mem_cons.mpr ⟨mW18_10, List.forall_mem_cons.mpr ⟨mW18_11, List.forall_mem_cons.mpr ⟨mW18_12, List.forall_mem_cons.mpr ⟨mW7_10, List.forall_mem_cons.mpr ⟨mW7_9, List.forall_mem_cons.mpr ⟨mW18_13, List.forall_mem_cons.mpr ⟨mW18_14, List.forall_mem_cons.mpr ⟨mW18_15, List.forall_mem_cons.mpr ⟨mW1_20, List.forall_mem_cons.mpr ⟨mW18_16, List.forall_mem_cons.mpr ⟨mW6_1, List.forall_mem_cons.mpr ⟨mW18_17, List.forall_mem_cons.mpr ⟨mW12_8, List.forall_mem_cons.mpr ⟨mW12_5, List.forall_mem_cons.mpr ⟨mW12_9, List.forall_mem_cons.mpr ⟨mW6_0, List.forall_mem_cons.mpr ⟨mW5_23, List.forall_mem_cons.mpr ⟨mW18_18, List.forall_mem_cons.mpr ⟨mW18_19, List.forall_mem_cons.mpr ⟨mW18_20, List.forall_mem_cons.mpr ⟨mW18_21, List.forall_mem_cons.mpr ⟨mW31_4, fun _ h => absurd h List.not_mem_nil⟩⟩⟩⟩⟩⟩⟩⟩⟩⟩⟩⟩⟩⟩⟩⟩⟩⟩⟩⟩⟩⟩⟩⟩
set_option maxRecDepth 20000 in
theorem mq_wsX7_work_r4 : ∀ w ∈ wsX7_work_r4, w ∈ wsL_law := List.forall_mem_cons.mpr ⟨mW31_5, List.forall_mem_cons.mpr ⟨mW31_6, List.forall_mem_cons.mpr ⟨mW31_7, List.forall_mem_cons.mpr ⟨mW31_8, List.forall_mem_cons.mpr ⟨mW31_9, List.forall_mem_cons.mpr ⟨mW31_10, List.forall_mem_cons.mpr ⟨mW31_11, List.forall_mem_cons.mpr ⟨mW11_4, List.forall_mem_cons.mpr ⟨mW11_5, List.forall_mem_cons.mpr ⟨mW11_6, List.forall_mem_cons.mpr ⟨mW11_7, List.forall_mem_cons.mpr ⟨mW7_16, List.forall_mem_cons.mpr ⟨mW7_17, List.forall_mem_cons.mpr ⟨mW7_18, List.forall_mem_cons.mpr ⟨mW7_19, List.forall_mem_cons.mpr ⟨mW7_20, List.forall_mem_cons.mpr ⟨mW3_12, List.forall_mem_cons.mpr ⟨mW3_13, List.forall_mem_cons.mpr ⟨mW3_14, List.forall_mem_cons.mpr ⟨mW11_8, List.forall_mem_cons.mpr ⟨mW11_9, List.forall_mem_cons.mpr ⟨mW11_10, List.forall_mem_cons.mpr ⟨mW11_11, List.forall_mem_cons.mpr ⟨mW6_2, fun _ h => absurd h List.not_mem_nil⟩⟩⟩⟩⟩⟩⟩⟩⟩⟩⟩⟩⟩⟩⟩⟩⟩⟩⟩⟩⟩⟩⟩⟩
set_option maxRecDepth 20000 in
theorem mq_wsX7_work_r5 : ∀ w ∈ wsX7_work_r5, w ∈ wsL_law := List.forall_mem_cons.mpr ⟨mW10_17, List.forall_mem_cons.mpr ⟨mW10_18, List.forall_mem_cons.mpr ⟨mW10_19, List.forall_mem_cons.mpr ⟨mW10_20, List.forall_mem_cons.mpr ⟨mW2_21, List.forall_mem_cons.mpr ⟨mW10_21, List.forall_mem_cons.mpr ⟨mW31_12, List.forall_mem_cons.mpr ⟨mW31_13, List.forall_mem_cons.mpr ⟨mW31_14, List.forall_mem_cons.mpr ⟨mW1_15, List.forall_mem_cons.mpr ⟨mW31_15, List.forall_mem_cons.mpr ⟨mW3_7, List.forall_mem_cons.mpr ⟨mW3_6, fun _ h => absurd h List.not_mem_nil⟩⟩⟩⟩⟩⟩⟩⟩⟩⟩⟩⟩⟩
theorem ggw_X7_work : ∀ w ∈ wsX7_work, w ∈ wsL_law := List.forall_mem_cons.mpr ⟨mW30_21, List.forall_mem_append.mpr ⟨List.forall_mem_append.mpr ⟨List.forall_mem_append.mpr ⟨List.forall_mem_append.mpr ⟨List.forall_mem_append.mpr ⟨List.forall_mem_append.mpr ⟨mq_wsX7_work_r1, List.forall_mem_append.mpr ⟨mq_wsX7_work_r2, List.forall_mem_append.mpr ⟨mq_wsX7_work_r3, List.forall_mem_append.mpr ⟨mq_wsX7_work_r4, mq_wsX7_work_r5⟩⟩⟩⟩, inlX7⟩, inlX0⟩, inlX2⟩, inlX6⟩, inlX1⟩⟩
set_option maxRecDepth 20000 in
theorem ggL_law_X7_work : GoodIn wsL_law wsX7_work := goodIn_sub ggw_X7_work (by decide +kernel)
set_option maxRecDepth 20000 in
theorem mq_wsX8_work_r1 : ∀ w ∈ wsX8_work_r1, w ∈ wsL_law := List.forall_mem_cons.mpr ⟨mW31_20, List.forall_mem_cons.mpr ⟨mW31_21, List.forall_mem_cons.mpr ⟨mW31_22, List.forall_mem_cons.mpr ⟨mW1_5, List.forall_mem_cons.mpr ⟨mW31_23, List.forall_mem_cons.mpr ⟨mW12_16, List.forall_mem_cons.mpr ⟨mW13_23, List.forall_mem_cons.mpr ⟨mW8_23, List.forall_mem_cons.mpr ⟨mW8_12, List.forall_mem_cons.mpr ⟨mW32_0, List.forall_mem_cons.mpr ⟨mW25_14, List.forall_mem_cons.mpr ⟨mW25_15, List.forall_mem_cons.mpr ⟨mW25_16, List.forall_mem_cons.mpr ⟨mW25_17, List.forall_mem_cons.mpr ⟨mW9_22, List.forall_mem_cons.mpr ⟨mW12_17, List.forall_mem_cons.mpr ⟨mW12_18, List.forall_mem_cons.mpr ⟨mW12_19, List.forall_mem_cons.mpr ⟨mW23_21, List.forall_mem_cons.mpr ⟨mW23_22, List.forall_mem_cons.mpr ⟨mW23_23, List.forall_mem_cons.mpr ⟨mW24_0, List.forall_mem_cons.mpr ⟨mW8_20, List.forall_mem_cons.mpr ⟨mW13_21, fun _ h => absurd h List.not_mem_nil⟩⟩⟩⟩⟩⟩⟩⟩⟩⟩⟩⟩⟩⟩⟩⟩⟩⟩⟩⟩⟩⟩⟩⟩
set_option maxRecDepth 20000 in
theorem mq_wsX8_work_r2 : ∀ w ∈ wsX8_work_r2, w ∈ wsL_law := List.forall_mem_cons.mpr ⟨mW24_1, List.forall_mem_cons.mpr ⟨mW24_2, List.forall_mem_cons.mpr ⟨mW24_3, List.forall_mem_cons.mpr ⟨mW24_4, List.forall_mem_cons.mpr ⟨mW32_1, List.forall_mem_cons.mpr ⟨mW32_2, List.forall_mem_cons.mpr ⟨mW32_3, List.forall_mem_cons.mpr ⟨mW32_4, List.forall_mem_cons.mpr ⟨mW19_16, List.forall_mem_cons.mpr ⟨mW19_17, List.forall_mem_cons.mpr ⟨mW19_18, List.forall_mem_cons.mpr ⟨mW19_19, List.forall_mem_cons.mpr ⟨mW19_14, List.forall_mem_cons.mpr ⟨mW8_22, List.forall_mem_cons.mpr ⟨mW32_5, List.forall_mem_cons.mpr ⟨mW32_6, List.forall_mem_cons.mpr ⟨mW32_7, List.forall_mem_cons.mpr ⟨mW32_8, List.forall_mem_cons.mpr ⟨mW8_17, List.forall_mem_cons.mpr ⟨mW8_18, List.forall_mem_cons.mpr ⟨mW19_20, List.forall_mem_cons.mpr ⟨mW19_21, List.forall_mem_cons.mpr ⟨mW19_22, List.forall_mem_cons.mpr ⟨mW19_23, fun _ h => absurd h List.not_mem_nil⟩⟩⟩⟩⟩⟩⟩⟩⟩⟩⟩⟩⟩⟩⟩⟩⟩⟩⟩⟩⟩⟩⟩⟩
set_option maxRecDepth 20000 in
theorem mq_wsX8_work_r3 : ∀ w ∈ wsX8_work_r3, w ∈ wsL_law := List.forall_mem_cons.mpr ⟨mW20_0, List.forall_mem_cons.mpr ⟨mW20_1, List.forall_mem_cons.mpr ⟨mW20_2, List.forall_mem_cons.mpr ⟨mW20_3, List.forall_mem_cons.mpr ⟨mW20_4, List.forall_mem_cons.mpr ⟨mW20_5, List.forall_mem_cons.mpr ⟨mW20_6, List.forall_mem_cons.mpr ⟨mW20_7, List.forall_mem_cons.mpr ⟨mW9_0, List.forall_mem_cons.mpr ⟨mW9_1, List.forall_mem_cons.mpr ⟨mW9_2, List.forall_mem_cons.mpr ⟨mW9_3, List.forall_mem_cons.mpr ⟨mW9_4, List.forall_mem_cons.mpr ⟨mW32_9, List.forall_mem_cons.mpr ⟨mW32_10, List.forall_mem_cons.mpr ⟨mW32_11, List.forall_mem_cons.mpr ⟨mW32_12, List.forall_mem_cons.mpr ⟨mW12_20, List.forall_mem_cons.mpr ⟨mW12_21, List.forall_mem_cons.mpr ⟨mW12_22, List.forall_mem_cons.mpr ⟨mW12_23, List.forall_mem_cons.mpr ⟨mW8_15, List.forall_mem_cons.mpr ⟨mW13_0, List.forall_mem_cons.mpr ⟨mW32_13, fun _ h => absurd h List.not_mem_nil⟩⟩⟩⟩⟩⟩⟩⟩⟩⟩⟩⟩⟩⟩⟩⟩⟩⟩⟩⟩⟩⟩⟩⟩
set_option maxRecDepth 20000 in
theorem mq_wsX8_work_r4 : ∀ w ∈ wsX8_work_r4, w ∈ wsL_law := List.forall_mem_cons.mpr ⟨mW32_14, List.forall_mem_cons.mpr ⟨mW32_15, List.forall_mem_cons.mpr ⟨mW32_16, fun _ h => absurd h List.not_mem_nil⟩⟩⟩
theorem ggw_X8_work : ∀ w ∈ wsX8_work, w ∈ wsL_law := List.forall_mem_cons.mpr ⟨mW31_19, List.forall_mem_append.mpr ⟨List.forall_mem_append.mpr ⟨mq_wsX8_work_r1, List.forall_mem_append.mpr ⟨mq_wsX8_work_r2, List.forall_mem_append.mpr ⟨mq_wsX8_work_r3, mq_wsX8_work_r4⟩⟩⟩, inlX8⟩⟩
set_option maxRecDepth 20000 in
theorem ggL_law_X8_work : GoodIn wsL_law wsX8_work := goodIn_sub ggw_X8_work (by decide +kernel)
set_option maxRecDepth 20000 in
theorem mq_wsX7_works_r1 : ∀ w ∈ wsX7_works_r1, w ∈ wsL_law := List.forall_mem_cons.mpr ⟨mW2_19, List.forall_mem_cons.mpr ⟨mW29_18, List.forall_mem_cons.mpr ⟨mW32_21, List.forall_mem_cons.mpr ⟨mW32_22, List.forall_mem_cons.mpr ⟨mW29_19, List.forall_mem_cons.mpr ⟨mW29_20, List.forall_mem_cons.mpr ⟨mW1_2, List.forall_mem_cons.mpr ⟨mW29_21, List.forall_mem_cons.mpr ⟨mW10_17, List.forall_mem_cons.mpr ⟨mW10_18, List.forall_mem_cons.mpr ⟨mW10_19, List.forall_mem_cons.mpr ⟨mW10_20, List.forall_mem_cons.mpr ⟨mW2_21, List.forall_mem_cons.mpr ⟨mW10_21, List.forall_mem_cons.mpr ⟨mW30_22, List.forall_mem_cons.mpr ⟨mW30_23, List.forall_mem_cons.mpr ⟨mW31_0, List.forall_mem_cons.mpr ⟨mW31_1, List.forall_mem_cons.mpr ⟨mW2_2, List.forall_mem_cons.mpr ⟨mW2_13, List.forall_mem_cons.mpr ⟨mW2_10, List.forall_mem_cons.mpr ⟨mW1_16, List.forall_mem_cons.mpr ⟨mW24_15, List.forall_mem_cons.mpr ⟨mW24_14, fun _ h => absurd h List.not_mem_nil⟩⟩⟩⟩⟩⟩⟩⟩⟩⟩⟩⟩⟩⟩⟩⟩⟩⟩⟩⟩⟩⟩⟩⟩
set_option maxRecDepth 20000 in
theorem mq_wsX7_works_r2 : ∀ w ∈ wsX7_works_r2, w ∈ wsL_law := List.forall_mem_cons.mpr ⟨mW31_2, List.forall_mem_cons.mpr ⟨mW31_3, List.forall_mem_cons.mpr ⟨mW11_3, List.forall_mem_cons.mpr ⟨mW24_18, List.forall_mem_cons.mpr ⟨mW24_19, List.forall_mem_cons.mpr ⟨mW24_20, List.forall_mem_cons.mpr ⟨mW24_21, List.forall_mem_cons.mpr ⟨mW15_6, List.forall_mem_cons.mpr ⟨mW25_9, List.forall_mem_cons.mpr ⟨mW22_7, List.forall_mem_cons.mpr ⟨mW22_8, List.forall_mem_cons.mpr ⟨mW2_1, List.forall_mem_cons.mpr ⟨mW22_9, List.forall_mem_cons.mpr ⟨mW6_13, List.forall_mem_cons.mpr ⟨mW22_10, List.forall_mem_cons.mpr ⟨mW17_19, List.forall_mem_cons.mpr ⟨mW17_20, List.forall_mem_cons.mpr ⟨mW17_21, List.forall_mem_cons.mpr ⟨mW2_9, List.forall_mem_cons.mpr ⟨mW17_22, List.forall_mem_cons.mpr ⟨mW7_6, List.forall_mem_cons.mpr ⟨mW7_4, List.forall_mem_cons.mpr ⟨mW17_23, List.forall_mem_cons.mpr ⟨mW18_0, fun _ h => absurd h List.not_mem_nil⟩⟩⟩⟩⟩⟩⟩⟩⟩⟩⟩⟩⟩⟩⟩⟩⟩⟩⟩⟩⟩⟩⟩⟩
set_option maxRecDepth 20000 in
theorem mq_wsX7_works_r3 : ∀ w ∈ wsX7_works_r3, w ∈ wsL_law := List.forall_mem_cons.mpr ⟨mW18_1, List.forall_mem_cons.mpr ⟨mW18_2, List.forall_mem_cons.mpr ⟨mW18_3, List.forall_mem_cons.mpr ⟨mW18_4, List.forall_mem_cons.mpr ⟨mW7_5, List.forall_mem_cons.mpr ⟨mW7_13, List.forall_mem_cons.mpr ⟨mW7_14, List.forall_mem_cons.mpr ⟨mW18_5, List.forall_mem_cons.mpr ⟨mW18_6, List.forall_mem_cons.mpr ⟨mW18_7, List.forall_mem_cons.mpr ⟨mW18_8, List.forall_mem_cons.mpr ⟨mW7_7, List.forall_mem_cons.mpr ⟨mW7_8, List.forall_mem_cons.mpr ⟨mW7_11, List.forall_mem_cons.mpr ⟨mW18_9, List.forall_mem_cons.mpr ⟨mW18_10, List.forall_mem_cons.mpr ⟨mW18_11, List.forall_mem_cons.mpr ⟨mW18_12, List.forall_mem_cons.mpr ⟨mW7_10, List.forall_mem_cons.mpr ⟨mW7_9, List.forall_mem_cons.mpr ⟨mW18_13, List.forall_mem_cons.mpr ⟨mW18_14, List.forall_mem_cons.mpr ⟨mW18_15, List.forall_mem_cons.mpr ⟨mW1_20, fun _ h => absurd h List.not_mem_nil⟩⟩⟩⟩⟩⟩⟩⟩⟩⟩⟩⟩⟩⟩⟩⟩⟩⟩⟩⟩⟩⟩⟩⟩
set_option maxRecDepth 20000 in
theorem mq_wsX7_works_r4 : ∀ w ∈ wsX7_works_r4, w ∈ wsL_law := List.forall_mem_cons.mpr ⟨mW18_16, List.forall_mem_cons.mpr ⟨mW6_1, List.forall_mem_cons.mpr ⟨mW18_17, List.forall_mem_cons.mpr ⟨mW12_8, List.forall_mem_cons.mpr ⟨mW12_5, List.forall_mem_cons.mpr ⟨mW12_9, List.forall_mem_cons.mpr ⟨mW6_0, List.forall_mem_cons.mpr ⟨mW5_23, List.forall_mem_cons.mpr ⟨mW18_18, List.forall_mem_cons.mpr ⟨mW18_19, List.forall_mem_cons.mpr ⟨mW18_20, List.forall_mem_cons.mpr ⟨mW18_21, List.forall_mem_cons.mpr ⟨mW31_4, List.forall_mem_cons.mpr ⟨mW31_5, List.forall_mem_cons.mpr ⟨mW31_6, List.forall_mem_cons.mpr ⟨mW31_7, List.forall_mem_cons.mpr ⟨mW31_8, List.forall_mem_cons.mpr ⟨mW31_9, List.forall_mem_cons.mpr ⟨mW31_10, List.forall_mem_cons.mpr ⟨mW31_11, List.forall_mem_cons.mpr ⟨mW11_4, List.forall_mem_cons.mpr ⟨mW11_5, List.forall_mem_cons.mpr ⟨mW11_6, List.forall_mem_cons.mpr ⟨mW11_7, fun _ h => absurd h List.not_mem_nil⟩⟩⟩⟩⟩⟩⟩⟩⟩⟩⟩⟩⟩⟩⟩⟩⟩⟩⟩⟩⟩⟩⟩⟩
set_option maxRecDepth 20000 in
theorem mq_wsX7_works_r5 : ∀ w ∈ wsX7_works_r5, w ∈ wsL_law := List.forall_mem_cons.mpr ⟨mW7_16, List.forall_mem_cons.mpr ⟨mW7_17, List.forall_mem_cons.mpr ⟨mW7_18, List.forall_mem_cons.mpr ⟨mW7_19, List.forall_mem_cons.mpr ⟨mW7_20, List.forall_mem_cons.mpr ⟨mW3_12, List.forall_mem_cons.mpr ⟨mW3_13, List.forall_mem_cons.mpr ⟨mW3_14, List.forall_mem_cons.mpr ⟨mW11_8, List.forall_mem_cons.mpr ⟨mW11_9, List.forall_mem_cons.mpr ⟨mW11_10, List.forall_mem_cons.mpr ⟨mW11_11, List.forall_mem_cons.mpr ⟨mW6_2, fun _ h => absurd h List.not_mem_nil⟩⟩⟩⟩⟩⟩⟩⟩⟩⟩⟩⟩⟩
theorem ggw_X7_works : ∀ w ∈ wsX7_works, w ∈ wsL_law := List.forall_mem_cons.mpr ⟨mW32_20, List.forall_mem_append.mpr ⟨List.forall_mem_append.mpr ⟨List.forall_mem_append.mpr ⟨List.forall_mem_append.mpr ⟨List.forall_mem_append.mpr ⟨List.forall_mem_append.mpr ⟨List.forall_mem_append.mpr ⟨mq_wsX7_works_r1, List.forall_mem_append.mpr ⟨mq_wsX7_works_r2, List.forall_mem_append.mpr ⟨mq_wsX7_works_r3, List.forall_mem_append.mpr ⟨mq_wsX7_works_r4, mq_wsX7_works_r5⟩⟩⟩⟩, inlX7⟩, inlX3⟩, inlX0⟩, inlX2⟩, inlX6⟩, inlX1⟩⟩
set_option maxRecDepth 20000 in
theorem ggL_law_X7_works : GoodIn wsL_law wsX7_works := goodIn_sub ggw_X7_works (by decide +kernel)
set_option maxRecDepth 20000 in
theorem mq_wsX8_works__r1 : ∀ w ∈ wsX8_works__r1, w ∈ wsL_law := List.forall_mem_cons.mpr ⟨mW12_16, List.forall_mem_cons.mpr ⟨mW9_11, List.forall_mem_cons.mpr ⟨mW30_9, List.forall_mem_cons.mpr ⟨mW9_12, List.forall_mem_cons.mpr ⟨mW9_13, List.forall_mem_cons.mpr ⟨mW30_10, List.forall_mem_cons.mpr ⟨mW30_11, List.forall_mem_cons.mpr ⟨mW1_5, List.forall_mem_cons.mpr ⟨mW30_12, List.forall_mem_cons.mpr ⟨mW30_13, List.forall_mem_cons.mpr ⟨mW12_17, List.forall_mem_cons.mpr ⟨mW12_18, List.forall_mem_cons.mpr ⟨mW12_19, List.forall_mem_cons.mpr ⟨mW12_20, List.forall_mem_cons.mpr ⟨mW12_21, List.forall_mem_cons.mpr ⟨mW12_22, List.forall_mem_cons.mpr ⟨mW12_23, List.forall_mem_cons.mpr ⟨mW8_15, List.forall_mem_cons.mpr ⟨mW13_0, List.forall_mem_cons.mpr ⟨mW31_20, List.forall_mem_cons.mpr ⟨mW31_21, List.forall_mem_cons.mpr ⟨mW31_22, List.forall_mem_cons.mpr ⟨mW31_23, List.forall_mem_cons.mpr ⟨mW13_23, fun _ h => absurd h List.not_mem_nil⟩⟩⟩⟩⟩⟩⟩⟩⟩⟩⟩⟩⟩⟩⟩⟩⟩⟩⟩⟩⟩⟩⟩⟩
set_option maxRecDepth 20000 in
theorem mq_wsX8_works__r2 : ∀ w ∈ wsX8_works__r2, w ∈ wsL_law := List.forall_mem_cons.mpr ⟨mW8_23, List.forall_mem_cons.mpr ⟨mW8_12, List.forall_mem_cons.mpr ⟨mW32_0, List.forall_mem_cons.mpr ⟨mW25_14, List.forall_mem_cons.mpr ⟨mW25_15, List.forall_mem_cons.mpr ⟨mW25_16, List.forall_mem_cons.mpr ⟨mW25_17, List.forall_mem_cons.mpr ⟨mW9_22, List.forall_mem_cons.mpr ⟨mW23_21, List.forall_mem_cons.mpr ⟨mW23_22, List.forall_mem_cons.mpr ⟨mW23_23, List.forall_mem_cons.mpr ⟨mW24_0, List.forall_mem_cons.mpr ⟨mW8_20, List.forall_mem_cons.mpr ⟨mW13_21, List.forall_mem_cons.mpr ⟨mW24_1, List.forall_mem_cons.mpr ⟨mW24_2, List.forall_mem_cons.mpr ⟨mW24_3, List.forall_mem_cons.mpr ⟨mW24_4, List.forall_mem_cons.mpr ⟨mW32_1, List.forall_mem_cons.mpr ⟨mW32_2, List.forall_mem_cons.mpr ⟨mW32_3, List.forall_mem_cons.mpr ⟨mW32_4, List.forall_mem_cons.mpr ⟨mW19_16, List.forall_mem_cons.mpr ⟨mW19_17, fun _ h => absurd h List.not_mem_nil⟩⟩⟩⟩⟩⟩⟩⟩⟩⟩⟩⟩⟩⟩⟩⟩⟩⟩⟩⟩⟩⟩⟩⟩
set_option maxRecDepth 20000 in
theorem mq_wsX8_works__r3 : ∀ w ∈ wsX8_works__r3, w ∈ wsL_law := List.forall_mem_cons.mpr ⟨mW19_18, List.forall_mem_cons.mpr ⟨mW19_19, List.forall_mem_cons.mpr ⟨mW19_14, List.forall_mem_cons.mpr ⟨mW8_22, List.forall_mem_cons.mpr ⟨mW32_5, List.forall_mem_cons.mpr ⟨mW32_6, List.forall_mem_cons.mpr ⟨mW32_7, List.forall_mem_cons.mpr ⟨mW32_8, List.forall_mem_cons.mpr ⟨mW8_17, List.forall_mem_cons.mpr ⟨mW8_18, List.forall_mem_cons.mpr ⟨mW19_20, List.forall_mem_cons.mpr ⟨mW19_21, List.forall_mem_cons.mpr ⟨mW19_22, List.forall_mem_cons.mpr ⟨mW19_23, List.forall_mem_cons.mpr ⟨mW20_0, List.forall_mem_cons.mpr ⟨mW20_1, List.forall_mem_cons.mpr ⟨mW20_2, List.forall_mem_cons.mpr ⟨mW20_3, List.forall_mem_cons.mpr ⟨mW20_4, List.forall_mem_cons.mpr ⟨mW20_5, List.forall_mem_cons.mpr ⟨mW20_6, List.forall_mem_cons.mpr ⟨mW20_7, List.forall_mem_cons.mpr ⟨mW9_0, List.forall_mem_cons.mpr ⟨mW9_1, fun _ h => absurd h List.not_mem_nil⟩⟩⟩⟩⟩⟩⟩⟩⟩⟩⟩⟩⟩⟩⟩⟩⟩⟩⟩⟩⟩⟩⟩⟩
set_option maxRecDepth 20000 in
theorem mq_wsX8_works__r4 : ∀ w ∈ wsX8_works__r4, w ∈ wsL_law := List.forall_mem_cons.mpr ⟨mW9_2, List.forall_mem_cons.mpr ⟨mW9_3, List.forall_mem_cons.mpr ⟨mW9_4, List.forall_mem_cons.mpr ⟨mW32_9, List.forall_mem_cons.mpr ⟨mW32_10, List.forall_mem_cons.mpr ⟨mW32_11, List.forall_mem_cons.mpr ⟨mW32_12, List.forall_mem_cons.mpr ⟨mW32_13, List.forall_mem_cons.mpr ⟨mW32_14, List.forall_mem_cons.mpr ⟨mW32_15, List.forall_mem_cons.mpr ⟨mW32_16, fun _ h => absurd h List.not_mem_nil⟩⟩⟩⟩⟩⟩⟩⟩⟩⟩⟩
theorem ggw_X8_works_ : ∀ w ∈ wsX8_works_, w ∈ wsL_law := List.forall_mem_cons.mpr ⟨mW33_2, List.forall_mem_append.mpr ⟨List.forall_mem_append.mpr ⟨mq_wsX8_works__r1, List.forall_mem_append.mpr ⟨mq_wsX8_works__r2, List.forall_mem_append.mpr ⟨mq_wsX8_works__r3, mq_wsX8_works__r4⟩⟩⟩, inlX8⟩⟩
set_option maxRecDepth 20000 in
theorem ggL_law_X8_works_ : GoodIn wsL_law wsX8_works_ := goodIn_sub ggw_X8_works_ (by decide +kernel)
set_option maxRecDepth 20000 in
theorem mq_wsX7_back_r1 : ∀ w ∈ wsX7_back_r1, w ∈ wsL_law := List.forall_mem_cons.mpr ⟨mW1_16, List.forall_mem_cons.mpr ⟨mW11_3, List.forall_mem_cons.mpr ⟨mW31_3, List.forall_mem_cons.mpr ⟨mW10_17, List.forall_mem_cons.mpr ⟨mW10_18, List.forall_mem_cons.mpr ⟨mW10_19, List.forall_mem_cons.mpr ⟨mW1_2, List.forall_mem_cons.mpr ⟨mW10_20, List.forall_mem_cons.mpr ⟨mW2_21, List.forall_mem_cons.mpr ⟨mW10_21, List.forall_mem_cons.mpr ⟨mW31_8, List.forall_mem_cons.mpr ⟨mW31_9, List.forall_mem_cons.mpr ⟨mW31_10, List.forall_mem_cons.mpr ⟨mW31_11, List.forall_mem_cons.mpr ⟨mW2_10, List.forall_mem_cons.mpr ⟨mW2_13, List.forall_mem_cons.mpr ⟨mW2_2, List.forall_mem_cons.mpr ⟨mW24_15, List.forall_mem_cons.mpr ⟨mW24_14, List.forall_mem_cons.mpr ⟨mW11_4, List.forall_mem_cons.mpr ⟨mW11_5, List.forall_mem_cons.mpr ⟨mW11_6, List.forall_mem_cons.mpr ⟨mW2_9, List.forall_mem_cons.mpr ⟨mW11_7, fun _ h => absurd h List.not_mem_nil⟩⟩⟩⟩⟩⟩⟩⟩⟩⟩⟩⟩⟩⟩⟩⟩⟩⟩⟩⟩⟩⟩⟩⟩
set_option maxRecDepth 20000 in
theorem mq_wsX7_back_r2 : ∀ w ∈ wsX7_back_r2, w ∈ wsL_law := List.forall_mem_cons.mpr ⟨mW7_6, List.forall_mem_cons.mpr ⟨mW7_7, List.forall_mem_cons.mpr ⟨mW7_8, List.forall_mem_cons.mpr ⟨mW7_9, List.forall_mem_cons.mpr ⟨mW7_10, List.forall_mem_cons.mpr ⟨mW7_11, List.forall_mem_cons.mpr ⟨mW7_13, List.forall_mem_cons.mpr ⟨mW7_14, List.forall_mem_cons.mpr ⟨mW7_16, List.forall_mem_cons.mpr ⟨mW7_17, List.forall_mem_cons.mpr ⟨mW7_18, List.forall_mem_cons.mpr ⟨mW7_19, List.forall_mem_cons.mpr ⟨mW7_4, List.forall_mem_cons.mpr ⟨mW7_5, List.forall_mem_cons.mpr ⟨mW7_20, List.forall_mem_cons.mpr ⟨mW3_12, List.forall_mem_cons.mpr ⟨mW3_13, List.forall_mem_cons.mpr ⟨mW3_14, List.forall_mem_cons.mpr ⟨mW11_8, List.forall_mem_cons.mpr ⟨mW11_9, List.forall_mem_cons.mpr ⟨mW11_10, List.forall_mem_cons.mpr ⟨mW1_20, List.forall_mem_cons.mpr ⟨mW11_11, List.forall_mem_cons.mpr ⟨mW5_23, fun _ h => absurd h List.not_mem_nil⟩⟩⟩⟩⟩⟩⟩⟩⟩⟩⟩⟩⟩⟩⟩⟩⟩⟩⟩⟩⟩⟩⟩⟩
set_option maxRecDepth 20000 in
theorem mq_wsX7_back_r3 : ∀ w ∈ wsX7_back_r3, w ∈ wsL_law := List.forall_mem_cons.mpr ⟨mW6_0, List.forall_mem_cons.mpr ⟨mW6_1, List.forall_mem_cons.mpr ⟨mW6_2, List.forall_mem_cons.mpr ⟨mW17_19, List.forall_mem_cons.mpr ⟨mW17_20, List.forall_mem_cons.mpr ⟨mW17_21, List.forall_mem_cons.mpr ⟨mW17_22, List.forall_mem_cons.mpr ⟨mW17_23, List.forall_mem_cons.mpr ⟨mW18_0, List.forall_mem_cons.mpr ⟨mW18_1, List.forall_mem_cons.mpr ⟨mW18_2, List.forall_mem_cons.mpr ⟨mW18_3, List.forall_mem_cons.mpr ⟨mW18_4, List.forall_mem_cons.mpr ⟨mW18_5, List.forall_mem_cons.mpr ⟨mW18_6, List.forall_mem_cons.mpr ⟨mW18_7, List.forall_mem_cons.mpr ⟨mW18_8, List.forall_mem_cons.mpr ⟨mW18_9, List.forall_mem_cons.mpr ⟨mW18_10, List.forall_mem_cons.mpr ⟨mW18_11, List.forall_mem_cons.mpr ⟨mW18_12, List.forall_mem_cons.mpr ⟨mW18_13, List.forall_mem_cons.mpr ⟨mW18_14, List.forall_mem_cons.mpr ⟨mW18_15, fun _ h => absurd h List.not_mem_nil⟩⟩⟩⟩⟩⟩⟩⟩⟩⟩⟩⟩⟩⟩⟩⟩⟩⟩⟩⟩⟩⟩⟩⟩
set_option maxRecDepth 20000 in
theorem mq_wsX7_back_r4 : ∀ w ∈ wsX7_back_r4, w ∈ wsL_law := List.forall_mem_cons.mpr ⟨mW18_16, List.forall_mem_cons.mpr ⟨mW18_17, List.forall_mem_cons.mpr ⟨mW12_8, List.forall_mem_cons.mpr ⟨mW12_5, List.forall_mem_cons.mpr ⟨mW12_9, List.forall_mem_cons.mpr ⟨mW18_18, List.forall_mem_cons.mpr ⟨mW18_19, List.forall_mem_cons.mpr ⟨mW18_20, List.forall_mem_cons.mpr ⟨mW18_21, fun _ h => absurd h List.not_mem_nil⟩⟩⟩⟩⟩⟩⟩⟩⟩
theorem ggw_X7_back : ∀ w ∈ wsX7_back, w ∈ wsL_law := List.forall_mem_cons.mpr ⟨mW33_6, List.forall_mem_append.mpr ⟨List.forall_mem_append.mpr ⟨List.forall_mem_append.mpr ⟨List.forall_mem_append.mpr ⟨List.forall_mem_append.mpr ⟨List.forall_mem_append.mpr ⟨mq_wsX7_back_r1, List.forall_mem_append.mpr ⟨mq_wsX7_back_r2, List.forall_mem_append.mpr ⟨mq_wsX7_back_r3, mq_wsX7_back_r4⟩⟩⟩, inlX7⟩, inlX2⟩, inlX0⟩, inlX6⟩, inlX1⟩⟩
set_option maxRecDepth 20000 in
theorem ggL_law_X7_back : GoodIn wsL_law wsX7_back := goodIn_sub ggw_X7_back (by decide +kernel)
theorem ggw_X8_back : ∀ w ∈ wsX8_back, w ∈ wsL_law := List.forall_mem_cons.mpr ⟨mW33_10, List.forall_mem_append.mpr ⟨(List.forall_mem_cons.mpr ⟨mW8_12, List.forall_mem_cons.mpr ⟨mW22_23, List.forall_mem_cons.mpr ⟨mW12_20, List.forall_mem_cons.mpr ⟨mW12_21, List.forall_mem_cons.mpr ⟨mW12_22, List.forall_mem_cons.mpr ⟨mW1_5, List.forall_mem_cons.mpr ⟨mW12_23, List.forall_mem_cons.mpr ⟨mW8_15, List.forall_mem_cons.mpr ⟨mW13_0, fun _ h => absurd h List.not_mem_nil⟩⟩⟩⟩⟩⟩⟩⟩⟩), inlX8⟩⟩
set_option maxRecDepth 20000 in
theorem ggL_law_X8_back : GoodIn wsL_law wsX8_back := goodIn_sub ggw_X8_back (by decide +kernel)
theorem ggw_X7_worked : ∀ w ∈ wsX7_worked, w ∈ wsL_law := List.forall_mem_cons.mpr ⟨mW33_14, List.forall_mem_append.mpr ⟨List.forall_mem_append.mpr ⟨(List.forall_mem_cons.mpr ⟨mW1_16, List.forall_mem_cons.mpr ⟨mW11_3, List.forall_mem_cons.mpr ⟨mW31_3, List.forall_mem_cons.mpr ⟨mW10_17, List.forall_mem_cons.mpr ⟨mW10_18, List.forall_mem_cons.mpr ⟨mW10_19, List.forall_mem_cons.mpr ⟨mW1_2, List.forall_mem_cons.mpr ⟨mW10_20, List.forall_mem_cons.mpr ⟨mW2_21, List.forall_mem_cons.mpr ⟨mW10_21, fun _ h => absurd h List.not_mem_nil⟩⟩⟩⟩⟩⟩⟩⟩⟩⟩), inlX7⟩, inlX2⟩⟩
set_option maxRecDepth 20000 in
theorem ggL_law_X7_worked : GoodIn wsL_law wsX7_worked := goodIn_sub ggw_X7_worked (by decide +kernel)
theorem ggw_X8_worked : ∀ w ∈ wsX8_worked, w ∈ wsL_law := List.forall_mem_cons.mpr ⟨mW33_18, List.forall_mem_append.mpr ⟨(List.forall_mem_cons.mpr ⟨mW8_12, List.forall_mem_cons.mpr ⟨mW12_16, List.forall_mem_cons.mpr ⟨mW12_17, List.forall_mem_cons.mpr ⟨mW12_18, List.forall_mem_cons.mpr ⟨mW1_5, List.forall_mem_cons.mpr ⟨mW12_19, List.forall_mem_cons.mpr ⟨mW12_20, List.forall_mem_cons.mpr ⟨mW12_21, List.forall_mem_cons.mpr ⟨mW12_22, List.forall_mem_cons.mpr ⟨mW12_23, List.forall_mem_cons.mpr ⟨mW8_15, List.forall_mem_cons.mpr ⟨mW13_0, fun _ h => absurd h List.not_mem_nil⟩⟩⟩⟩⟩⟩⟩⟩⟩⟩⟩⟩), inlX8⟩⟩
set_option maxRecDepth 20000 in
theorem ggL_law_X8_worked : GoodIn wsL_law wsX8_worked := goodIn_sub ggw_X8_worked (by decide +kernel)
theorem ggw_X7_at : ∀ w ∈ wsX7_at, w ∈ wsL_law := List.forall_mem_cons.mpr ⟨mW33_22, List.forall_mem_append.mpr ⟨List.forall_mem_append.mpr ⟨List.forall_mem_append.mpr ⟨(List.forall_mem_cons.mpr ⟨mW2_10, List.forall_mem_cons.mpr ⟨mW33_23, List.forall_mem_cons.mpr ⟨mW34_0, List.forall_mem_cons.mpr ⟨mW34_1, List.forall_mem_cons.mpr ⟨mW34_2, List.forall_mem_cons.mpr ⟨mW1_2, List.forall_mem_cons.mpr ⟨mW34_3, List.forall_mem_cons.mpr ⟨mW1_16, List.forall_mem_cons.mpr ⟨mW10_15, List.forall_mem_cons.mpr ⟨mW10_17, List.forall_mem_cons.mpr ⟨mW10_18, List.forall_mem_cons.mpr ⟨mW10_19, List.forall_mem_cons.mpr ⟨mW10_20, List.forall_mem_cons.mpr ⟨mW2_21, List.forall_mem_cons.mpr ⟨mW10_21, fun _ h => absurd h List.not_mem_nil⟩⟩⟩⟩⟩⟩⟩⟩⟩⟩⟩⟩⟩⟩⟩), inlX7⟩, inlX6⟩, inlX2⟩⟩
set_option maxRecDepth 20000 in
theorem ggL_law_X7_at : GoodIn wsL_law wsX7_at := goodIn_sub ggw_X7_at (by decide +kernel)
set_option maxRecDepth 20000 in
theorem mq_wsX8_at_r1 : ∀ w ∈ wsX8_at_r1, w ∈ wsL_law := List.forall_mem_cons.mpr ⟨mW12_16, List.forall_mem_cons.mpr ⟨mW8_22, List.forall_mem_cons.mpr ⟨mW32_9, List.forall_mem_cons.mpr ⟨mW32_10, List.forall_mem_cons.mpr ⟨mW32_11, List.forall_mem_cons.mpr ⟨mW1_5, List.forall_mem_cons.mpr ⟨mW32_12, List.forall_mem_cons.mpr ⟨mW8_12, List.forall_mem_cons.mpr ⟨mW12_17, List.forall_mem_cons.mpr ⟨mW12_18, List.forall_mem_cons.mpr ⟨mW12_19, List.forall_mem_cons.mpr ⟨mW12_20, List.forall_mem_cons.mpr ⟨mW12_21, List.forall_mem_cons.mpr ⟨mW12_22, List.forall_mem_cons.mpr ⟨mW12_23, List.forall_mem_cons.mpr ⟨mW8_15, List.forall_mem_cons.mpr ⟨mW13_0, List.forall_mem_cons.mpr ⟨mW32_1, List.forall_mem_cons.mpr ⟨mW32_2, List.forall_mem_cons.mpr ⟨mW32_3, List.forall_mem_cons.mpr ⟨mW32_4, List.forall_mem_cons.mpr ⟨mW19_16, List.forall_mem_cons.mpr ⟨mW19_17, List.forall_mem_cons.mpr ⟨mW19_18, fun _ h => absurd h List.not_mem_nil⟩⟩⟩⟩⟩⟩⟩⟩⟩⟩⟩⟩⟩⟩⟩⟩⟩⟩⟩⟩⟩⟩⟩⟩
set_option maxRecDepth 20000 in
theorem mq_wsX8_at_r2 : ∀ w ∈ wsX8_at_r2, w ∈ wsL_law := List.forall_mem_cons.mpr ⟨mW19_19, List.forall_mem_cons.mpr ⟨mW19_14, List.forall_mem_cons.mpr ⟨mW8_23, List.forall_mem_cons.mpr ⟨mW32_5, List.forall_mem_cons.mpr ⟨mW32_6, List.forall_mem_cons.mpr ⟨mW32_7, List.forall_mem_cons.mpr ⟨mW32_8, List.forall_mem_cons.mpr ⟨mW8_17, List.forall_mem_cons.mpr ⟨mW8_18, List.forall_mem_cons.mpr ⟨mW19_20, List.forall_mem_cons.mpr ⟨mW19_21, List.forall_mem_cons.mpr ⟨mW19_22, List.forall_mem_cons.mpr ⟨mW19_23, List.forall_mem_cons.mpr ⟨mW20_0, List.forall_mem_cons.mpr ⟨mW20_1, List.forall_mem_cons.mpr ⟨mW20_2, List.forall_mem_cons.mpr ⟨mW20_3, List.forall_mem_cons.mpr ⟨mW20_4, List.forall_mem_cons.mpr ⟨mW20_5, List.forall_mem_cons.mpr ⟨mW20_6, List.forall_mem_cons.mpr ⟨mW20_7, List.forall_mem_cons.mpr ⟨mW9_0, List.forall_mem_cons.mpr ⟨mW9_1, List.forall_mem_cons.mpr ⟨mW9_2, fun _ h => absurd h List.not_mem_nil⟩⟩⟩⟩⟩⟩⟩⟩⟩⟩⟩⟩⟩⟩⟩⟩⟩⟩⟩⟩⟩⟩⟩⟩
set_option maxRecDepth 20000 in
theorem mq_wsX8_at_r3 : ∀ w ∈ wsX8_at_r3, w ∈ wsL_law := List.forall_mem_cons.mpr ⟨mW9_3, List.forall_mem_cons.mpr ⟨mW9_4, fun _ h => absurd h List.not_mem_nil⟩⟩
theorem ggw_X8_at : ∀ w ∈ wsX8_at, w ∈ wsL_law := List.forall_mem_cons.mpr ⟨mW34_7, List.forall_mem_append.mpr ⟨List.forall_mem_append.mpr ⟨mq_wsX8_at_r1, List.forall_mem_append.mpr ⟨mq_wsX8_at_r2, mq_wsX8_at_r3⟩⟩, inlX8⟩⟩
set_option maxRecDepth 20000 in
theorem ggL_law_X8_at : GoodIn wsL_law wsX8_at := goodIn_sub ggw_X8_at (by decide +kernel)
theorem ggw_X7_wind : ∀ w ∈ wsX7_wind, w ∈ wsL_law := List.forall_mem_cons.mpr ⟨mW34_11, List.forall_mem_append.mpr ⟨List.forall_mem_append.mpr ⟨List.forall_mem_append.mpr ⟨(List.forall_mem_cons.mpr ⟨mW2_10, List.forall_mem_cons.mpr ⟨mW34_12, List.forall_mem_cons.mpr ⟨mW1_16, List.forall_mem_cons.mpr ⟨mW31_2, List.forall_mem_cons.mpr ⟨mW34_0, List.forall_mem_cons.mpr ⟨mW34_1, List.forall_mem_cons.mpr ⟨mW34_2, List.forall_mem_cons.mpr ⟨mW1_2, List.forall_mem_cons.mpr ⟨mW34_3, List.forall_mem_cons.mpr ⟨mW10_15, List.forall_mem_cons.mpr ⟨mW10_17, List.forall_mem_cons.mpr ⟨mW10_18, List.forall_mem_cons.mpr ⟨mW10_19, List.forall_mem_cons.mpr ⟨mW10_20, List.forall_mem_cons.mpr ⟨mW2_21, List.forall_mem_cons.mpr ⟨mW10_21, fun _ h => absurd h List.not_mem_nil⟩⟩⟩⟩⟩⟩⟩⟩⟩⟩⟩⟩⟩⟩⟩⟩), inlX7⟩, inlX6⟩, inlX2⟩⟩
set_option maxRecDepth 20000 in
theorem ggL_law_X7_wind : GoodIn wsL_law wsX7_wind := goodIn_sub ggw_X7_wind (by decide +kernel)
set_option maxRecDepth 20000 in
theorem mq_wsX8_wind_r1 : ∀ w ∈ wsX8_wind_r1, w ∈ wsL_law := List.forall_mem_cons.mpr ⟨mW34_17, List.forall_mem_cons.mpr ⟨mW12_16, List.forall_mem_cons.mpr ⟨mW8_23, List.forall_mem_cons.mpr ⟨mW13_23, List.forall_mem_cons.mpr ⟨mW8_12, List.forall_mem_cons.mpr ⟨mW34_18, List.forall_mem_cons.mpr ⟨mW34_19, List.forall_mem_cons.mpr ⟨mW34_20, List.forall_mem_cons.mpr ⟨mW1_5, List.forall_mem_cons.mpr ⟨mW34_21, List.forall_mem_cons.mpr ⟨mW32_9, List.forall_mem_cons.mpr ⟨mW32_10, List.forall_mem_cons.mpr ⟨mW32_11, List.forall_mem_cons.mpr ⟨mW32_12, List.forall_mem_cons.mpr ⟨mW12_17, List.forall_mem_cons.mpr ⟨mW12_18, List.forall_mem_cons.mpr ⟨mW12_19, List.forall_mem_cons.mpr ⟨mW12_20, List.forall_mem_cons.mpr ⟨mW12_21, List.forall_mem_cons.mpr ⟨mW12_22, List.forall_mem_cons.mpr ⟨mW12_23, List.forall_mem_cons.mpr ⟨mW8_15, List.forall_mem_cons.mpr ⟨mW13_0, List.forall_mem_cons.mpr ⟨mW32_1, fun _ h => absurd h List.not_mem_nil⟩⟩⟩⟩⟩⟩⟩⟩⟩⟩⟩⟩⟩⟩⟩⟩⟩⟩⟩⟩⟩⟩⟩⟩
set_option maxRecDepth 20000 in
theorem mq_wsX8_wind_r2 : ∀ w ∈ wsX8_wind_r2, w ∈ wsL_law := List.forall_mem_cons.mpr ⟨mW32_2, List.forall_mem_cons.mpr ⟨mW32_3, List.forall_mem_cons.mpr ⟨mW32_4, List.forall_mem_cons.mpr ⟨mW19_16, List.forall_mem_cons.mpr ⟨mW19_17, List.forall_mem_cons.mpr ⟨mW19_18, List.forall_mem_cons.mpr ⟨mW19_19, List.forall_mem_cons.mpr ⟨mW19_14, List.forall_mem_cons.mpr ⟨mW8_22, List.forall_mem_cons.mpr ⟨mW32_5, List.forall_mem_cons.mpr ⟨mW32_6, List.forall_mem_cons.mpr ⟨mW32_7, List.forall_mem_cons.mpr ⟨mW32_8, List.forall_mem_cons.mpr ⟨mW8_17, List.forall_mem_cons.mpr ⟨mW8_18, List.forall_mem_cons.mpr ⟨mW19_20, List.forall_mem_cons.mpr ⟨mW19_21, List.forall_mem_cons.mpr ⟨mW19_22, List.forall_mem_cons.mpr ⟨mW19_23, List.forall_mem_cons.mpr ⟨mW20_0, List.forall_mem_cons.mpr ⟨mW20_1, List.forall_mem_cons.mpr ⟨mW20_2, List.forall_mem_cons.mpr ⟨mW20_3, List.forall_mem_cons.mpr ⟨mW20_4, fun _ h => absurd h List.not_mem_nil⟩⟩⟩⟩⟩⟩⟩⟩⟩⟩⟩⟩⟩⟩⟩⟩⟩⟩⟩⟩⟩⟩⟩⟩
set_option maxRecDepth 20000 in
theorem mq_wsX8_wind_r3 : ∀ w ∈ wsX8_wind_r3, w ∈ wsL_law := List.forall_mem_cons.mpr ⟨mW20_5, List.forall_mem_cons.mpr ⟨mW20_6, List.forall_mem_cons.mpr ⟨mW20_7, List.forall_mem_cons.mpr ⟨mW9_0, List.forall_mem_cons.mpr ⟨mW9_1, List.forall_mem_cons.mpr ⟨mW9_2, List.forall_mem_cons.mpr ⟨mW9_3, List.forall_mem_cons.mpr ⟨mW9_4, fun _ h => absurd h List.not_mem_nil⟩⟩⟩⟩⟩⟩⟩⟩
theorem ggw_X8_wind : ∀ w ∈ wsX8_wind, w ∈ wsL_law := List.forall_mem_cons.mpr ⟨mW34_16, List.forall_mem_append.mpr ⟨List.forall_mem_append.mpr ⟨mq_wsX8_wind_r1, List.forall_mem_append.mpr ⟨mq_wsX8_wind_r2, mq_wsX8_wind_r3⟩⟩, inlX8⟩⟩
set_option maxRecDepth 20000 in
theorem ggL_law_X8_wind : GoodIn wsL_law wsX8_wind := goodIn_sub ggw_X8_wind (by decide +kernel)
set_option maxRecDepth 20000 in
theorem mq_wsX7_thread_r1 : ∀ w ∈ wsX7_thread_r1, w ∈ wsL_law := List.forall_mem_cons.mpr ⟨mW1_16, List.forall_mem_cons.mpr ⟨mW31_2, List.forall_mem_cons.mpr ⟨mW2_10, List.forall_mem_cons.mpr ⟨mW34_12, List.forall_mem_cons.mpr ⟨mW17_14, List.forall_mem_cons.mpr ⟨mW2_2, List.forall_mem_cons.mpr ⟨mW15_6, List.forall_mem_cons.mpr ⟨mW2_11, List.forall_mem_cons.mpr ⟨mW35_2, List.forall_mem_cons.mpr ⟨mW35_3, List.forall_mem_cons.mpr ⟨mW35_4, List.forall_mem_cons.mpr ⟨mW34_0, List.forall_mem_cons.mpr ⟨mW34_1, List.forall_mem_cons.mpr ⟨mW34_2, List.forall_mem_cons.mpr ⟨mW1_2, List.forall_mem_cons.mpr ⟨mW34_3, List.forall_mem_cons.mpr ⟨mW10_15, List.forall_mem_cons.mpr ⟨mW10_17, List.forall_mem_cons.mpr ⟨mW10_18, List.forall_mem_cons.mpr ⟨mW10_19, List.forall_mem_cons.mpr ⟨mW10_20, List.forall_mem_cons.mpr ⟨mW2_21, List.forall_mem_cons.mpr ⟨mW10_21, List.forall_mem_cons.mpr ⟨mW35_5, fun _ h => absurd h List.not_mem_nil⟩⟩⟩⟩⟩⟩⟩⟩⟩⟩⟩⟩⟩⟩⟩⟩⟩⟩⟩⟩⟩⟩⟩⟩
set_option maxRecDepth 20000 in
theorem mq_wsX7_thread_r2 : ∀ w ∈ wsX7_thread_r2, w ∈ wsL_law := List.forall_mem_cons.mpr ⟨mW35_6, List.forall_mem_cons.mpr ⟨mW35_7, List.forall_mem_cons.mpr ⟨mW35_8, List.forall_mem_cons.mpr ⟨mW2_12, List.forall_mem_cons.mpr ⟨mW24_15, List.forall_mem_cons.mpr ⟨mW24_14, List.forall_mem_cons.mpr ⟨mW11_4, List.forall_mem_cons.mpr ⟨mW11_5, List.forall_mem_cons.mpr ⟨mW11_6, List.forall_mem_cons.mpr ⟨mW2_9, List.forall_mem_cons.mpr ⟨mW11_7, List.forall_mem_cons.mpr ⟨mW7_6, List.forall_mem_cons.mpr ⟨mW7_7, List.forall_mem_cons.mpr ⟨mW7_8, List.forall_mem_cons.mpr ⟨mW7_9, List.forall_mem_cons.mpr ⟨mW7_10, List.forall_mem_cons.mpr ⟨mW7_11, List.forall_mem_cons.mpr ⟨mW7_13, List.forall_mem_cons.mpr ⟨mW7_14, List.forall_mem_cons.mpr ⟨mW7_16, List.forall_mem_cons.mpr ⟨mW7_17, List.forall_mem_cons.mpr ⟨mW7_18, List.forall_mem_cons.mpr ⟨mW7_19, List.forall_mem_cons.mpr ⟨mW7_4, fun _ h => absurd h List.not_mem_nil⟩⟩⟩⟩⟩⟩⟩⟩⟩⟩⟩⟩⟩⟩⟩⟩⟩⟩⟩⟩⟩⟩⟩⟩
set_option maxRecDepth 20000 in
theorem mq_wsX7_thread_r3 : ∀ w ∈ wsX7_thread_r3, w ∈ wsL_law := List.forall_mem_cons.mpr ⟨mW7_5, List.forall_mem_cons.mpr ⟨mW7_20, List.forall_mem_cons.mpr ⟨mW3_12, List.forall_mem_cons.mpr ⟨mW3_13, List.forall_mem_cons.mpr ⟨mW3_14, List.forall_mem_cons.mpr ⟨mW11_8, List.forall_mem_cons.mpr ⟨mW11_9, List.forall_mem_cons.mpr ⟨mW11_10, List.forall_mem_cons.mpr ⟨mW1_20, List.forall_mem_cons.mpr ⟨mW11_11, List.forall_mem_cons.mpr ⟨mW5_23, List.forall_mem_cons.mpr ⟨mW6_0, List.forall_mem_cons.mpr ⟨mW6_1, List.forall_mem_cons.mpr ⟨mW6_2, List.forall_mem_cons.mpr ⟨mW17_19, List.forall_mem_cons.mpr ⟨mW17_20, List.forall_mem_cons.mpr ⟨mW17_21, List.forall_mem_cons.mpr ⟨mW17_22, List.forall_mem_cons.mpr ⟨mW17_23, List.forall_mem_cons.mpr ⟨mW18_0, List.forall_mem_cons.mpr ⟨mW18_1, List.forall_mem_cons.mpr ⟨mW18_2, List.forall_mem_cons.mpr ⟨mW18_3, List.forall_mem_cons.mpr ⟨mW18_4, fun _ h => absurd h List.not_mem_nil⟩⟩⟩⟩⟩⟩⟩⟩⟩⟩⟩⟩⟩⟩⟩⟩⟩⟩⟩⟩⟩⟩⟩⟩
set_option maxRecDepth 20000 in
theorem mq_wsX7_thread_r4 : ∀ w ∈ wsX7_thread_r4, w ∈ wsL_law := List.forall_mem_cons.mpr ⟨mW18_5, List.forall_mem_cons.mpr ⟨mW18_6, List.forall_mem_cons.mpr ⟨mW18_7, List.forall_mem_cons.mpr ⟨mW18_8, List.forall_mem_cons.mpr ⟨mW18_9, List.forall_mem_cons.mpr ⟨mW18_10, List.forall_mem_cons.mpr ⟨mW18_11, List.forall_mem_cons.mpr ⟨mW18_12, List.forall_mem_cons.mpr ⟨mW18_13, List.forall_mem_cons.mpr ⟨mW18_14, List.forall_mem_cons.mpr ⟨mW18_15, List.forall_mem_cons.mpr ⟨mW18_16, List.forall_mem_cons.mpr ⟨mW18_17, List.forall_mem_cons.mpr ⟨mW12_8, List.forall_mem_cons.mpr ⟨mW12_5, List.forall_mem_cons.mpr ⟨mW12_9, List.forall_mem_cons.mpr ⟨mW18_18, List.forall_mem_cons.mpr ⟨mW18_19, List.forall_mem_cons.mpr ⟨mW18_20, List.forall_mem_cons.mpr ⟨mW18_21, List.forall_mem_cons.mpr ⟨mW35_9, List.forall_mem_cons.mpr ⟨mW19_3, List.forall_mem_cons.mpr ⟨mW19_4, List.forall_mem_cons.mpr ⟨mW19_5, fun _ h => absurd h List.not_mem_nil⟩⟩⟩⟩⟩⟩⟩⟩⟩⟩⟩⟩⟩⟩⟩⟩⟩⟩⟩⟩⟩⟩⟩⟩
theorem ggw_X7_thread : ∀ w ∈ wsX7_thread, w ∈ wsL_law := List.forall_mem_cons.mpr ⟨mW35_1, List.forall_mem_append.mpr ⟨List.forall_mem_append.mpr ⟨List.forall_mem_append.mpr ⟨List.forall_mem_append.mpr ⟨List.forall_mem_append.mpr ⟨List.forall_mem_append.mpr ⟨mq_wsX7_thread_r1, List.forall_mem_append.mpr ⟨mq_wsX7_thread_r2, List.forall_mem_append.mpr ⟨mq_wsX7_thread_r3, mq_wsX7_thread_r4⟩⟩⟩, inlX7⟩, inlX2⟩, inlX6⟩, inlX0⟩, inlX1⟩⟩
set_option maxRecDepth 20000 in
theorem ggL_law_X7_thread : GoodIn wsL_law wsX7_thread := goodIn_sub ggw_X7_thread (by decide +kernel)
set_option maxRecDepth 20000 in
theorem mq_wsX8_thread_r1 : ∀ w ∈ wsX8_thread_r1, w ∈ wsL_law := List.forall_mem_cons.mpr ⟨mW19_13, List.forall_mem_cons.mpr ⟨mW12_16, List.forall_mem_cons.mpr ⟨mW8_12, List.forall_mem_cons.mpr ⟨mW8_23, List.forall_mem_cons.mpr ⟨mW34_18, List.forall_mem_cons.mpr ⟨mW34_19, List.forall_mem_cons.mpr ⟨mW34_20, List.forall_mem_cons.mpr ⟨mW1_5, List.forall_mem_cons.mpr ⟨mW34_21, List.forall_mem_cons.mpr ⟨mW32_9, List.forall_mem_cons.mpr ⟨mW32_10, List.forall_mem_cons.mpr ⟨mW32_11, List.forall_mem_cons.mpr ⟨mW32_12, List.forall_mem_cons.mpr ⟨mW12_17, List.forall_mem_cons.mpr ⟨mW12_18, List.forall_mem_cons.mpr ⟨mW12_19, List.forall_mem_cons.mpr ⟨mW12_20, List.forall_mem_cons.mpr ⟨mW12_21, List.forall_mem_cons.mpr ⟨mW12_22, List.forall_mem_cons.mpr ⟨mW12_23, List.forall_mem_cons.mpr ⟨mW8_15, List.forall_mem_cons.mpr ⟨mW13_0, List.forall_mem_cons.mpr ⟨mW35_14, List.forall_mem_cons.mpr ⟨mW35_15, fun _ h => absurd h List.not_mem_nil⟩⟩⟩⟩⟩⟩⟩⟩⟩⟩⟩⟩⟩⟩⟩⟩⟩⟩⟩⟩⟩⟩⟩⟩
set_option maxRecDepth 20000 in
theorem mq_wsX8_thread_r2 : ∀ w ∈ wsX8_thread_r2, w ∈ wsL_law := List.forall_mem_cons.mpr ⟨mW35_16, List.forall_mem_cons.mpr ⟨mW35_17, List.forall_mem_cons.mpr ⟨mW9_22, List.forall_mem_cons.mpr ⟨mW32_1, List.forall_mem_cons.mpr ⟨mW32_2, List.forall_mem_cons.mpr ⟨mW32_3, List.forall_mem_cons.mpr ⟨mW32_4, List.forall_mem_cons.mpr ⟨mW19_16, List.forall_mem_cons.mpr ⟨mW19_17, List.forall_mem_cons.mpr ⟨mW19_18, List.forall_mem_cons.mpr ⟨mW19_19, List.forall_mem_cons.mpr ⟨mW19_14, List.forall_mem_cons.mpr ⟨mW8_22, List.forall_mem_cons.mpr ⟨mW32_5, List.forall_mem_cons.mpr ⟨mW32_6, List.forall_mem_cons.mpr ⟨mW32_7, List.forall_mem_cons.mpr ⟨mW32_8, List.forall_mem_cons.mpr ⟨mW8_17, List.forall_mem_cons.mpr ⟨mW8_18, List.forall_mem_cons.mpr ⟨mW19_20, List.forall_mem_cons.mpr ⟨mW19_21, List.forall_mem_cons.mpr ⟨mW19_22, List.forall_mem_cons.mpr ⟨mW19_23, List.forall_mem_cons.mpr ⟨mW20_0, fun _ h => absurd h List.not_mem_nil⟩⟩⟩⟩⟩⟩⟩⟩⟩⟩⟩⟩⟩⟩⟩⟩⟩⟩⟩⟩⟩⟩⟩⟩
set_option maxRecDepth 20000 in
theorem mq_wsX8_thread_r3 : ∀ w ∈ wsX8_thread_r3, w ∈ wsL_law := List.forall_mem_cons.mpr ⟨mW20_1, List.forall_mem_cons.mpr ⟨mW20_2, List.forall_mem_cons.mpr ⟨mW20_3, List.forall_mem_cons.mpr ⟨mW20_4, List.forall_mem_cons.mpr ⟨mW20_5, List.forall_mem_cons.mpr ⟨mW20_6, List.forall_mem_cons.mpr ⟨mW20_7, List.forall_mem_cons.mpr ⟨mW9_0, List.forall_mem_cons.mpr ⟨mW9_1, List.forall_mem_cons.mpr ⟨mW9_2, List.forall_mem_cons.mpr ⟨mW9_3, List.forall_mem_cons.mpr ⟨mW9_4, List.forall_mem_cons.mpr ⟨mW35_18, List.forall_mem_cons.mpr ⟨mW35_19, List.forall_mem_cons.mpr ⟨mW35_20, List.forall_mem_cons.mpr ⟨mW35_21, List.forall_mem_cons.mpr ⟨mW35_22, List.forall_mem_cons.mpr ⟨mW35_23, List.forall_mem_cons.mpr ⟨mW36_0, List.forall_mem_cons.mpr ⟨mW36_1, List.forall_mem_cons.mpr ⟨mW36_2, List.forall_mem_cons.mpr ⟨mW36_3, List.forall_mem_cons.mpr ⟨mW36_4, List.forall_mem_cons.mpr ⟨mW36_5, fun _ h => absurd h List.not_mem_nil⟩⟩⟩⟩⟩⟩⟩⟩⟩⟩⟩⟩⟩⟩⟩⟩⟩⟩⟩⟩⟩⟩⟩⟩
set_option maxRecDepth 20000 in
theorem mq_wsX8_thread_r4 : ∀ w ∈ wsX8_thread_r4, w ∈ wsL_law := List.forall_mem_cons.mpr ⟨mW36_6, List.forall_mem_cons.mpr ⟨mW36_7, List.forall_mem_cons.mpr ⟨mW36_8, List.forall_mem_cons.mpr ⟨mW36_9, List.forall_mem_cons.mpr ⟨mW36_10, List.forall_mem_cons.mpr ⟨mW36_11, List.forall_mem_cons.mpr ⟨mW36_12, List.forall_mem_cons.mpr ⟨mW36_13, fun _ h => absurd h List.not_mem_nil⟩⟩⟩⟩⟩⟩⟩⟩
theorem ggw_X8_thread : ∀ w ∈ wsX8_thread, w ∈ wsL_law := List.forall_mem_cons.mpr ⟨mW35_13, List.forall_mem_append.mpr ⟨List.forall_mem_append.mpr ⟨mq_wsX8_thread_r1, List.forall_mem_append.mpr ⟨mq_wsX8_thread_r2, List.forall_mem_append.mpr ⟨mq_wsX8_thread_r3, mq_wsX8_thread_r4⟩⟩⟩, inlX8⟩⟩
set_option maxRecDepth 20000 in
theorem ggL_law_X8_thread : GoodIn wsL_law wsX8_thread := goodIn_sub ggw_X8_thread (by decide +kernel)
set_option maxRecDepth 20000 in
theorem mq_wsX7_place_r1 : ∀ w ∈ wsX7_place_r1, w ∈ wsL_law := List.forall_mem_cons.mpr ⟨mW2_2, List.forall_mem_cons.mpr ⟨mW15_6, List.forall_mem_cons.mpr ⟨mW2_11, List.forall_mem_cons.mpr ⟨mW17_14, List.forall_mem_cons.mpr ⟨mW34_0, List.forall_mem_cons.mpr ⟨mW34_1, List.forall_mem_cons.mpr ⟨mW34_2, List.forall_mem_cons.mpr ⟨mW1_2, List.forall_mem_cons.mpr ⟨mW34_3, List.forall_mem_cons.mpr ⟨mW1_16, List.forall_mem_cons.mpr ⟨mW10_15, List.forall_mem_cons.mpr ⟨mW10_17, List.forall_mem_cons.mpr ⟨mW10_18, List.forall_mem_cons.mpr ⟨mW10_19, List.forall_mem_cons.mpr ⟨mW10_20, List.forall_mem_cons.mpr ⟨mW2_21, List.forall_mem_cons.mpr ⟨mW10_21, List.forall_mem_cons.mpr ⟨mW35_5, List.forall_mem_cons.mpr ⟨mW35_6, List.forall_mem_cons.mpr ⟨mW35_7, List.forall_mem_cons.mpr ⟨mW35_8, List.forall_mem_cons.mpr ⟨mW2_12, List.forall_mem_cons.mpr ⟨mW24_15, List.forall_mem_cons.mpr ⟨mW24_14, fun _ h => absurd h List.not_mem_nil⟩⟩⟩⟩⟩⟩⟩⟩⟩⟩⟩⟩⟩⟩⟩⟩⟩⟩⟩⟩⟩⟩⟩⟩
set_option maxRecDepth 20000 in
theorem mq_wsX7_place_r2 : ∀ w ∈ wsX7_place_r2, w ∈ wsL_law := List.forall_mem_cons.mpr ⟨mW11_4, List.forall_mem_cons.mpr ⟨mW11_5, List.forall_mem_cons.mpr ⟨mW11_6, List.forall_mem_cons.mpr ⟨mW2_9, List.forall_mem_cons.mpr ⟨mW11_7, List.forall_mem_cons.mpr ⟨mW7_6, List.forall_mem_cons.mpr ⟨mW7_7, List.forall_mem_cons.mpr ⟨mW7_8, List.forall_mem_cons.mpr ⟨mW7_9, List.forall_mem_cons.mpr ⟨mW7_10, List.forall_mem_cons.mpr ⟨mW7_11, List.forall_mem_cons.mpr ⟨mW7_13, List.forall_mem_cons.mpr ⟨mW7_14, List.forall_mem_cons.mpr ⟨mW7_16, List.forall_mem_cons.mpr ⟨mW7_17, List.forall_mem_cons.mpr ⟨mW7_18, List.forall_mem_cons.mpr ⟨mW7_19, List.forall_mem_cons.mpr ⟨mW7_4, List.forall_mem_cons.mpr ⟨mW7_5, List.forall_mem_cons.mpr ⟨mW7_20, List.forall_mem_cons.mpr ⟨mW3_12, List.forall_mem_cons.mpr ⟨mW3_13, List.forall_mem_cons.mpr ⟨mW3_14, List.forall_mem_cons.mpr ⟨mW11_8, fun _ h => absurd h List.not_mem_nil⟩⟩⟩⟩⟩⟩⟩⟩⟩⟩⟩⟩⟩⟩⟩⟩⟩⟩⟩⟩⟩⟩⟩⟩
set_option maxRecDepth 20000 in
theorem mq_wsX7_place_r3 : ∀ w ∈ wsX7_place_r3, w ∈ wsL_law := List.forall_mem_cons.mpr ⟨mW11_9, List.forall_mem_cons.mpr ⟨mW11_10, List.forall_mem_cons.mpr ⟨mW1_20, List.forall_mem_cons.mpr ⟨mW11_11, List.forall_mem_cons.mpr ⟨mW5_23, List.forall_mem_cons.mpr ⟨mW6_0, List.forall_mem_cons.mpr ⟨mW6_1, List.forall_mem_cons.mpr ⟨mW6_2, List.forall_mem_cons.mpr ⟨mW17_19, List.forall_mem_cons.mpr ⟨mW17_20, List.forall_mem_cons.mpr ⟨mW17_21, List.forall_mem_cons.mpr ⟨mW17_22, List.forall_mem_cons.mpr ⟨mW17_23, List.forall_mem_cons.mpr ⟨mW18_0, List.forall_mem_cons.mpr ⟨mW18_1, List.forall_mem_cons.mpr ⟨mW18_2, List.forall_mem_cons.mpr ⟨mW18_3, List.forall_mem_cons.mpr ⟨mW18_4, List.forall_mem_cons.mpr ⟨mW18_5, List.forall_mem_cons.mpr ⟨mW18_6, List.forall_mem_cons.mpr ⟨mW18_7, List.forall_mem_cons.mpr ⟨mW18_8, List.forall_mem_cons.mpr ⟨mW18_9, List.forall_mem_cons.mpr ⟨mW18_10, fun _ h => absurd h List.not_mem_nil⟩⟩⟩⟩⟩⟩⟩⟩⟩⟩⟩⟩⟩⟩⟩⟩⟩⟩⟩⟩⟩⟩⟩⟩
set_option maxRecDepth 20000 in
theorem mq_wsX7_place_r4 : ∀ w ∈ wsX7_place_r4, w ∈ wsL_law := List.forall_mem_cons.mpr ⟨mW18_11, List.forall_mem_cons.mpr ⟨mW18_12, List.forall_mem_cons.mpr ⟨mW18_13, List.forall_mem_cons.mpr ⟨mW18_14, List.forall_mem_cons.mpr ⟨mW18_15, List.forall_mem_cons.mpr ⟨mW18_16, List.forall_mem_cons.mpr ⟨mW18_17, List.forall_mem_cons.mpr ⟨mW12_8, List.forall_mem_cons.mpr ⟨mW12_5, List.forall_mem_cons.mpr ⟨mW12_9, List.forall_mem_cons.mpr ⟨mW18_18, List.forall_mem_cons.mpr ⟨mW18_19, List.forall_mem_cons.mpr ⟨mW18_20, List.forall_mem_cons.mpr ⟨mW18_21, fun _ h => absurd h List.not_mem_nil⟩⟩⟩⟩⟩⟩⟩⟩⟩⟩⟩⟩⟩⟩
theorem ggw_X7_place : ∀ w ∈ wsX7_place, w ∈ wsL_law := List.forall_mem_cons.mpr ⟨mW36_17, List.forall_mem_append.mpr ⟨List.forall_mem_append.mpr ⟨List.forall_mem_append.mpr ⟨List.forall_mem_append.mpr ⟨List.forall_mem_append.mpr ⟨List.forall_mem_append.mpr ⟨mq_wsX7_place_r1, List.forall_mem_append.mpr ⟨mq_wsX7_place_r2, List.forall_mem_append.mpr ⟨mq_wsX7_place_r3, mq_wsX7_place_r4⟩⟩⟩, inlX7⟩, inlX0⟩, inlX6⟩, inlX2⟩, inlX1⟩⟩
set_option maxRecDepth 20000 in
theorem ggL_law_X7_place : GoodIn wsL_law wsX7_place := goodIn_sub ggw_X7_place (by decide +kernel)
set_option maxRecDepth 20000 in
theorem mq_wsX8_place_r1 : ∀ w ∈ wsX8_place_r1, w ∈ wsL_law := List.forall_mem_cons.mpr ⟨mW9_22, List.forall_mem_cons.mpr ⟨mW12_16, List.forall_mem_cons.mpr ⟨mW34_18, List.forall_mem_cons.mpr ⟨mW34_19, List.forall_mem_cons.mpr ⟨mW34_20, List.forall_mem_cons.mpr ⟨mW1_5, List.forall_mem_cons.mpr ⟨mW34_21, List.forall_mem_cons.mpr ⟨mW32_9, List.forall_mem_cons.mpr ⟨mW32_10, List.forall_mem_cons.mpr ⟨mW32_11, List.forall_mem_cons.mpr ⟨mW32_12, List.forall_mem_cons.mpr ⟨mW8_12, List.forall_mem_cons.mpr ⟨mW12_17, List.forall_mem_cons.mpr ⟨mW12_18, List.forall_mem_cons.mpr ⟨mW12_19, List.forall_mem_cons.mpr ⟨mW12_20, List.forall_mem_cons.mpr ⟨mW12_21, List.forall_mem_cons.mpr ⟨mW12_22, List.forall_mem_cons.mpr ⟨mW12_23, List.forall_mem_cons.mpr ⟨mW8_15, List.forall_mem_cons.mpr ⟨mW13_0, List.forall_mem_cons.mpr ⟨mW35_18, List.forall_mem_cons.mpr ⟨mW35_19, List.forall_mem_cons.mpr ⟨mW35_20, fun _ h => absurd h List.not_mem_nil⟩⟩⟩⟩⟩⟩⟩⟩⟩⟩⟩⟩⟩⟩⟩⟩⟩⟩⟩⟩⟩⟩⟩⟩
set_option maxRecDepth 20000 in
theorem mq_wsX8_place_r2 : ∀ w ∈ wsX8_place_r2, w ∈ wsL_law := List.forall_mem_cons.mpr ⟨mW35_21, List.forall_mem_cons.mpr ⟨mW19_16, List.forall_mem_cons.mpr ⟨mW19_17, List.forall_mem_cons.mpr ⟨mW19_18, List.forall_mem_cons.mpr ⟨mW19_19, List.forall_mem_cons.mpr ⟨mW19_14, List.forall_mem_cons.mpr ⟨mW8_22, List.forall_mem_cons.mpr ⟨mW8_23, List.forall_mem_cons.mpr ⟨mW32_5, List.forall_mem_cons.mpr ⟨mW32_6, List.forall_mem_cons.mpr ⟨mW32_7, List.forall_mem_cons.mpr ⟨mW32_8, List.forall_mem_cons.mpr ⟨mW8_17, List.forall_mem_cons.mpr ⟨mW8_18, List.forall_mem_cons.mpr ⟨mW19_20, List.forall_mem_cons.mpr ⟨mW19_21, List.forall_mem_cons.mpr ⟨mW19_22, List.forall_mem_cons.mpr ⟨mW19_23, List.forall_mem_cons.mpr ⟨mW20_0, List.forall_mem_cons.mpr ⟨mW20_1, List.forall_mem_cons.mpr ⟨mW20_2, List.forall_mem_cons.mpr ⟨mW20_3, List.forall_mem_cons.mpr ⟨mW20_4, List.forall_mem_cons.mpr ⟨mW20_5, fun _ h => absurd h List.not_mem_nil⟩⟩⟩⟩⟩⟩⟩⟩⟩⟩⟩⟩⟩⟩⟩⟩⟩⟩⟩⟩⟩⟩⟩⟩
set_option maxRecDepth 20000 in
theorem mq_wsX8_place_r3 : ∀ w ∈ wsX8_place_r3, w ∈ wsL_law := List.forall_mem_cons.mpr ⟨mW20_6, List.forall_mem_cons.mpr ⟨mW20_7, List.forall_mem_cons.mpr ⟨mW9_0, List.forall_mem_cons.mpr ⟨mW9_1, List.forall_mem_cons.mpr ⟨mW9_2, List.forall_mem_cons.mpr ⟨mW9_3, List.forall_mem_cons.mpr ⟨mW9_4, List.forall_mem_cons.mpr ⟨mW35_22, List.forall_mem_cons.mpr ⟨mW35_23, List.forall_mem_cons.mpr ⟨mW36_0, List.forall_mem_cons.mpr ⟨mW36_1, fun _ h => absurd h List.not_mem_nil⟩⟩⟩⟩⟩⟩⟩⟩⟩⟩⟩
theorem ggw_X8_place : ∀ w ∈ wsX8_place, w ∈ wsL_law := List.forall_mem_cons.mpr ⟨mW36_21, List.forall_mem_append.mpr ⟨List.forall_mem_append.mpr ⟨mq_wsX8_place_r1, List.forall_mem_append.mpr ⟨mq_wsX8_place_r2, mq_wsX8_place_r3⟩⟩, inlX8⟩⟩
set_option maxRecDepth 20000 in
theorem ggL_law_X8_place : GoodIn wsL_law wsX8_place := goodIn_sub ggw_X8_place (by decide +kernel)
set_option maxRecDepth 20000 in
theorem mq_wsX7_rounds_r1 : ∀ w ∈ wsX7_rounds_r1, w ∈ wsL_law := List.forall_mem_cons.mpr ⟨mW2_2, List.forall_mem_cons.mpr ⟨mW15_6, List.forall_mem_cons.mpr ⟨mW2_11, List.forall_mem_cons.mpr ⟨mW35_5, List.forall_mem_cons.mpr ⟨mW35_6, List.forall_mem_cons.mpr ⟨mW35_7, List.forall_mem_cons.mpr ⟨mW1_2, List.forall_mem_cons.mpr ⟨mW35_8, List.forall_mem_cons.mpr ⟨mW2_12, List.forall_mem_cons.mpr ⟨mW1_16, List.forall_mem_cons.mpr ⟨mW24_15, List.forall_mem_cons.mpr ⟨mW24_14, List.forall_mem_cons.mpr ⟨mW11_4, List.forall_mem_cons.mpr ⟨mW11_5, List.forall_mem_cons.mpr ⟨mW11_6, List.forall_mem_cons.mpr ⟨mW2_9, List.forall_mem_cons.mpr ⟨mW11_7, List.forall_mem_cons.mpr ⟨mW7_6, List.forall_mem_cons.mpr ⟨mW7_7, List.forall_mem_cons.mpr ⟨mW7_8, List.forall_mem_cons.mpr ⟨mW7_9, List.forall_mem_cons.mpr ⟨mW7_10, List.forall_mem_cons.mpr ⟨mW7_11, List.forall_mem_cons.mpr ⟨mW7_13, fun _ h => absurd h List.not_mem_nil⟩⟩⟩⟩⟩⟩⟩⟩⟩⟩⟩⟩⟩⟩⟩⟩⟩⟩⟩⟩⟩⟩⟩⟩
set_option maxRecDepth 20000 in
theorem mq_wsX7_rounds_r2 : ∀ w ∈ wsX7_rounds_r2, w ∈ wsL_law := List.forall_mem_cons.mpr ⟨mW7_14, List.forall_mem_cons.mpr ⟨mW7_16, List.forall_mem_cons.mpr ⟨mW7_17, List.forall_mem_cons.mpr ⟨mW7_18, List.forall_mem_cons.mpr ⟨mW7_19, List.forall_mem_cons.mpr ⟨mW7_4, List.forall_mem_cons.mpr ⟨mW7_5, List.forall_mem_cons.mpr ⟨mW7_20, List.forall_mem_cons.mpr ⟨mW3_12, List.forall_mem_cons.mpr ⟨mW3_13, List.forall_mem_cons.mpr ⟨mW3_14, List.forall_mem_cons.mpr ⟨mW11_8, List.forall_mem_cons.mpr ⟨mW11_9, List.forall_mem_cons.mpr ⟨mW11_10, List.forall_mem_cons.mpr ⟨mW1_20, List.forall_mem_cons.mpr ⟨mW11_11, List.forall_mem_cons.mpr ⟨mW5_23, List.forall_mem_cons.mpr ⟨mW6_0, List.forall_mem_cons.mpr ⟨mW6_1, List.forall_mem_cons.mpr ⟨mW6_2, List.forall_mem_cons.mpr ⟨mW17_19, List.forall_mem_cons.mpr ⟨mW17_20, List.forall_mem_cons.mpr ⟨mW17_21, List.forall_mem_cons.mpr ⟨mW17_22, fun _ h => absurd h List.not_mem_nil⟩⟩⟩⟩⟩⟩⟩⟩⟩⟩⟩⟩⟩⟩⟩⟩⟩⟩⟩⟩⟩⟩⟩⟩
set_option maxRecDepth 20000 in
theorem mq_wsX7_rounds_r3 : ∀ w ∈ wsX7_rounds_r3, w ∈ wsL_law := List.forall_mem_cons.mpr ⟨mW17_23, List.forall_mem_cons.mpr ⟨mW18_0, List.forall_mem_cons.mpr ⟨mW18_1, List.forall_mem_cons.mpr ⟨mW18_2, List.forall_mem_cons.mpr ⟨mW18_3, List.forall_mem_cons.mpr ⟨mW18_4, List.forall_mem_cons.mpr ⟨mW18_5, List.forall_mem_cons.mpr ⟨mW18_6, List.forall_mem_cons.mpr ⟨mW18_7, List.forall_mem_cons.mpr ⟨mW18_8, List.forall_mem_cons.mpr ⟨mW18_9, List.forall_mem_cons.mpr ⟨mW18_10, List.forall_mem_cons.mpr ⟨mW18_11, List.forall_mem_cons.mpr ⟨mW18_12, List.forall_mem_cons.mpr ⟨mW18_13, List.forall_mem_cons.mpr ⟨mW18_14, List.forall_mem_cons.mpr ⟨mW18_15, List.forall_mem_cons.mpr ⟨mW18_16, List.forall_mem_cons.mpr ⟨mW18_17, List.forall_mem_cons.mpr ⟨mW12_8, List.forall_mem_cons.mpr ⟨mW12_5, List.forall_mem_cons.mpr ⟨mW12_9, List.forall_mem_cons.mpr ⟨mW18_18, List.forall_mem_cons.mpr ⟨mW18_19, fun _ h => absurd h List.not_mem_nil⟩⟩⟩⟩⟩⟩⟩⟩⟩⟩⟩⟩⟩⟩⟩⟩⟩⟩⟩⟩⟩⟩⟩⟩
set_option maxRecDepth 20000 in
theorem mq_wsX7_rounds_r4 : ∀ w ∈ wsX7_rounds_r4, w ∈ wsL_law := List.forall_mem_cons.mpr ⟨mW18_20, List.forall_mem_cons.mpr ⟨mW18_21, List.forall_mem_cons.mpr ⟨mW18_22, List.forall_mem_cons.mpr ⟨mW18_23, List.forall_mem_cons.mpr ⟨mW19_0, List.forall_mem_cons.mpr ⟨mW19_1, List.forall_mem_cons.mpr ⟨mW19_2, List.forall_mem_cons.mpr ⟨mW19_3, List.forall_mem_cons.mpr ⟨mW19_4, List.forall_mem_cons.mpr ⟨mW19_5, List.forall_mem_cons.mpr ⟨mW19_6, List.forall_mem_cons.mpr ⟨mW19_7, List.forall_mem_cons.mpr ⟨mW19_8, fun _ h => absurd h List.not_mem_nil⟩⟩⟩⟩⟩⟩⟩⟩⟩⟩⟩⟩⟩
theorem ggw_X7_rounds : ∀ w ∈ wsX7_rounds, w ∈ wsL_law := List.forall_mem_cons.mpr ⟨mW37_1, List.forall_mem_append.mpr ⟨List.forall_mem_append.mpr ⟨List.forall_mem_append.mpr ⟨List.forall_mem_append.mpr ⟨List.forall_mem_append.mpr ⟨List.forall_mem_append.mpr ⟨mq_wsX7_rounds_r1, List.forall_mem_append.mpr ⟨mq_wsX7_rounds_r2, List.forall_mem_append.mpr ⟨mq_wsX7_rounds_r3, mq_wsX7_rounds_r4⟩⟩⟩, inlX7⟩, inlX0⟩, inlX6⟩, inlX1⟩, inlX2⟩⟩
set_option maxRecDepth 20000 in
theorem ggL_law_X7_rounds : GoodIn wsL_law wsX7_rounds := goodIn_sub ggw_X7_rounds (by decide +kernel)
set_option maxRecDepth 20000 in
theorem mq_wsX8_rounds_r1 : ∀ w ∈ wsX8_rounds_r1, w ∈ wsL_law := List.forall_mem_cons.mpr ⟨mW9_22, List.forall_mem_cons.mpr ⟨mW35_18, List.forall_mem_cons.mpr ⟨mW35_19, List.forall_mem_cons.mpr ⟨mW35_20, List.forall_mem_cons.mpr ⟨mW1_5, List.forall_mem_cons.mpr ⟨mW35_21, List.forall_mem_cons.mpr ⟨mW19_16, List.forall_mem_cons.mpr ⟨mW19_17, List.forall_mem_cons.mpr ⟨mW19_18, List.forall_mem_cons.mpr ⟨mW19_19, List.forall_mem_cons.mpr ⟨mW19_14, List.forall_mem_cons.mpr ⟨mW8_22, List.forall_mem_cons.mpr ⟨mW8_23, List.forall_mem_cons.mpr ⟨mW32_5, List.forall_mem_cons.mpr ⟨mW32_6, List.forall_mem_cons.mpr ⟨mW32_7, List.forall_mem_cons.mpr ⟨mW32_8, List.forall_mem_cons.mpr ⟨mW8_17, List.forall_mem_cons.mpr ⟨mW8_18, List.forall_mem_cons.mpr ⟨mW19_20, List.forall_mem_cons.mpr ⟨mW19_21, List.forall_mem_cons.mpr ⟨mW19_22, List.forall_mem_cons.mpr ⟨mW19_23, List.forall_mem_cons.mpr ⟨mW8_12, fun _ h => absurd h List.not_mem_nil⟩⟩⟩⟩⟩⟩⟩⟩⟩⟩⟩⟩⟩⟩⟩⟩⟩⟩⟩⟩⟩⟩⟩⟩
set_option maxRecDepth 20000 in
theorem mq_wsX8_rounds_r2 : ∀ w ∈ wsX8_rounds_r2, w ∈ wsL_law := List.forall_mem_cons.mpr ⟨mW20_0, List.forall_mem_cons.mpr ⟨mW20_1, List.forall_mem_cons.mpr ⟨mW20_2, List.forall_mem_cons.mpr ⟨mW20_3, List.forall_mem_cons.mpr ⟨mW20_4, List.forall_mem_cons.mpr ⟨mW20_5, List.forall_mem_cons.mpr ⟨mW20_6, List.forall_mem_cons.mpr ⟨mW20_7, List.forall_mem_cons.mpr ⟨mW9_0, List.forall_mem_cons.mpr ⟨mW9_1, List.forall_mem_cons.mpr ⟨mW9_2, List.forall_mem_cons.mpr ⟨mW9_3, List.forall_mem_cons.mpr ⟨mW9_4, List.forall_mem_cons.mpr ⟨mW32_9, List.forall_mem_cons.mpr ⟨mW32_10, List.forall_mem_cons.mpr ⟨mW32_11, List.forall_mem_cons.mpr ⟨mW32_12, List.forall_mem_cons.mpr ⟨mW36_2, List.forall_mem_cons.mpr ⟨mW36_3, List.forall_mem_cons.mpr ⟨mW36_4, List.forall_mem_cons.mpr ⟨mW36_5, List.forall_mem_cons.mpr ⟨mW35_22, List.forall_mem_cons.mpr ⟨mW35_23, List.forall_mem_cons.mpr ⟨mW36_0, fun _ h => absurd h List.not_mem_nil⟩⟩⟩⟩⟩⟩⟩⟩⟩⟩⟩⟩⟩⟩⟩⟩⟩⟩⟩⟩⟩⟩⟩⟩
set_option maxRecDepth 20000 in
theorem mq_wsX8_rounds_r3 : ∀ w ∈ wsX8_rounds_r3, w ∈ wsL_law := List.forall_mem_cons.mpr ⟨mW36_1, List.forall_mem_cons.mpr ⟨mW37_6, List.forall_mem_cons.mpr ⟨mW37_7, List.forall_mem_cons.mpr ⟨mW37_8, fun _ h => absurd h List.not_mem_nil⟩⟩⟩⟩
theorem ggw_X8_rounds : ∀ w ∈ wsX8_rounds, w ∈ wsL_law := List.forall_mem_cons.mpr ⟨mW37_5, List.forall_mem_append.mpr ⟨List.forall_mem_append.mpr ⟨mq_wsX8_rounds_r1, List.forall_mem_append.mpr ⟨mq_wsX8_rounds_r2, mq_wsX8_rounds_r3⟩⟩, inlX8⟩⟩
set_option maxRecDepth 20000 in
theorem ggL_law_X8_rounds : GoodIn wsL_law wsX8_rounds := goodIn_sub ggw_X8_rounds (by decide +kernel)
set_option maxRecDepth 20000 in
theorem mq_wsX7_link_r1 : ∀ w ∈ wsX7_link_r1, w ∈ wsL_law := List.forall_mem_cons.mpr ⟨mW2_2, List.forall_mem_cons.mpr ⟨mW15_6, List.forall_mem_cons.mpr ⟨mW2_11, List.forall_mem_cons.mpr ⟨mW37_13, List.forall_mem_cons.mpr ⟨mW34_0, List.forall_mem_cons.mpr ⟨mW34_1, List.forall_mem_cons.mpr ⟨mW34_2, List.forall_mem_cons.mpr ⟨mW1_2, List.forall_mem_cons.mpr ⟨mW34_3, List.forall_mem_cons.mpr ⟨mW1_16, List.forall_mem_cons.mpr ⟨mW10_15, List.forall_mem_cons.mpr ⟨mW10_17, List.forall_mem_cons.mpr ⟨mW10_18, List.forall_mem_cons.mpr ⟨mW10_19, List.forall_mem_cons.mpr ⟨mW10_20, List.forall_mem_cons.mpr ⟨mW2_21, List.forall_mem_cons.mpr ⟨mW10_21, List.forall_mem_cons.mpr ⟨mW35_5, List.forall_mem_cons.mpr ⟨mW35_6, List.forall_mem_cons.mpr ⟨mW35_7, List.forall_mem_cons.mpr ⟨mW35_8, List.forall_mem_cons.mpr ⟨mW2_12, List.forall_mem_cons.mpr ⟨mW24_15, List.forall_mem_cons.mpr ⟨mW24_14, fun _ h => absurd h List.not_mem_nil⟩⟩⟩⟩⟩⟩⟩⟩⟩⟩⟩⟩⟩⟩⟩⟩⟩⟩⟩⟩⟩⟩⟩⟩
set_option maxRecDepth 20000 in
theorem mq_wsX7_link_r2 : ∀ w ∈ wsX7_link_r2, w ∈ wsL_law := List.forall_mem_cons.mpr ⟨mW11_4, List.forall_mem_cons.mpr ⟨mW11_5, List.forall_mem_cons.mpr ⟨mW11_6, List.forall_mem_cons.mpr ⟨mW2_9, List.forall_mem_cons.mpr ⟨mW11_7, List.forall_mem_cons.mpr ⟨mW7_6, List.forall_mem_cons.mpr ⟨mW7_7, List.forall_mem_cons.mpr ⟨mW7_8, List.forall_mem_cons.mpr ⟨mW7_9, List.forall_mem_cons.mpr ⟨mW7_10, List.forall_mem_cons.mpr ⟨mW7_11, List.forall_mem_cons.mpr ⟨mW7_13, List.forall_mem_cons.mpr ⟨mW7_14, List.forall_mem_cons.mpr ⟨mW7_16, List.forall_mem_cons.mpr ⟨mW7_17, List.forall_mem_cons.mpr ⟨mW7_18, List.forall_mem_cons.mpr ⟨mW7_19, List.forall_mem_cons.mpr ⟨mW7_4, List.forall_mem_cons.mpr ⟨mW7_5, List.forall_mem_cons.mpr ⟨mW7_20, List.forall_mem_cons.mpr ⟨mW3_12, List.forall_mem_cons.mpr ⟨mW3_13, List.forall_mem_cons.mpr ⟨mW3_14, List.forall_mem_cons.mpr ⟨mW11_8, fun _ h => absurd h List.not_mem_nil⟩⟩⟩⟩⟩⟩⟩⟩⟩⟩⟩⟩⟩⟩⟩⟩⟩⟩⟩⟩⟩⟩⟩⟩
set_option maxRecDepth 20000 in
theorem mq_wsX7_link_r3 : ∀ w ∈ wsX7_link_r3, w ∈ wsL_law := List.forall_mem_cons.mpr ⟨mW11_9, List.forall_mem_cons.mpr ⟨mW11_10, List.forall_mem_cons.mpr ⟨mW1_20, List.forall_mem_cons.mpr ⟨mW11_11, List.forall_mem_cons.mpr ⟨mW5_23, List.forall_mem_cons.mpr ⟨mW6_0, List.forall_mem_cons.mpr ⟨mW6_1, List.forall_mem_cons.mpr ⟨mW6_2, List.forall_mem_cons.mpr ⟨mW17_19, List.forall_mem_cons.mpr ⟨mW17_20, List.forall_mem_cons.mpr ⟨mW17_21, List.forall_mem_cons.mpr ⟨mW17_22, List.forall_mem_cons.mpr ⟨mW17_23, List.forall_mem_cons.mpr ⟨mW18_0, List.forall_mem_cons.mpr ⟨mW18_1, List.forall_mem_cons.mpr ⟨mW18_2, List.forall_mem_cons.mpr ⟨mW18_3, List.forall_mem_cons.mpr ⟨mW18_4, List.forall_mem_cons.mpr ⟨mW18_5, List.forall_mem_cons.mpr ⟨mW18_6, List.forall_mem_cons.mpr ⟨mW18_7, List.forall_mem_cons.mpr ⟨mW18_8, List.forall_mem_cons.mpr ⟨mW18_9, List.forall_mem_cons.mpr ⟨mW18_10, fun _ h => absurd h List.not_mem_nil⟩⟩⟩⟩⟩⟩⟩⟩⟩⟩⟩⟩⟩⟩⟩⟩⟩⟩⟩⟩⟩⟩⟩⟩
set_option maxRecDepth 20000 in
theorem mq_wsX7_link_r4 : ∀ w ∈ wsX7_link_r4, w ∈ wsL_law := List.forall_mem_cons.mpr ⟨mW18_11, List.forall_mem_cons.mpr ⟨mW18_12, List.forall_mem_cons.mpr ⟨mW18_13, List.forall_mem_cons.mpr ⟨mW18_14, List.forall_mem_cons.mpr ⟨mW18_15, List.forall_mem_cons.mpr ⟨mW18_16, List.forall_mem_cons.mpr ⟨mW18_17, List.forall_mem_cons.mpr ⟨mW12_8, List.forall_mem_cons.mpr ⟨mW12_5, List.forall_mem_cons.mpr ⟨mW12_9, List.forall_mem_cons.mpr ⟨mW18_18, List.forall_mem_cons.mpr ⟨mW18_19, List.forall_mem_cons.mpr ⟨mW18_20, List.forall_mem_cons.mpr ⟨mW18_21, fun _ h => absurd h List.not_mem_nil⟩⟩⟩⟩⟩⟩⟩⟩⟩⟩⟩⟩⟩⟩
theorem ggw_X7_link : ∀ w ∈ wsX7_link, w ∈ wsL_law := List.forall_mem_cons.mpr ⟨mW37_12, List.forall_mem_append.mpr ⟨List.forall_mem_append.mpr ⟨List.forall_mem_append.mpr ⟨List.forall_mem_append.mpr ⟨List.forall_mem_append.mpr ⟨List.forall_mem_append.mpr ⟨mq_wsX7_link_r1, List.forall_mem_append.mpr ⟨mq_wsX7_link_r2, List.forall_mem_append.mpr ⟨mq_wsX7_link_r3, mq_wsX7_link_r4⟩⟩⟩, inlX7⟩, inlX0⟩, inlX6⟩, inlX2⟩, inlX1⟩⟩
set_option maxRecDepth 20000 in
theorem ggL_law_X7_link : GoodIn wsL_law wsX7_link := goodIn_sub ggw_X7_link (by decide +kernel)
set_option maxRecDepth 20000 in
theorem mq_wsX8_link_r1 : ∀ w ∈ wsX8_link_r1, w ∈ wsL_law := List.forall_mem_cons.mpr ⟨mW12_16, List.forall_mem_cons.mpr ⟨mW9_22, List.forall_mem_cons.mpr ⟨mW19_14, List.forall_mem_cons.mpr ⟨mW9_2, List.forall_mem_cons.mpr ⟨mW9_3, List.forall_mem_cons.mpr ⟨mW34_18, List.forall_mem_cons.mpr ⟨mW34_19, List.forall_mem_cons.mpr ⟨mW34_20, List.forall_mem_cons.mpr ⟨mW1_5, List.forall_mem_cons.mpr ⟨mW34_21, List.forall_mem_cons.mpr ⟨mW32_9, List.forall_mem_cons.mpr ⟨mW32_10, List.forall_mem_cons.mpr ⟨mW32_11, List.forall_mem_cons.mpr ⟨mW32_12, List.forall_mem_cons.mpr ⟨mW8_12, List.forall_mem_cons.mpr ⟨mW12_17, List.forall_mem_cons.mpr ⟨mW12_18, List.forall_mem_cons.mpr ⟨mW12_19, List.forall_mem_cons.mpr ⟨mW12_20, List.forall_mem_cons.mpr ⟨mW12_21, List.forall_mem_cons.mpr ⟨mW12_22, List.forall_mem_cons.mpr ⟨mW12_23, List.forall_mem_cons.mpr ⟨mW8_15, List.forall_mem_cons.mpr ⟨mW13_0, fun _ h => absurd h List.not_mem_nil⟩⟩⟩⟩⟩⟩⟩⟩⟩⟩⟩⟩⟩⟩⟩⟩⟩⟩⟩⟩⟩⟩⟩⟩
set_option maxRecDepth 20000 in
theorem mq_wsX8_link_r2 : ∀ w ∈ wsX8_link_r2, w ∈ wsL_law := List.forall_mem_cons.mpr ⟨mW35_18, List.forall_mem_cons.mpr ⟨mW35_19, List.forall_mem_cons.mpr ⟨mW35_20, List.forall_mem_cons.mpr ⟨mW35_21, List.forall_mem_cons.mpr ⟨mW19_16, List.forall_mem_cons.mpr ⟨mW19_17, List.forall_mem_cons.mpr ⟨mW19_18, List.forall_mem_cons.mpr ⟨mW19_19, List.forall_mem_cons.mpr ⟨mW8_22, List.forall_mem_cons.mpr ⟨mW8_23, List.forall_mem_cons.mpr ⟨mW32_5, List.forall_mem_cons.mpr ⟨mW32_6, List.forall_mem_cons.mpr ⟨mW32_7, List.forall_mem_cons.mpr ⟨mW32_8, List.forall_mem_cons.mpr ⟨mW8_17, List.forall_mem_cons.mpr ⟨mW8_18, List.forall_mem_cons.mpr ⟨mW19_20, List.forall_mem_cons.mpr ⟨mW19_21, List.forall_mem_cons.mpr ⟨mW19_22, List.forall_mem_cons.mpr ⟨mW19_23, List.forall_mem_cons.mpr ⟨mW20_0, List.forall_mem_cons.mpr ⟨mW20_1, List.forall_mem_cons.mpr ⟨mW20_2, List.forall_mem_cons.mpr ⟨mW20_3, fun _ h => absurd h List.not_mem_nil⟩⟩⟩⟩⟩⟩⟩⟩⟩⟩⟩⟩⟩⟩⟩⟩⟩⟩⟩⟩⟩⟩⟩⟩
set_option maxRecDepth 20000 in
theorem mq_wsX8_link_r3 : ∀ w ∈ wsX8_link_r3, w ∈ wsL_law := List.forall_mem_cons.mpr ⟨mW20_4, List.forall_mem_cons.mpr ⟨mW20_5, List.forall_mem_cons.mpr ⟨mW20_6, List.forall_mem_cons.mpr ⟨mW20_7, List.forall_mem_cons.mpr ⟨mW9_0, List.forall_mem_cons.mpr ⟨mW9_1, List.forall_mem_cons.mpr ⟨mW9_4, fun _ h => absurd h List.not_mem_nil⟩⟩⟩⟩⟩⟩⟩
theorem ggw_X8_link : ∀ w ∈ wsX8_link, w ∈ wsL_law := List.forall_mem_cons.mpr ⟨mW37_17, List.forall_mem_append.mpr ⟨List.forall_mem_append.mpr ⟨mq_wsX8_link_r1, List.forall_mem_append.mpr ⟨mq_wsX8_link_r2, mq_wsX8_link_r3⟩⟩, inlX8⟩⟩
set_option maxRecDepth 20000 in
theorem ggL_law_X8_link : GoodIn wsL_law wsX8_link := goodIn_sub ggw_X8_link (by decide +kernel)
set_option maxRecDepth 20000 in
theorem mq_wsX7_meet_r1 : ∀ w ∈ wsX7_meet_r1, w ∈ wsL_law := List.forall_mem_cons.mpr ⟨mW2_2, List.forall_mem_cons.mpr ⟨mW15_6, List.forall_mem_cons.mpr ⟨mW2_11, List.forall_mem_cons.mpr ⟨mW34_0, List.forall_mem_cons.mpr ⟨mW34_1, List.forall_mem_cons.mpr ⟨mW34_2, List.forall_mem_cons.mpr ⟨mW1_2, List.forall_mem_cons.mpr ⟨mW34_3, List.forall_mem_cons.mpr ⟨mW1_16, List.forall_mem_cons.mpr ⟨mW10_15, List.forall_mem_cons.mpr ⟨mW10_17, List.forall_mem_cons.mpr ⟨mW10_18, List.forall_mem_cons.mpr ⟨mW10_19, List.forall_mem_cons.mpr ⟨mW10_20, List.forall_mem_cons.mpr ⟨mW2_21, List.forall_mem_cons.mpr ⟨mW10_21, List.forall_mem_cons.mpr ⟨mW35_5, List.forall_mem_cons.mpr ⟨mW35_6, List.forall_mem_cons.mpr ⟨mW35_7, List.forall_mem_cons.mpr ⟨mW35_8, List.forall_mem_cons.mpr ⟨mW2_12, List.forall_mem_cons.mpr ⟨mW24_15, List.forall_mem_cons.mpr ⟨mW24_14, List.forall_mem_cons.mpr ⟨mW11_4, fun _ h => absurd h List.not_mem_nil⟩⟩⟩⟩⟩⟩⟩⟩⟩⟩⟩⟩⟩⟩⟩⟩⟩⟩⟩⟩⟩⟩⟩⟩
set_option maxRecDepth 20000 in
theorem mq_wsX7_meet_r2 : ∀ w ∈ wsX7_meet_r2, w ∈ wsL_law := List.forall_mem_cons.mpr ⟨mW11_5, List.forall_mem_cons.mpr ⟨mW11_6, List.forall_mem_cons.mpr ⟨mW2_9, List.forall_mem_cons.mpr ⟨mW11_7, List.forall_mem_cons.mpr ⟨mW7_6, List.forall_mem_cons.mpr ⟨mW7_7, List.forall_mem_cons.mpr ⟨mW7_8, List.forall_mem_cons.mpr ⟨mW7_9, List.forall_mem_cons.mpr ⟨mW7_10, List.forall_mem_cons.mpr ⟨mW7_11, List.forall_mem_cons.mpr ⟨mW7_13, List.forall_mem_cons.mpr ⟨mW7_14, List.forall_mem_cons.mpr ⟨mW7_16, List.forall_mem_cons.mpr ⟨mW7_17, List.forall_mem_cons.mpr ⟨mW7_18, List.forall_mem_cons.mpr ⟨mW7_19, List.forall_mem_cons.mpr ⟨mW7_4, List.forall_mem_cons.mpr ⟨mW7_5, List.forall_mem_cons.mpr ⟨mW7_20, List.forall_mem_cons.mpr ⟨mW3_12, List.forall_mem_cons.mpr ⟨mW3_13, List.forall_mem_cons.mpr ⟨mW3_14, List.forall_mem_cons.mpr ⟨mW11_8, List.forall_mem_cons.mpr ⟨mW11_9, fun _ h => absurd h List.not_mem_nil⟩⟩⟩⟩⟩⟩⟩⟩⟩⟩⟩⟩⟩⟩⟩⟩⟩⟩⟩⟩⟩⟩⟩⟩
set_option maxRecDepth 20000 in
theorem mq_wsX7_meet_r3 : ∀ w ∈ wsX7_meet_r3, w ∈ wsL_law := List.forall_mem_cons.mpr ⟨mW11_10, List.forall_mem_cons.mpr ⟨mW1_20, List.forall_mem_cons.mpr ⟨mW11_11, List.forall_mem_cons.mpr ⟨mW5_23, List.forall_mem_cons.mpr ⟨mW6_0, List.forall_mem_cons.mpr ⟨mW6_1, List.forall_mem_cons.mpr ⟨mW6_2, List.forall_mem_cons.mpr ⟨mW17_19, List.forall_mem_cons.mpr ⟨mW17_20, List.forall_mem_cons.mpr ⟨mW17_21, List.forall_mem_cons.mpr ⟨mW17_22, List.forall_mem_cons.mpr ⟨mW17_23, List.forall_mem_cons.mpr ⟨mW18_0, List.forall_mem_cons.mpr ⟨mW18_1, List.forall_mem_cons.mpr ⟨mW18_2, List.forall_mem_cons.mpr ⟨mW18_3, List.forall_mem_cons.mpr ⟨mW18_4, List.forall_mem_cons.mpr ⟨mW18_5, List.forall_mem_cons.mpr ⟨mW18_6, List.forall_mem_cons.mpr ⟨mW18_7, List.forall_mem_cons.mpr ⟨mW18_8, List.forall_mem_cons.mpr ⟨mW18_9, List.forall_mem_cons.mpr ⟨mW18_10, List.forall_mem_cons.mpr ⟨mW18_11, fun _ h => absurd h List.not_mem_nil⟩⟩⟩⟩⟩⟩⟩⟩⟩⟩⟩⟩⟩⟩⟩⟩⟩⟩⟩⟩⟩⟩⟩⟩
set_option maxRecDepth 20000 in
theorem mq_wsX7_meet_r4 : ∀ w ∈ wsX7_meet_r4, w ∈ wsL_law := List.forall_mem_cons.mpr ⟨mW18_12, List.forall_mem_cons.mpr ⟨mW18_13, List.forall_mem_cons.mpr ⟨mW18_14, List.forall_mem_cons.mpr ⟨mW18_15, List.forall_mem_cons.mpr ⟨mW18_16, List.forall_mem_cons.mpr ⟨mW18_17, List.forall_mem_cons.mpr ⟨mW12_8, List.forall_mem_cons.mpr ⟨mW12_5, List.forall_mem_cons.mpr ⟨mW12_9, List.forall_mem_cons.mpr ⟨mW18_18, List.forall_mem_cons.mpr ⟨mW18_19, List.forall_mem_cons.mpr ⟨mW18_20, List.forall_mem_cons.mpr ⟨mW18_21, List.forall_mem_cons.mpr ⟨mW37_22, List.forall_mem_cons.mpr ⟨mW37_23, List.forall_mem_cons.mpr ⟨mW38_0, List.forall_mem_cons.mpr ⟨mW38_1, fun _ h => absurd h List.not_mem_nil⟩⟩⟩⟩⟩⟩⟩⟩⟩⟩⟩⟩⟩⟩⟩⟩⟩
theorem ggw_X7_meet : ∀ w ∈ wsX7_meet, w ∈ wsL_law := List.forall_mem_cons.mpr ⟨mW37_21, List.forall_mem_append.mpr ⟨List.forall_mem_append.mpr ⟨List.forall_mem_append.mpr ⟨List.forall_mem_append.mpr ⟨List.forall_mem_append.mpr ⟨List.forall_mem_append.mpr ⟨mq_wsX7_meet_r1, List.forall_mem_append.mpr ⟨mq_wsX7_meet_r2, List.forall_mem_append.mpr ⟨mq_wsX7_meet_r3, mq_wsX7_meet_r4⟩⟩⟩, inlX7⟩, inlX0⟩, inlX2⟩, inlX6⟩, inlX1⟩⟩
set_option maxRecDepth 20000 in
theorem ggL_law_X7_meet : GoodIn wsL_law wsX7_meet := goodIn_sub ggw_X7_meet (by decide +kernel)
set_option maxRecDepth 20000 in
theorem mq_wsX8_meet_r1 : ∀ w ∈ wsX8_meet_r1, w ∈ wsL_law := List.forall_mem_cons.mpr ⟨mW12_16, List.forall_mem_cons.mpr ⟨mW9_22, List.forall_mem_cons.mpr ⟨mW19_14, List.forall_mem_cons.mpr ⟨mW9_2, List.forall_mem_cons.mpr ⟨mW9_3, List.forall_mem_cons.mpr ⟨mW9_4, List.forall_mem_cons.mpr ⟨mW22_23, List.forall_mem_cons.mpr ⟨mW34_18, List.forall_mem_cons.mpr ⟨mW34_19, List.forall_mem_cons.mpr ⟨mW34_20, List.forall_mem_cons.mpr ⟨mW1_5, List.forall_mem_cons.mpr ⟨mW34_21, List.forall_mem_cons.mpr ⟨mW32_9, List.forall_mem_cons.mpr ⟨mW32_10, List.forall_mem_cons.mpr ⟨mW32_11, List.forall_mem_cons.mpr ⟨mW32_12, List.forall_mem_cons.mpr ⟨mW8_12, List.forall_mem_cons.mpr ⟨mW12_17, List.forall_mem_cons.mpr ⟨mW12_18, List.forall_mem_cons.mpr ⟨mW12_19, List.forall_mem_cons.mpr ⟨mW12_20, List.forall_mem_cons.mpr ⟨mW12_21, List.forall_mem_cons.mpr ⟨mW12_22, List.forall_mem_cons.mpr ⟨mW12_23, fun _ h => absurd h List.not_mem_nil⟩⟩⟩⟩⟩⟩⟩⟩⟩⟩⟩⟩⟩⟩⟩⟩⟩⟩⟩⟩⟩⟩⟩⟩
set_option maxRecDepth 20000 in
theorem mq_wsX8_meet_r2 : ∀ w ∈ wsX8_meet_r2, w ∈ wsL_law := List.forall_mem_cons.mpr ⟨mW8_15, List.forall_mem_cons.mpr ⟨mW13_0, List.forall_mem_cons.mpr ⟨mW35_18, List.forall_mem_cons.mpr ⟨mW35_19, List.forall_mem_cons.mpr ⟨mW35_20, List.forall_mem_cons.mpr ⟨mW35_21, List.forall_mem_cons.mpr ⟨mW19_16, List.forall_mem_cons.mpr ⟨mW19_17, List.forall_mem_cons.mpr ⟨mW19_18, List.forall_mem_cons.mpr ⟨mW19_19, List.forall_mem_cons.mpr ⟨mW8_22, List.forall_mem_cons.mpr ⟨mW8_23, List.forall_mem_cons.mpr ⟨mW32_5, List.forall_mem_cons.mpr ⟨mW32_6, List.forall_mem_cons.mpr ⟨mW32_7, List.forall_mem_cons.mpr ⟨mW32_8, List.forall_mem_cons.mpr ⟨mW8_17, List.forall_mem_cons.mpr ⟨mW8_18, List.forall_mem_cons.mpr ⟨mW19_20, List.forall_mem_cons.mpr ⟨mW19_21, List.forall_mem_cons.mpr ⟨mW19_22, List.forall_mem_cons.mpr ⟨mW19_23, List.forall_mem_cons.mpr ⟨mW20_0, List.forall_mem_cons.mpr ⟨mW20_1, fun _ h => absurd h List.not_mem_nil⟩⟩⟩⟩⟩⟩⟩⟩⟩⟩⟩⟩⟩⟩⟩⟩⟩⟩⟩⟩⟩⟩⟩⟩
set_option maxRecDepth 20000 in
theorem mq_wsX8_meet_r3 : ∀ w ∈ wsX8_meet_r3, w ∈ wsL_law := List.forall_mem_cons.mpr ⟨mW20_2, List.forall_mem_cons.mpr ⟨mW20_3, List.forall_mem_cons.mpr ⟨mW20_4, List.forall_mem_cons.mpr ⟨mW20_5, List.forall_mem_cons.mpr ⟨mW20_6, List.forall_mem_cons.mpr ⟨mW20_7, List.forall_mem_cons.mpr ⟨mW9_0, List.forall_mem_cons.mpr ⟨mW9_1, fun _ h => absurd h List.not_mem_nil⟩⟩⟩⟩⟩⟩⟩⟩
theorem ggw_X8_meet : ∀ w ∈ wsX8_meet, w ∈ wsL_law := List.forall_mem_cons.mpr ⟨mW38_5, List.forall_mem_append.mpr ⟨List.forall_mem_append.mpr ⟨mq_wsX8_meet_r1, List.forall_mem_append.mpr ⟨mq_wsX8_meet_r2, mq_wsX8_meet_r3⟩⟩, inlX8⟩⟩
set_option maxRecDepth 20000 in
theorem ggL_law_X8_meet : GoodIn wsL_law wsX8_meet := goodIn_sub ggw_X8_meet (by decide +kernel)
set_option maxRecDepth 20000 in
theorem mq_wsX7_lacks_r1 : ∀ w ∈ wsX7_lacks_r1, w ∈ wsL_law := List.forall_mem_cons.mpr ⟨mW2_2, List.forall_mem_cons.mpr ⟨mW15_6, List.forall_mem_cons.mpr ⟨mW2_11, List.forall_mem_cons.mpr ⟨mW1_16, List.forall_mem_cons.mpr ⟨mW31_2, List.forall_mem_cons.mpr ⟨mW10_17, List.forall_mem_cons.mpr ⟨mW10_18, List.forall_mem_cons.mpr ⟨mW10_19, List.forall_mem_cons.mpr ⟨mW1_2, List.forall_mem_cons.mpr ⟨mW10_20, List.forall_mem_cons.mpr ⟨mW2_21, List.forall_mem_cons.mpr ⟨mW10_21, List.forall_mem_cons.mpr ⟨mW35_5, List.forall_mem_cons.mpr ⟨mW35_6, List.forall_mem_cons.mpr ⟨mW35_7, List.forall_mem_cons.mpr ⟨mW35_8, List.forall_mem_cons.mpr ⟨mW2_12, List.forall_mem_cons.mpr ⟨mW24_15, List.forall_mem_cons.mpr ⟨mW24_14, List.forall_mem_cons.mpr ⟨mW11_4, List.forall_mem_cons.mpr ⟨mW11_5, List.forall_mem_cons.mpr ⟨mW11_6, List.forall_mem_cons.mpr ⟨mW2_9, List.forall_mem_cons.mpr ⟨mW11_7, fun _ h => absurd h List.not_mem_nil⟩⟩⟩⟩⟩⟩⟩⟩⟩⟩⟩⟩⟩⟩⟩⟩⟩⟩⟩⟩⟩⟩⟩⟩
set_option maxRecDepth 20000 in
theorem mq_wsX7_lacks_r2 : ∀ w ∈ wsX7_lacks_r2, w ∈ wsL_law := List.forall_mem_cons.mpr ⟨mW7_6, List.forall_mem_cons.mpr ⟨mW7_7, List.forall_mem_cons.mpr ⟨mW7_8, List.forall_mem_cons.mpr ⟨mW7_9, List.forall_mem_cons.mpr ⟨mW7_10, List.forall_mem_cons.mpr ⟨mW7_11, List.forall_mem_cons.mpr ⟨mW7_13, List.forall_mem_cons.mpr ⟨mW7_14, List.forall_mem_cons.mpr ⟨mW7_16, List.forall_mem_cons.mpr ⟨mW7_17, List.forall_mem_cons.mpr ⟨mW7_18, List.forall_mem_cons.mpr ⟨mW7_19, List.forall_mem_cons.mpr ⟨mW7_4, List.forall_mem_cons.mpr ⟨mW7_5, List.forall_mem_cons.mpr ⟨mW7_20, List.forall_mem_cons.mpr ⟨mW3_12, List.forall_mem_cons.mpr ⟨mW3_13, List.forall_mem_cons.mpr ⟨mW3_14, List.forall_mem_cons.mpr ⟨mW11_8, List.forall_mem_cons.mpr ⟨mW11_9, List.forall_mem_cons.mpr ⟨mW11_10, List.forall_mem_cons.mpr ⟨mW1_20, List.forall_mem_cons.mpr ⟨mW11_11, List.forall_mem_cons.mpr ⟨mW5_23, fun _ h => absurd h List.not_mem_nil⟩⟩⟩⟩⟩⟩⟩⟩⟩⟩⟩⟩⟩⟩⟩⟩⟩⟩⟩⟩⟩⟩⟩⟩
set_option maxRecDepth 20000 in
theorem mq_wsX7_lacks_r3 : ∀ w ∈ wsX7_lacks_r3, w ∈ wsL_law := List.forall_mem_cons.mpr ⟨mW6_0, List.forall_mem_cons.mpr ⟨mW6_1, List.forall_mem_cons.mpr ⟨mW6_2, List.forall_mem_cons.mpr ⟨mW17_19, List.forall_mem_cons.mpr ⟨mW17_20, List.forall_mem_cons.mpr ⟨mW17_21, List.forall_mem_cons.mpr ⟨mW17_22, List.forall_mem_cons.mpr ⟨mW17_23, List.forall_mem_cons.mpr ⟨mW18_0, List.forall_mem_cons.mpr ⟨mW18_1, List.forall_mem_cons.mpr ⟨mW18_2, List.forall_mem_cons.mpr ⟨mW18_3, List.forall_mem_cons.mpr ⟨mW18_4, List.forall_mem_cons.mpr ⟨mW18_5, List.forall_mem_cons.mpr ⟨mW18_6, List.forall_mem_cons.mpr ⟨mW18_7, List.forall_mem_cons.mpr ⟨mW18_8, List.forall_mem_cons.mpr ⟨mW18_9, List.forall_mem_cons.mpr ⟨mW18_10, List.forall_mem_cons.mpr ⟨mW18_11, List.forall_mem_cons.mpr ⟨mW18_12, List.forall_mem_cons.mpr ⟨mW18_13, List.forall_mem_cons.mpr ⟨mW18_14, List.forall_mem_cons.mpr ⟨mW18_15, fun _ h => absurd h List.not_mem_nil⟩⟩⟩⟩⟩⟩⟩⟩⟩⟩⟩⟩⟩⟩⟩⟩⟩⟩⟩⟩⟩⟩⟩⟩
set_option maxRecDepth 20000 in
theorem mq_wsX7_lacks_r4 : ∀ w ∈ wsX7_lacks_r4, w ∈ wsL_law := List.forall_mem_cons.mpr ⟨mW18_16, List.forall_mem_cons.mpr ⟨mW18_17, List.forall_mem_cons.mpr ⟨mW12_8, List.forall_mem_cons.mpr ⟨mW12_5, List.forall_mem_cons.mpr ⟨mW12_9, List.forall_mem_cons.mpr ⟨mW18_18, List.forall_mem_cons.mpr ⟨mW18_19, List.forall_mem_cons.mpr ⟨mW18_20, List.forall_mem_cons.mpr ⟨mW18_21, List.forall_mem_cons.mpr ⟨mW31_4, List.forall_mem_cons.mpr ⟨mW31_5, List.forall_mem_cons.mpr ⟨mW31_6, List.forall_mem_cons.mpr ⟨mW31_7, fun _ h => absurd h List.not_mem_nil⟩⟩⟩⟩⟩⟩⟩⟩⟩⟩⟩⟩⟩
theorem ggw_X7_lacks : ∀ w ∈ wsX7_lacks, w ∈ wsL_law := List.forall_mem_cons.mpr ⟨mW38_9, List.forall_mem_append.mpr ⟨List.forall_mem_append.mpr ⟨List.forall_mem_append.mpr ⟨List.forall_mem_append.mpr ⟨List.forall_mem_append.mpr ⟨List.forall_mem_append.mpr ⟨mq_wsX7_lacks_r1, List.forall_mem_append.mpr ⟨mq_wsX7_lacks_r2, List.forall_mem_append.mpr ⟨mq_wsX7_lacks_r3, mq_wsX7_lacks_r4⟩⟩⟩, inlX7⟩, inlX0⟩, inlX2⟩, inlX6⟩, inlX1⟩⟩
set_option maxRecDepth 20000 in
theorem ggL_law_X7_lacks : GoodIn wsL_law wsX7_lacks := goodIn_sub ggw_X7_lacks (by decide +kernel)
set_option maxRecDepth 20000 in
theorem mq_wsX8_lacks_r1 : ∀ w ∈ wsX8_lacks_r1, w ∈ wsL_law := List.forall_mem_cons.mpr ⟨mW12_16, List.forall_mem_cons.mpr ⟨mW9_22, List.forall_mem_cons.mpr ⟨mW8_23, List.forall_mem_cons.mpr ⟨mW8_12, List.forall_mem_cons.mpr ⟨mW22_23, List.forall_mem_cons.mpr ⟨mW12_17, List.forall_mem_cons.mpr ⟨mW12_18, List.forall_mem_cons.mpr ⟨mW1_5, List.forall_mem_cons.mpr ⟨mW12_19, List.forall_mem_cons.mpr ⟨mW12_20, List.forall_mem_cons.mpr ⟨mW12_21, List.forall_mem_cons.mpr ⟨mW12_22, List.forall_mem_cons.mpr ⟨mW12_23, List.forall_mem_cons.mpr ⟨mW8_15, List.forall_mem_cons.mpr ⟨mW13_0, List.forall_mem_cons.mpr ⟨mW19_16, List.forall_mem_cons.mpr ⟨mW19_17, List.forall_mem_cons.mpr ⟨mW19_18, List.forall_mem_cons.mpr ⟨mW19_19, List.forall_mem_cons.mpr ⟨mW19_14, List.forall_mem_cons.mpr ⟨mW8_22, List.forall_mem_cons.mpr ⟨mW32_5, List.forall_mem_cons.mpr ⟨mW32_6, List.forall_mem_cons.mpr ⟨mW32_7, fun _ h => absurd h List.not_mem_nil⟩⟩⟩⟩⟩⟩⟩⟩⟩⟩⟩⟩⟩⟩⟩⟩⟩⟩⟩⟩⟩⟩⟩⟩
set_option maxRecDepth 20000 in
theorem mq_wsX8_lacks_r2 : ∀ w ∈ wsX8_lacks_r2, w ∈ wsL_law := List.forall_mem_cons.mpr ⟨mW32_8, List.forall_mem_cons.mpr ⟨mW8_17, List.forall_mem_cons.mpr ⟨mW8_18, List.forall_mem_cons.mpr ⟨mW19_20, List.forall_mem_cons.mpr ⟨mW19_21, List.forall_mem_cons.mpr ⟨mW19_22, List.forall_mem_cons.mpr ⟨mW19_23, List.forall_mem_cons.mpr ⟨mW20_0, List.forall_mem_cons.mpr ⟨mW20_1, List.forall_mem_cons.mpr ⟨mW20_2, List.forall_mem_cons.mpr ⟨mW20_3, List.forall_mem_cons.mpr ⟨mW20_4, List.forall_mem_cons.mpr ⟨mW20_5, List.forall_mem_cons.mpr ⟨mW20_6, List.forall_mem_cons.mpr ⟨mW20_7, List.forall_mem_cons.mpr ⟨mW9_0, List.forall_mem_cons.mpr ⟨mW9_1, List.forall_mem_cons.mpr ⟨mW9_2, List.forall_mem_cons.mpr ⟨mW9_3, List.forall_mem_cons.mpr ⟨mW9_4, List.forall_mem_cons.mpr ⟨mW32_9, List.forall_mem_cons.mpr ⟨mW32_10, List.forall_mem_cons.mpr ⟨mW32_11, List.forall_mem_cons.mpr ⟨mW32_12, fun _ h => absurd h List.not_mem_nil⟩⟩⟩⟩⟩⟩⟩⟩⟩⟩⟩⟩⟩⟩⟩⟩⟩⟩⟩⟩⟩⟩⟩⟩
theorem ggw_X8_lacks : ∀ w ∈ wsX8_lacks, w ∈ wsL_law := List.forall_mem_cons.mpr ⟨mW38_13, List.forall_mem_append.mpr ⟨List.forall_mem_append.mpr ⟨mq_wsX8_lacks_r1, mq_wsX8_lacks_r2⟩, inlX8⟩⟩
set_option maxRecDepth 20000 in
theorem ggL_law_X8_lacks : GoodIn wsL_law wsX8_lacks := goodIn_sub ggw_X8_lacks (by decide +kernel)
set_option maxRecDepth 20000 in
theorem mq_wsX7_lace_r1 : ∀ w ∈ wsX7_lace_r1, w ∈ wsL_law := List.forall_mem_cons.mpr ⟨mW17_11, List.forall_mem_cons.mpr ⟨mW17_12, List.forall_mem_cons.mpr ⟨mW17_13, List.forall_mem_cons.mpr ⟨mW10_17, List.forall_mem_cons.mpr ⟨mW10_18, List.forall_mem_cons.mpr ⟨mW10_19, List.forall_mem_cons.mpr ⟨mW1_2, List.forall_mem_cons.mpr ⟨mW10_20, List.forall_mem_cons.mpr ⟨mW2_21, List.forall_mem_cons.mpr ⟨mW10_21, List.forall_mem_cons.mpr ⟨mW38_18, List.forall_mem_cons.mpr ⟨mW38_19, List.forall_mem_cons.mpr ⟨mW38_20, List.forall_mem_cons.mpr ⟨mW38_21, List.forall_mem_cons.mpr ⟨mW2_10, List.forall_mem_cons.mpr ⟨mW2_2, List.forall_mem_cons.mpr ⟨mW15_6, List.forall_mem_cons.mpr ⟨mW2_11, List.forall_mem_cons.mpr ⟨mW35_5, List.forall_mem_cons.mpr ⟨mW35_6, List.forall_mem_cons.mpr ⟨mW35_7, List.forall_mem_cons.mpr ⟨mW35_8, List.forall_mem_cons.mpr ⟨mW2_12, List.forall_mem_cons.mpr ⟨mW1_16, fun _ h => absurd h List.not_mem_nil⟩⟩⟩⟩⟩⟩⟩⟩⟩⟩⟩⟩⟩⟩⟩⟩⟩⟩⟩⟩⟩⟩⟩⟩
set_option maxRecDepth 20000 in
theorem mq_wsX7_lace_r2 : ∀ w ∈ wsX7_lace_r2, w ∈ wsL_law := List.forall_mem_cons.mpr ⟨mW24_15, List.forall_mem_cons.mpr ⟨mW24_14, List.forall_mem_cons.mpr ⟨mW11_4, List.forall_mem_cons.mpr ⟨mW11_5, List.forall_mem_cons.mpr ⟨mW11_6, List.forall_mem_cons.mpr ⟨mW2_9, List.forall_mem_cons.mpr ⟨mW11_7, List.forall_mem_cons.mpr ⟨mW7_6, List.forall_mem_cons.mpr ⟨mW7_7, List.forall_mem_cons.mpr ⟨mW7_8, List.forall_mem_cons.mpr ⟨mW7_9, List.forall_mem_cons.mpr ⟨mW7_10, List.forall_mem_cons.mpr ⟨mW7_11, List.forall_mem_cons.mpr ⟨mW7_13, List.forall_mem_cons.mpr ⟨mW7_14, List.forall_mem_cons.mpr ⟨mW7_16, List.forall_mem_cons.mpr ⟨mW7_17, List.forall_mem_cons.mpr ⟨mW7_18, List.forall_mem_cons.mpr ⟨mW7_19, List.forall_mem_cons.mpr ⟨mW7_4, List.forall_mem_cons.mpr ⟨mW7_5, List.forall_mem_cons.mpr ⟨mW7_20, List.forall_mem_cons.mpr ⟨mW3_12, List.forall_mem_cons.mpr ⟨mW3_13, fun _ h => absurd h List.not_mem_nil⟩⟩⟩⟩⟩⟩⟩⟩⟩⟩⟩⟩⟩⟩⟩⟩⟩⟩⟩⟩⟩⟩⟩⟩
set_option maxRecDepth 20000 in
theorem mq_wsX7_lace_r3 : ∀ w ∈ wsX7_lace_r3, w ∈ wsL_law := List.forall_mem_cons.mpr ⟨mW3_14, List.forall_mem_cons.mpr ⟨mW11_8, List.forall_mem_cons.mpr ⟨mW11_9, List.forall_mem_cons.mpr ⟨mW11_10, List.forall_mem_cons.mpr ⟨mW1_20, List.forall_mem_cons.mpr ⟨mW11_11, List.forall_mem_cons.mpr ⟨mW5_23, List.forall_mem_cons.mpr ⟨mW6_0, List.forall_mem_cons.mpr ⟨mW6_1, List.forall_mem_cons.mpr ⟨mW6_2, List.forall_mem_cons.mpr ⟨mW17_19, List.forall_mem_cons.mpr ⟨mW17_20, List.forall_mem_cons.mpr ⟨mW17_21, List.forall_mem_cons.mpr ⟨mW17_22, List.forall_mem_cons.mpr ⟨mW17_23, List.forall_mem_cons.mpr ⟨mW18_0, List.forall_mem_cons.mpr ⟨mW18_1, List.forall_mem_cons.mpr ⟨mW18_2, List.forall_mem_cons.mpr ⟨mW18_3, List.forall_mem_cons.mpr ⟨mW18_4, List.forall_mem_cons.mpr ⟨mW18_5, List.forall_mem_cons.mpr ⟨mW18_6, List.forall_mem_cons.mpr ⟨mW18_7, List.forall_mem_cons.mpr ⟨mW18_8, fun _ h => absurd h List.not_mem_nil⟩⟩⟩⟩⟩⟩⟩⟩⟩⟩⟩⟩⟩⟩⟩⟩⟩⟩⟩⟩⟩⟩⟩⟩
set_option maxRecDepth 20000 in
theorem mq_wsX7_lace_r4 : ∀ w ∈ wsX7_lace_r4, w ∈ wsL_law := List.forall_mem_cons.mpr ⟨mW18_9, List.forall_mem_cons.mpr ⟨mW18_10, List.forall_mem_cons.mpr ⟨mW18_11, List.forall_mem_cons.mpr ⟨mW18_12, List.forall_mem_cons.mpr ⟨mW18_13, List.forall_mem_cons.mpr ⟨mW18_14, List.forall_mem_cons.mpr ⟨mW18_15, List.forall_mem_cons.mpr ⟨mW18_16, List.forall_mem_cons.mpr ⟨mW18_17, List.forall_mem_cons.mpr ⟨mW12_8, List.forall_mem_cons.mpr ⟨mW12_5, List.forall_mem_cons.mpr ⟨mW12_9, List.forall_mem_cons.mpr ⟨mW18_18, List.forall_mem_cons.mpr ⟨mW18_19, List.forall_mem_cons.mpr ⟨mW18_20, List.forall_mem_cons.mpr ⟨mW18_21, List.forall_mem_cons.mpr ⟨mW38_22, List.forall_mem_cons.mpr ⟨mW38_23, List.forall_mem_cons.mpr ⟨mW39_0, List.forall_mem_cons.mpr ⟨mW39_1, List.forall_mem_cons.mpr ⟨mW39_2, List.forall_mem_cons.mpr ⟨mW39_3, List.forall_mem_cons.mpr ⟨mW39_4, List.forall_mem_cons.mpr ⟨mW39_5, fun _ h => absurd h List.not_mem_nil⟩⟩⟩⟩⟩⟩⟩⟩⟩⟩⟩⟩⟩⟩⟩⟩⟩⟩⟩⟩⟩⟩⟩⟩
theorem ggw_X7_lace : ∀ w ∈ wsX7_lace, w ∈ wsL_law := List.forall_mem_cons.mpr ⟨mW38_17, List.forall_mem_append.mpr ⟨List.forall_mem_append.mpr ⟨List.forall_mem_append.mpr ⟨List.forall_mem_append.mpr ⟨List.forall_mem_append.mpr ⟨List.forall_mem_append.mpr ⟨mq_wsX7_lace_r1, List.forall_mem_append.mpr ⟨mq_wsX7_lace_r2, List.forall_mem_append.mpr ⟨mq_wsX7_lace_r3, mq_wsX7_lace_r4⟩⟩⟩, inlX6⟩, inlX1⟩, inlX7⟩, inlX0⟩, inlX2⟩⟩
set_option maxRecDepth 20000 in
theorem ggL_law_X7_lace : GoodIn wsL_law wsX7_lace := goodIn_sub ggw_X7_lace (by decide +kernel)
set_option maxRecDepth 20000 in
theorem mq_wsX8_lace_r1 : ∀ w ∈ wsX8_lace_r1, w ∈ wsL_law := List.forall_mem_cons.mpr ⟨mW30_13, List.forall_mem_cons.mpr ⟨mW12_16, List.forall_mem_cons.mpr ⟨mW19_15, List.forall_mem_cons.mpr ⟨mW9_6, List.forall_mem_cons.mpr ⟨mW19_14, List.forall_mem_cons.mpr ⟨mW12_17, List.forall_mem_cons.mpr ⟨mW12_18, List.forall_mem_cons.mpr ⟨mW1_5, List.forall_mem_cons.mpr ⟨mW12_19, List.forall_mem_cons.mpr ⟨mW12_20, List.forall_mem_cons.mpr ⟨mW12_21, List.forall_mem_cons.mpr ⟨mW12_22, List.forall_mem_cons.mpr ⟨mW12_23, List.forall_mem_cons.mpr ⟨mW8_15, List.forall_mem_cons.mpr ⟨mW13_0, List.forall_mem_cons.mpr ⟨mW35_14, List.forall_mem_cons.mpr ⟨mW35_15, List.forall_mem_cons.mpr ⟨mW35_16, List.forall_mem_cons.mpr ⟨mW35_17, List.forall_mem_cons.mpr ⟨mW9_22, List.forall_mem_cons.mpr ⟨mW32_1, List.forall_mem_cons.mpr ⟨mW32_2, List.forall_mem_cons.mpr ⟨mW32_3, List.forall_mem_cons.mpr ⟨mW32_4, fun _ h => absurd h List.not_mem_nil⟩⟩⟩⟩⟩⟩⟩⟩⟩⟩⟩⟩⟩⟩⟩⟩⟩⟩⟩⟩⟩⟩⟩⟩
set_option maxRecDepth 20000 in
theorem mq_wsX8_lace_r2 : ∀ w ∈ wsX8_lace_r2, w ∈ wsL_law := List.forall_mem_cons.mpr ⟨mW8_12, List.forall_mem_cons.mpr ⟨mW19_16, List.forall_mem_cons.mpr ⟨mW19_17, List.forall_mem_cons.mpr ⟨mW19_18, List.forall_mem_cons.mpr ⟨mW19_19, List.forall_mem_cons.mpr ⟨mW8_22, List.forall_mem_cons.mpr ⟨mW8_23, List.forall_mem_cons.mpr ⟨mW32_5, List.forall_mem_cons.mpr ⟨mW32_6, List.forall_mem_cons.mpr ⟨mW32_7, List.forall_mem_cons.mpr ⟨mW32_8, List.forall_mem_cons.mpr ⟨mW8_17, List.forall_mem_cons.mpr ⟨mW8_18, List.forall_mem_cons.mpr ⟨mW19_20, List.forall_mem_cons.mpr ⟨mW19_21, List.forall_mem_cons.mpr ⟨mW19_22, List.forall_mem_cons.mpr ⟨mW19_23, List.forall_mem_cons.mpr ⟨mW20_0, List.forall_mem_cons.mpr ⟨mW20_1, List.forall_mem_cons.mpr ⟨mW20_2, List.forall_mem_cons.mpr ⟨mW20_3, List.forall_mem_cons.mpr ⟨mW20_4, List.forall_mem_cons.mpr ⟨mW20_5, List.forall_mem_cons.mpr ⟨mW20_6, fun _ h => absurd h List.not_mem_nil⟩⟩⟩⟩⟩⟩⟩⟩⟩⟩⟩⟩⟩⟩⟩⟩⟩⟩⟩⟩⟩⟩⟩⟩
set_option maxRecDepth 20000 in
theorem mq_wsX8_lace_r3 : ∀ w ∈ wsX8_lace_r3, w ∈ wsL_law := List.forall_mem_cons.mpr ⟨mW20_7, List.forall_mem_cons.mpr ⟨mW9_0, List.forall_mem_cons.mpr ⟨mW9_1, List.forall_mem_cons.mpr ⟨mW9_2, List.forall_mem_cons.mpr ⟨mW9_3, List.forall_mem_cons.mpr ⟨mW9_4, List.forall_mem_cons.mpr ⟨mW35_18, List.forall_mem_cons.mpr ⟨mW35_19, List.forall_mem_cons.mpr ⟨mW35_20, List.forall_mem_cons.mpr ⟨mW35_21, List.forall_mem_cons.mpr ⟨mW20_8, List.forall_mem_cons.mpr ⟨mW20_9, List.forall_mem_cons.mpr ⟨mW20_10, List.forall_mem_cons.mpr ⟨mW20_11, List.forall_mem_cons.mpr ⟨mW9_7, List.forall_mem_cons.mpr ⟨mW9_5, List.forall_mem_cons.mpr ⟨mW20_12, List.forall_mem_cons.mpr ⟨mW20_13, List.forall_mem_cons.mpr ⟨mW20_14, List.forall_mem_cons.mpr ⟨mW20_15, List.forall_mem_cons.mpr ⟨mW20_16, List.forall_mem_cons.mpr ⟨mW20_17, List.forall_mem_cons.mpr ⟨mW20_18, List.forall_mem_cons.mpr ⟨mW20_19, fun _ h => absurd h List.not_mem_nil⟩⟩⟩⟩⟩⟩⟩⟩⟩⟩⟩⟩⟩⟩⟩⟩⟩⟩⟩⟩⟩⟩⟩⟩
theorem ggw_X8_lace : ∀ w ∈ wsX8_lace, w ∈ wsL_law := List.forall_mem_cons.mpr ⟨mW39_9, List.forall_mem_append.mpr ⟨List.forall_mem_append.mpr ⟨mq_wsX8_lace_r1, List.forall_mem_append.mpr ⟨mq_wsX8_lace_r2, mq_wsX8_lace_r3⟩⟩, inlX8⟩⟩
set_option maxRecDepth 20000 in
theorem ggL_law_X8_lace : GoodIn wsL_law wsX8_lace := goodIn_sub ggw_X8_lace (by decide +kernel)
set_option maxRecDepth 20000 in
theorem mq_wsX7_layer_r1 : ∀ w ∈ wsX7_layer_r1, w ∈ wsL_law := List.forall_mem_cons.mpr ⟨mW1_16, List.forall_mem_cons.mpr ⟨mW10_15, List.forall_mem_cons.mpr ⟨mW17_12, List.forall_mem_cons.mpr ⟨mW10_17, List.forall_mem_cons.mpr ⟨mW10_18, List.forall_mem_cons.mpr ⟨mW10_19, List.forall_mem_cons.mpr ⟨mW1_2, List.forall_mem_cons.mpr ⟨mW10_20, List.forall_mem_cons.mpr ⟨mW2_21, List.forall_mem_cons.mpr ⟨mW10_21, List.forall_mem_cons.mpr ⟨mW38_18, List.forall_mem_cons.mpr ⟨mW38_19, List.forall_mem_cons.mpr ⟨mW38_20, List.forall_mem_cons.mpr ⟨mW38_21, List.forall_mem_cons.mpr ⟨mW2_10, List.forall_mem_cons.mpr ⟨mW2_2, List.forall_mem_cons.mpr ⟨mW15_6, List.forall_mem_cons.mpr ⟨mW2_11, List.forall_mem_cons.mpr ⟨mW35_5, List.forall_mem_cons.mpr ⟨mW35_6, List.forall_mem_cons.mpr ⟨mW35_7, List.forall_mem_cons.mpr ⟨mW35_8, List.forall_mem_cons.mpr ⟨mW2_12, List.forall_mem_cons.mpr ⟨mW24_15, fun _ h => absurd h List.not_mem_nil⟩⟩⟩⟩⟩⟩⟩⟩⟩⟩⟩⟩⟩⟩⟩⟩⟩⟩⟩⟩⟩⟩⟩⟩
set_option maxRecDepth 20000 in
theorem mq_wsX7_layer_r2 : ∀ w ∈ wsX7_layer_r2, w ∈ wsL_law := List.forall_mem_cons.mpr ⟨mW24_14, List.forall_mem_cons.mpr ⟨mW11_4, List.forall_mem_cons.mpr ⟨mW11_5, List.forall_mem_cons.mpr ⟨mW11_6, List.forall_mem_cons.mpr ⟨mW2_9, List.forall_mem_cons.mpr ⟨mW11_7, List.forall_mem_cons.mpr ⟨mW7_6, List.forall_mem_cons.mpr ⟨mW7_7, List.forall_mem_cons.mpr ⟨mW7_8, List.forall_mem_cons.mpr ⟨mW7_9, List.forall_mem_cons.mpr ⟨mW7_10, List.forall_mem_cons.mpr ⟨mW7_11, List.forall_mem_cons.mpr ⟨mW7_13, List.forall_mem_cons.mpr ⟨mW7_14, List.forall_mem_cons.mpr ⟨mW7_16, List.forall_mem_cons.mpr ⟨mW7_17, List.forall_mem_cons.mpr ⟨mW7_18, List.forall_mem_cons.mpr ⟨mW7_19, List.forall_mem_cons.mpr ⟨mW7_4, List.forall_mem_cons.mpr ⟨mW7_5, List.forall_mem_cons.mpr ⟨mW7_20, List.forall_mem_cons.mpr ⟨mW3_12, List.forall_mem_cons.mpr ⟨mW3_13, List.forall_mem_cons.mpr ⟨mW3_14, fun _ h => absurd h List.not_mem_nil⟩⟩⟩⟩⟩⟩⟩⟩⟩⟩⟩⟩⟩⟩⟩⟩⟩⟩⟩⟩⟩⟩⟩⟩
set_option maxRecDepth 20000 in
theorem mq_wsX7_layer_r3 : ∀ w ∈ wsX7_layer_r3, w ∈ wsL_law := List.forall_mem_cons.mpr ⟨mW11_8, List.forall_mem_cons.mpr ⟨mW11_9, List.forall_mem_cons.mpr ⟨mW11_10, List.forall_mem_cons.mpr ⟨mW1_20, List.forall_mem_cons.mpr ⟨mW11_11, List.forall_mem_cons.mpr ⟨mW5_23, List.forall_mem_cons.mpr ⟨mW6_0, List.forall_mem_cons.mpr ⟨mW6_1, List.forall_mem_cons.mpr ⟨mW6_2, List.forall_mem_cons.mpr ⟨mW17_19, List.forall_mem_cons.mpr ⟨mW17_20, List.forall_mem_cons.mpr ⟨mW17_21, List.forall_mem_cons.mpr ⟨mW17_22, List.forall_mem_cons.mpr ⟨mW17_23, List.forall_mem_cons.mpr ⟨mW18_0, List.forall_mem_cons.mpr ⟨mW18_1, List.forall_mem_cons.mpr ⟨mW18_2, List.forall_mem_cons.mpr ⟨mW18_3, List.forall_mem_cons.mpr ⟨mW18_4, List.forall_mem_cons.mpr ⟨mW18_5, List.forall_mem_cons.mpr ⟨mW18_6, List.forall_mem_cons.mpr ⟨mW18_7, List.forall_mem_cons.mpr ⟨mW18_8, List.forall_mem_cons.mpr ⟨mW18_9, fun _ h => absurd h List.not_mem_nil⟩⟩⟩⟩⟩⟩⟩⟩⟩⟩⟩⟩⟩⟩⟩⟩⟩⟩⟩⟩⟩⟩⟩⟩
set_option maxRecDepth 20000 in
theorem mq_wsX7_layer_r4 : ∀ w ∈ wsX7_layer_r4, w ∈ wsL_law := List.forall_mem_cons.mpr ⟨mW18_10, List.forall_mem_cons.mpr ⟨mW18_11, List.forall_mem_cons.mpr ⟨mW18_12, List.forall_mem_cons.mpr ⟨mW18_13, List.forall_mem_cons.mpr ⟨mW18_14, List.forall_mem_cons.mpr ⟨mW18_15, List.forall_mem_cons.mpr ⟨mW18_16, List.forall_mem_cons.mpr ⟨mW18_17, List.forall_mem_cons.mpr ⟨mW12_8, List.forall_mem_cons.mpr ⟨mW12_5, List.forall_mem_cons.mpr ⟨mW12_9, List.forall_mem_cons.mpr ⟨mW18_18, List.forall_mem_cons.mpr ⟨mW18_19, List.forall_mem_cons.mpr ⟨mW18_20, List.forall_mem_cons.mpr ⟨mW18_21, List.forall_mem_cons.mpr ⟨mW39_14, List.forall_mem_cons.mpr ⟨mW39_15, List.forall_mem_cons.mpr ⟨mW39_16, List.forall_mem_cons.mpr ⟨mW39_17, fun _ h => absurd h List.not_mem_nil⟩⟩⟩⟩⟩⟩⟩⟩⟩⟩⟩⟩⟩⟩⟩⟩⟩⟩⟩
theorem ggw_X7_layer : ∀ w ∈ wsX7_layer, w ∈ wsL_law := List.forall_mem_cons.mpr ⟨mW39_13, List.forall_mem_append.mpr ⟨List.forall_mem_append.mpr ⟨List.forall_mem_append.mpr ⟨List.forall_mem_append.mpr ⟨List.forall_mem_append.mpr ⟨List.forall_mem_append.mpr ⟨mq_wsX7_layer_r1, List.forall_mem_append.mpr ⟨mq_wsX7_layer_r2, List.forall_mem_append.mpr ⟨mq_wsX7_layer_r3, mq_wsX7_layer_r4⟩⟩⟩, inlX7⟩, inlX2⟩, inlX6⟩, inlX0⟩, inlX1⟩⟩
set_option maxRecDepth 20000 in
theorem ggL_law_X7_layer : GoodIn wsL_law wsX7_layer := goodIn_sub ggw_X7_layer (by decide +kernel)
set_option maxRecDepth 20000 in
theorem mq_wsX8_layer_r1 : ∀ w ∈ wsX8_layer_r1, w ∈ wsL_law := List.forall_mem_cons.mpr ⟨mW12_16, List.forall_mem_cons.mpr ⟨mW12_17, List.forall_mem_cons.mpr ⟨mW12_18, List.forall_mem_cons.mpr ⟨mW1_5, List.forall_mem_cons.mpr ⟨mW12_19, List.forall_mem_cons.mpr ⟨mW32_9, List.forall_mem_cons.mpr ⟨mW32_10, List.forall_mem_cons.mpr ⟨mW32_11, List.forall_mem_cons.mpr ⟨mW32_12, List.forall_mem_cons.mpr ⟨mW8_12, List.forall_mem_cons.mpr ⟨mW12_20, List.forall_mem_cons.mpr ⟨mW12_21, List.forall_mem_cons.mpr ⟨mW12_22, List.forall_mem_cons.mpr ⟨mW12_23, List.forall_mem_cons.mpr ⟨mW8_15, List.forall_mem_cons.mpr ⟨mW13_0, List.forall_mem_cons.mpr ⟨mW35_14, List.forall_mem_cons.mpr ⟨mW35_15, List.forall_mem_cons.mpr ⟨mW35_16, List.forall_mem_cons.mpr ⟨mW35_17, List.forall_mem_cons.mpr ⟨mW9_22, List.forall_mem_cons.mpr ⟨mW32_1, List.forall_mem_cons.mpr ⟨mW32_2, List.forall_mem_cons.mpr ⟨mW32_3, fun _ h => absurd h List.not_mem_nil⟩⟩⟩⟩⟩⟩⟩⟩⟩⟩⟩⟩⟩⟩⟩⟩⟩⟩⟩⟩⟩⟩⟩⟩
set_option maxRecDepth 20000 in
theorem mq_wsX8_layer_r2 : ∀ w ∈ wsX8_layer_r2, w ∈ wsL_law := List.forall_mem_cons.mpr ⟨mW32_4, List.forall_mem_cons.mpr ⟨mW19_16, List.forall_mem_cons.mpr ⟨mW19_17, List.forall_mem_cons.mpr ⟨mW19_18, List.forall_mem_cons.mpr ⟨mW19_19, List.forall_mem_cons.mpr ⟨mW19_14, List.forall_mem_cons.mpr ⟨mW8_22, List.forall_mem_cons.mpr ⟨mW8_23, List.forall_mem_cons.mpr ⟨mW32_5, List.forall_mem_cons.mpr ⟨mW32_6, List.forall_mem_cons.mpr ⟨mW32_7, List.forall_mem_cons.mpr ⟨mW32_8, List.forall_mem_cons.mpr ⟨mW8_17, List.forall_mem_cons.mpr ⟨mW8_18, List.forall_mem_cons.mpr ⟨mW19_20, List.forall_mem_cons.mpr ⟨mW19_21, List.forall_mem_cons.mpr ⟨mW19_22, List.forall_mem_cons.mpr ⟨mW19_23, List.forall_mem_cons.mpr ⟨mW20_0, List.forall_mem_cons.mpr ⟨mW20_1, List.forall_mem_cons.mpr ⟨mW20_2, List.forall_mem_cons.mpr ⟨mW20_3, List.forall_mem_cons.mpr ⟨mW20_4, List.forall_mem_cons.mpr ⟨mW20_5, fun _ h => absurd h List.not_mem_nil⟩⟩⟩⟩⟩⟩⟩⟩⟩⟩⟩⟩⟩⟩⟩⟩⟩⟩⟩⟩⟩⟩⟩⟩
set_option maxRecDepth 20000 in
theorem mq_wsX8_layer_r3 : ∀ w ∈ wsX8_layer_r3, w ∈ wsL_law := List.forall_mem_cons.mpr ⟨mW20_6, List.forall_mem_cons.mpr ⟨mW20_7, List.forall_mem_cons.mpr ⟨mW9_0, List.forall_mem_cons.mpr ⟨mW9_1, List.forall_mem_cons.mpr ⟨mW9_2, List.forall_mem_cons.mpr ⟨mW9_3, List.forall_mem_cons.mpr ⟨mW9_4, List.forall_mem_cons.mpr ⟨mW35_18, List.forall_mem_cons.mpr ⟨mW35_19, List.forall_mem_cons.mpr ⟨mW35_20, List.forall_mem_cons.mpr ⟨mW35_21, List.forall_mem_cons.mpr ⟨mW20_8, List.forall_mem_cons.mpr ⟨mW20_9, List.forall_mem_cons.mpr ⟨mW20_10, List.forall_mem_cons.mpr ⟨mW20_11, List.forall_mem_cons.mpr ⟨mW19_15, List.forall_mem_cons.mpr ⟨mW9_7, List.forall_mem_cons.mpr ⟨mW9_5, List.forall_mem_cons.mpr ⟨mW20_12, List.forall_mem_cons.mpr ⟨mW20_13, List.forall_mem_cons.mpr ⟨mW20_14, List.forall_mem_cons.mpr ⟨mW20_15, List.forall_mem_cons.mpr ⟨mW9_6, List.forall_mem_cons.mpr ⟨mW20_16, fun _ h => absurd h List.not_mem_nil⟩⟩⟩⟩⟩⟩⟩⟩⟩⟩⟩⟩⟩⟩⟩⟩⟩⟩⟩⟩⟩⟩⟩⟩
set_option maxRecDepth 20000 in
theorem mq_wsX8_layer_r4 : ∀ w ∈ wsX8_layer_r4, w ∈ wsL_law := List.forall_mem_cons.mpr ⟨mW20_17, List.forall_mem_cons.mpr ⟨mW20_18, List.forall_mem_cons.mpr ⟨mW20_19, List.forall_mem_cons.mpr ⟨mW39_22, List.forall_mem_cons.mpr ⟨mW39_23, List.forall_mem_cons.mpr ⟨mW40_0, List.forall_mem_cons.mpr ⟨mW40_1, fun _ h => absurd h List.not_mem_nil⟩⟩⟩⟩⟩⟩⟩
theorem ggw_X8_layer : ∀ w ∈ wsX8_layer, w ∈ wsL_law := List.forall_mem_cons.mpr ⟨mW39_21, List.forall_mem_append.mpr ⟨List.forall_mem_append.mpr ⟨mq_wsX8_layer_r1, List.forall_mem_append.mpr ⟨mq_wsX8_layer_r2, List.forall_mem_append.mpr ⟨mq_wsX8_layer_r3, mq_wsX8_layer_r4⟩⟩⟩, inlX8⟩⟩
set_option maxRecDepth 20000 in
theorem ggL_law_X8_layer : GoodIn wsL_law wsX8_layer := goodIn_sub ggw_X8_layer (by decide +kernel)
theorem ggw_X7_repeat : ∀ w ∈ wsX7_repeat, w ∈ wsL_law := List.forall_mem_cons.mpr ⟨mW40_5, List.forall_mem_append.mpr ⟨List.forall_mem_append.mpr ⟨List.forall_mem_append.mpr ⟨(List.forall_mem_cons.mpr ⟨mW2_2, List.forall_mem_cons.mpr ⟨mW21_9, List.forall_mem_cons.mpr ⟨mW1_16, List.forall_mem_cons.mpr ⟨mW40_6, List.forall_mem_cons.mpr ⟨mW40_7, List.forall_mem_cons.mpr ⟨mW40_8, List.forall_mem_cons.mpr ⟨mW1_15, List.forall_mem_cons.mpr ⟨mW40_9, List.forall_mem_cons.mpr ⟨mW3_5, List.forall_mem_cons.mpr ⟨mW10_17, List.forall_mem_cons.mpr ⟨mW10_18, List.forall_mem_cons.mpr ⟨mW10_19, List.forall_mem_cons.mpr ⟨mW1_2, List.forall_mem_cons.mpr ⟨mW10_20, List.forall_mem_cons.mpr ⟨mW2_21, List.forall_mem_cons.mpr ⟨mW10_21, fun _ h => absurd h List.not_mem_nil⟩⟩⟩⟩⟩⟩⟩⟩⟩⟩⟩⟩⟩⟩⟩⟩), inlX7⟩, inlX0⟩, inlX2⟩⟩
set_option maxRecDepth 20000 in
theorem ggL_law_X7_repeat : GoodIn wsL_law wsX7_repeat := goodIn_sub ggw_X7_repeat (by decide +kernel)
set_option maxRecDepth 20000 in
theorem mq_wsX8_repeat_r1 : ∀ w ∈ wsX8_repeat_r1, w ∈ wsL_law := List.forall_mem_cons.mpr ⟨mW9_22, List.forall_mem_cons.mpr ⟨mW22_23, List.forall_mem_cons.mpr ⟨mW12_20, List.forall_mem_cons.mpr ⟨mW12_21, List.forall_mem_cons.mpr ⟨mW12_22, List.forall_mem_cons.mpr ⟨mW1_5, List.forall_mem_cons.mpr ⟨mW12_23, List.forall_mem_cons.mpr ⟨mW8_15, List.forall_mem_cons.mpr ⟨mW13_0, List.forall_mem_cons.mpr ⟨mW23_0, List.forall_mem_cons.mpr ⟨mW23_1, List.forall_mem_cons.mpr ⟨mW23_2, List.forall_mem_cons.mpr ⟨mW23_3, List.forall_mem_cons.mpr ⟨mW8_16, List.forall_mem_cons.mpr ⟨mW40_14, List.forall_mem_cons.mpr ⟨mW40_15, List.forall_mem_cons.mpr ⟨mW40_16, List.forall_mem_cons.mpr ⟨mW40_17, List.forall_mem_cons.mpr ⟨mW9_23, List.forall_mem_cons.mpr ⟨mW10_0, List.forall_mem_cons.mpr ⟨mW10_1, List.forall_mem_cons.mpr ⟨mW10_2, List.forall_mem_cons.mpr ⟨mW8_12, List.forall_mem_cons.mpr ⟨mW10_3, fun _ h => absurd h List.not_mem_nil⟩⟩⟩⟩⟩⟩⟩⟩⟩⟩⟩⟩⟩⟩⟩⟩⟩⟩⟩⟩⟩⟩⟩⟩
set_option maxRecDepth 20000 in
theorem mq_wsX8_repeat_r2 : ∀ w ∈ wsX8_repeat_r2, w ∈ wsL_law := List.forall_mem_cons.mpr ⟨mW10_4, List.forall_mem_cons.mpr ⟨mW10_5, List.forall_mem_cons.mpr ⟨mW10_6, fun _ h => absurd h List.not_mem_nil⟩⟩⟩
theorem ggw_X8_repeat : ∀ w ∈ wsX8_repeat, w ∈ wsL_law := List.forall_mem_cons.mpr ⟨mW40_13, List.forall_mem_append.mpr ⟨List.forall_mem_append.mpr ⟨mq_wsX8_repeat_r1, mq_wsX8_repeat_r2⟩, inlX8⟩⟩
set_option maxRecDepth 20000 in
theorem ggL_law_X8_repeat : GoodIn wsL_law wsX8_repeat := goodIn_sub ggw_X8_repeat (by decide +kernel)
set_option maxRecDepth 20000 in
theorem mq_wsX7_motif_r1 : ∀ w ∈ wsX7_motif_r1, w ∈ wsL_law := List.forall_mem_cons.mpr ⟨mW2_19, List.forall_mem_cons.mpr ⟨mW29_18, List.forall_mem_cons.mpr ⟨mW32_21, List.forall_mem_cons.mpr ⟨mW1_16, List.forall_mem_cons.mpr ⟨mW10_15, List.forall_mem_cons.mpr ⟨mW29_19, List.forall_mem_cons.mpr ⟨mW29_20, List.forall_mem_cons.mpr ⟨mW1_2, List.forall_mem_cons.mpr ⟨mW29_21, List.forall_mem_cons.mpr ⟨mW10_17, List.forall_mem_cons.mpr ⟨mW10_18, List.forall_mem_cons.mpr ⟨mW10_19, List.forall_mem_cons.mpr ⟨mW10_20, List.forall_mem_cons.mpr ⟨mW2_21, List.forall_mem_cons.mpr ⟨mW10_21, List.forall_mem_cons.mpr ⟨mW40_22, List.forall_mem_cons.mpr ⟨mW40_23, List.forall_mem_cons.mpr ⟨mW41_0, List.forall_mem_cons.mpr ⟨mW1_15, List.forall_mem_cons.mpr ⟨mW41_1, List.forall_mem_cons.mpr ⟨mW3_4, List.forall_mem_cons.mpr ⟨mW41_2, List.forall_mem_cons.mpr ⟨mW41_3, List.forall_mem_cons.mpr ⟨mW3_5, fun _ h => absurd h List.not_mem_nil⟩⟩⟩⟩⟩⟩⟩⟩⟩⟩⟩⟩⟩⟩⟩⟩⟩⟩⟩⟩⟩⟩⟩⟩
set_option maxRecDepth 20000 in
theorem mq_wsX7_motif_r2 : ∀ w ∈ wsX7_motif_r2, w ∈ wsL_law := List.forall_mem_cons.mpr ⟨mW41_4, List.forall_mem_cons.mpr ⟨mW41_5, List.forall_mem_cons.mpr ⟨mW41_6, List.forall_mem_cons.mpr ⟨mW41_7, fun _ h => absurd h List.not_mem_nil⟩⟩⟩⟩
theorem ggw_X7_motif : ∀ w ∈ wsX7_motif, w ∈ wsL_law := List.forall_mem_cons.mpr ⟨mW40_21, List.forall_mem_append.mpr ⟨List.forall_mem_append.mpr ⟨List.forall_mem_append.mpr ⟨List.forall_mem_append.mpr ⟨mq_wsX7_motif_r1, mq_wsX7_motif_r2⟩, inlX7⟩, inlX3⟩, inlX2⟩⟩
set_option maxRecDepth 20000 in
theorem ggL_law_X7_motif : GoodIn wsL_law wsX7_motif := goodIn_sub ggw_X7_motif (by decide +kernel)
set_option maxRecDepth 20000 in
theorem mq_wsX8_motif_r1 : ∀ w ∈ wsX8_motif_r1, w ∈ wsL_law := List.forall_mem_cons.mpr ⟨mW19_13, List.forall_mem_cons.mpr ⟨mW12_16, List.forall_mem_cons.mpr ⟨mW9_11, List.forall_mem_cons.mpr ⟨mW30_9, List.forall_mem_cons.mpr ⟨mW9_12, List.forall_mem_cons.mpr ⟨mW13_23, List.forall_mem_cons.mpr ⟨mW22_23, List.forall_mem_cons.mpr ⟨mW30_10, List.forall_mem_cons.mpr ⟨mW30_11, List.forall_mem_cons.mpr ⟨mW1_5, List.forall_mem_cons.mpr ⟨mW30_12, List.forall_mem_cons.mpr ⟨mW30_13, List.forall_mem_cons.mpr ⟨mW12_17, List.forall_mem_cons.mpr ⟨mW12_18, List.forall_mem_cons.mpr ⟨mW12_19, List.forall_mem_cons.mpr ⟨mW12_20, List.forall_mem_cons.mpr ⟨mW12_21, List.forall_mem_cons.mpr ⟨mW12_22, List.forall_mem_cons.mpr ⟨mW12_23, List.forall_mem_cons.mpr ⟨mW8_15, List.forall_mem_cons.mpr ⟨mW13_0, List.forall_mem_cons.mpr ⟨mW9_23, List.forall_mem_cons.mpr ⟨mW10_0, List.forall_mem_cons.mpr ⟨mW10_1, fun _ h => absurd h List.not_mem_nil⟩⟩⟩⟩⟩⟩⟩⟩⟩⟩⟩⟩⟩⟩⟩⟩⟩⟩⟩⟩⟩⟩⟩⟩
set_option maxRecDepth 20000 in
theorem mq_wsX8_motif_r2 : ∀ w ∈ wsX8_motif_r2, w ∈ wsL_law := List.forall_mem_cons.mpr ⟨mW10_2, List.forall_mem_cons.mpr ⟨mW8_12, List.forall_mem_cons.mpr ⟨mW41_12, List.forall_mem_cons.mpr ⟨mW41_13, List.forall_mem_cons.mpr ⟨mW41_14, List.forall_mem_cons.mpr ⟨mW41_15, List.forall_mem_cons.mpr ⟨mW9_13, List.forall_mem_cons.mpr ⟨mW41_16, List.forall_mem_cons.mpr ⟨mW41_17, List.forall_mem_cons.mpr ⟨mW41_18, List.forall_mem_cons.mpr ⟨mW41_19, List.forall_mem_cons.mpr ⟨mW41_20, List.forall_mem_cons.mpr ⟨mW13_21, List.forall_mem_cons.mpr ⟨mW13_22, List.forall_mem_cons.mpr ⟨mW10_3, List.forall_mem_cons.mpr ⟨mW10_4, List.forall_mem_cons.mpr ⟨mW10_5, List.forall_mem_cons.mpr ⟨mW10_6, fun _ h => absurd h List.not_mem_nil⟩⟩⟩⟩⟩⟩⟩⟩⟩⟩⟩⟩⟩⟩⟩⟩⟩⟩
theorem ggw_X8_motif : ∀ w ∈ wsX8_motif, w ∈ wsL_law := List.forall_mem_cons.mpr ⟨mW41_11, List.forall_mem_append.mpr ⟨List.forall_mem_append.mpr ⟨mq_wsX8_motif_r1, mq_wsX8_motif_r2⟩, inlX8⟩⟩
set_option maxRecDepth 20000 in
theorem ggL_law_X8_motif : GoodIn wsL_law wsX8_motif := goodIn_sub ggw_X8_motif (by decide +kernel)
theorem ggw_X7_sheet : ∀ w ∈ wsX7_sheet, w ∈ wsL_law := List.forall_mem_cons.mpr ⟨mW42_0, List.forall_mem_append.mpr ⟨List.forall_mem_append.mpr ⟨(List.forall_mem_cons.mpr ⟨mW2_19, List.forall_mem_cons.mpr ⟨mW29_18, List.forall_mem_cons.mpr ⟨mW29_19, List.forall_mem_cons.mpr ⟨mW29_20, List.forall_mem_cons.mpr ⟨mW1_2, List.forall_mem_cons.mpr ⟨mW29_21, List.forall_mem_cons.mpr ⟨mW10_17, List.forall_mem_cons.mpr ⟨mW10_18, List.forall_mem_cons.mpr ⟨mW10_19, List.forall_mem_cons.mpr ⟨mW10_20, List.forall_mem_cons.mpr ⟨mW2_21, List.forall_mem_cons.mpr ⟨mW10_21, List.forall_mem_cons.mpr ⟨mW42_1, List.forall_mem_cons.mpr ⟨mW42_2, List.forall_mem_cons.mpr ⟨mW42_3, List.forall_mem_cons.mpr ⟨mW2_23, List.forall_mem_cons.mpr ⟨mW42_4, List.forall_mem_cons.mpr ⟨mW8_5, List.forall_mem_cons.mpr ⟨mW8_6, List.forall_mem_cons.mpr ⟨mW8_7, List.forall_mem_cons.mpr ⟨mW42_5, List.forall_mem_cons.mpr ⟨mW27_8, List.forall_mem_cons.mpr ⟨mW3_13, List.forall_mem_cons.mpr ⟨mW27_9, fun _ h => absurd h List.not_mem_nil⟩⟩⟩⟩⟩⟩⟩⟩⟩⟩⟩⟩⟩⟩⟩⟩⟩⟩⟩⟩⟩⟩⟩⟩), inlX7⟩, inlX3⟩⟩
set_option maxRecDepth 20000 in
theorem ggL_law_X7_sheet : GoodIn wsL_law wsX7_sheet := goodIn_sub ggw_X7_sheet (by decide +kernel)
theorem ggw_X8_sheet : ∀ w ∈ wsX8_sheet, w ∈ wsL_law := List.forall_mem_cons.mpr ⟨mW42_9, List.forall_mem_append.mpr ⟨(List.forall_mem_cons.mpr ⟨mW13_21, List.forall_mem_cons.mpr ⟨mW30_13, List.forall_mem_cons.mpr ⟨mW12_16, List.forall_mem_cons.mpr ⟨mW13_23, List.forall_mem_cons.mpr ⟨mW9_11, List.forall_mem_cons.mpr ⟨mW9_12, List.forall_mem_cons.mpr ⟨mW9_13, List.forall_mem_cons.mpr ⟨mW30_10, List.forall_mem_cons.mpr ⟨mW30_11, List.forall_mem_cons.mpr ⟨mW1_5, List.forall_mem_cons.mpr ⟨mW30_12, List.forall_mem_cons.mpr ⟨mW12_17, List.forall_mem_cons.mpr ⟨mW12_18, List.forall_mem_cons.mpr ⟨mW12_19, List.forall_mem_cons.mpr ⟨mW12_20, List.forall_mem_cons.mpr ⟨mW12_21, List.forall_mem_cons.mpr ⟨mW12_22, List.forall_mem_cons.mpr ⟨mW12_23, List.forall_mem_cons.mpr ⟨mW8_15, List.forall_mem_cons.mpr ⟨mW13_0, fun _ h => absurd h List.not_mem_nil⟩⟩⟩⟩⟩⟩⟩⟩⟩⟩⟩⟩⟩⟩⟩⟩⟩⟩⟩⟩), inlX8⟩⟩
set_option maxRecDepth 20000 in
theorem ggL_law_X8_sheet : GoodIn wsL_law wsX8_sheet := goodIn_sub ggw_X8_sheet (by decide +kernel)
theorem ggw_X7_put : ∀ w ∈ wsX7_put, w ∈ wsL_law := List.forall_mem_cons.mpr ⟨mW42_13, List.forall_mem_append.mpr ⟨List.forall_mem_append.mpr ⟨(List.forall_mem_cons.mpr ⟨mW2_19, List.forall_mem_cons.mpr ⟨mW32_22, List.forall_mem_cons.mpr ⟨mW29_19, List.forall_mem_cons.mpr ⟨mW29_20, List.forall_mem_cons.mpr ⟨mW1_2, List.forall_mem_cons.mpr ⟨mW29_21, List.forall_mem_cons.mpr ⟨mW10_17, List.forall_mem_cons.mpr ⟨mW10_18, List.forall_mem_cons.mpr ⟨mW10_19, List.forall_mem_cons.mpr ⟨mW10_20, List.forall_mem_cons.mpr ⟨mW2_21, List.forall_mem_cons.mpr ⟨mW10_21, List.forall_mem_cons.mpr ⟨mW42_14, List.forall_mem_cons.mpr ⟨mW42_15, List.forall_mem_cons.mpr ⟨mW42_16, List.forall_mem_cons.mpr ⟨mW2_23, List.forall_mem_cons.mpr ⟨mW42_17, List.forall_mem_cons.mpr ⟨mW8_5, List.forall_mem_cons.mpr ⟨mW8_6, List.forall_mem_cons.mpr ⟨mW42_18, List.forall_mem_cons.mpr ⟨mW42_19, List.forall_mem_cons.mpr ⟨mW42_20, List.forall_mem_cons.mpr ⟨mW42_21, fun _ h => absurd h List.not_mem_nil⟩⟩⟩⟩⟩⟩⟩⟩⟩⟩⟩⟩⟩⟩⟩⟩⟩⟩⟩⟩⟩⟩⟩), inlX7⟩, inlX3⟩⟩
set_option maxRecDepth 20000 in
theorem ggL_law_X7_put : GoodIn wsL_law wsX7_put := goodIn_sub ggw_X7_put (by decide +kernel)
theorem ggw_X8_put : ∀ w ∈ wsX8_put, w ∈ wsL_law := List.forall_mem_cons.mpr ⟨mW43_1, List.forall_mem_append.mpr ⟨(List.forall_mem_cons.mpr ⟨mW12_16, List.forall_mem_cons.mpr ⟨mW30_9, List.forall_mem_cons.mpr ⟨mW9_13, List.forall_mem_cons.mpr ⟨mW9_11, List.forall_mem_cons.mpr ⟨mW30_10, List.forall_mem_cons.mpr ⟨mW30_11, List.forall_mem_cons.mpr ⟨mW1_5, List.forall_mem_cons.mpr ⟨mW30_12, List.forall_mem_cons.mpr ⟨mW30_13, List.forall_mem_cons.mpr ⟨mW12_17, List.forall_mem_cons.mpr ⟨mW12_18, List.forall_mem_cons.mpr ⟨mW12_19, List.forall_mem_cons.mpr ⟨mW12_20, List.forall_mem_cons.mpr ⟨mW12_21, List.forall_mem_cons.mpr ⟨mW12_22, List.forall_mem_cons.mpr ⟨mW12_23, List.forall_mem_cons.mpr ⟨mW8_15, List.forall_mem_cons.mpr ⟨mW13_0, List.forall_mem_cons.mpr ⟨mW43_2, List.forall_mem_cons.mpr ⟨mW43_3, List.forall_mem_cons.mpr ⟨mW43_4, List.forall_mem_cons.mpr ⟨mW43_5, List.forall_mem_cons.mpr ⟨mW9_12, fun _ h => absurd h List.not_mem_nil⟩⟩⟩⟩⟩⟩⟩⟩⟩⟩⟩⟩⟩⟩⟩⟩⟩⟩⟩⟩⟩⟩⟩), inlX8⟩⟩
set_option maxRecDepth 20000 in
theorem ggL_law_X8_put : GoodIn wsL_law wsX8_put := goodIn_sub ggw_X8_put (by decide +kernel)
theorem ggw_X7_number : ∀ w ∈ wsX7_number, w ∈ wsL_law := List.forall_mem_cons.mpr ⟨mW43_9, List.forall_mem_append.mpr ⟨List.forall_mem_append.mpr ⟨(List.forall_mem_cons.mpr ⟨mW2_19, List.forall_mem_cons.mpr ⟨mW32_22, List.forall_mem_cons.mpr ⟨mW29_19, List.forall_mem_cons.mpr ⟨mW29_20, List.forall_mem_cons.mpr ⟨mW1_2, List.forall_mem_cons.mpr ⟨mW29_21, List.forall_mem_cons.mpr ⟨mW26_15, List.forall_mem_cons.mpr ⟨mW26_16, List.forall_mem_cons.mpr ⟨mW26_17, List.forall_mem_cons.mpr ⟨mW26_18, List.forall_mem_cons.mpr ⟨mW2_21, List.forall_mem_cons.mpr ⟨mW26_19, List.forall_mem_cons.mpr ⟨mW42_14, List.forall_mem_cons.mpr ⟨mW42_15, List.forall_mem_cons.mpr ⟨mW42_16, List.forall_mem_cons.mpr ⟨mW2_23, List.forall_mem_cons.mpr ⟨mW42_17, List.forall_mem_cons.mpr ⟨mW8_5, List.forall_mem_cons.mpr ⟨mW8_6, fun _ h => absurd h List.not_mem_nil⟩⟩⟩⟩⟩⟩⟩⟩⟩⟩⟩⟩⟩⟩⟩⟩⟩⟩⟩), inlX7⟩, inlX3⟩⟩
set_option maxRecDepth 20000 in
theorem ggL_law_X7_number : GoodIn wsL_law wsX7_number := goodIn_sub ggw_X7_number (by decide +kernel)
theorem ggw_X8_number : ∀ w ∈ wsX8_number, w ∈ wsL_law := List.forall_mem_cons.mpr ⟨mW43_13, List.forall_mem_append.mpr ⟨(List.forall_mem_cons.mpr ⟨mW12_16, List.forall_mem_cons.mpr ⟨mW9_13, List.forall_mem_cons.mpr ⟨mW30_9, List.forall_mem_cons.mpr ⟨mW30_10, List.forall_mem_cons.mpr ⟨mW30_11, List.forall_mem_cons.mpr ⟨mW1_5, List.forall_mem_cons.mpr ⟨mW30_12, List.forall_mem_cons.mpr ⟨mW30_13, List.forall_mem_cons.mpr ⟨mW12_17, List.forall_mem_cons.mpr ⟨mW12_18, List.forall_mem_cons.mpr ⟨mW12_19, List.forall_mem_cons.mpr ⟨mW28_8, List.forall_mem_cons.mpr ⟨mW28_9, List.forall_mem_cons.mpr ⟨mW28_10, List.forall_mem_cons.mpr ⟨mW28_11, List.forall_mem_cons.mpr ⟨mW8_15, List.forall_mem_cons.mpr ⟨mW13_0, List.forall_mem_cons.mpr ⟨mW28_12, List.forall_mem_cons.mpr ⟨mW43_2, List.forall_mem_cons.mpr ⟨mW43_3, List.forall_mem_cons.mpr ⟨mW43_4, List.forall_mem_cons.mpr ⟨mW43_5, List.forall_mem_cons.mpr ⟨mW9_11, List.forall_mem_cons.mpr ⟨mW9_12, fun _ h => absurd h List.not_mem_nil⟩⟩⟩⟩⟩⟩⟩⟩⟩⟩⟩⟩⟩⟩⟩⟩⟩⟩⟩⟩⟩⟩⟩⟩), inlX8⟩⟩
set_option maxRecDepth 20000 in
theorem ggL_law_X8_number : GoodIn wsL_law wsX8_number := goodIn_sub ggw_X8_number (by decide +kernel)
set_option maxRecDepth 20000 in
theorem mq_wsX7_image_r1 : ∀ w ∈ wsX7_image_r1, w ∈ wsL_law := List.forall_mem_cons.mpr ⟨mW1_17, List.forall_mem_cons.mpr ⟨mW1_16, List.forall_mem_cons.mpr ⟨mW1_21, List.forall_mem_cons.mpr ⟨mW2_10, List.forall_mem_cons.mpr ⟨mW17_12, List.forall_mem_cons.mpr ⟨mW1_22, List.forall_mem_cons.mpr ⟨mW11_3, List.forall_mem_cons.mpr ⟨mW43_18, List.forall_mem_cons.mpr ⟨mW43_19, List.forall_mem_cons.mpr ⟨mW43_20, List.forall_mem_cons.mpr ⟨mW1_15, List.forall_mem_cons.mpr ⟨mW43_21, List.forall_mem_cons.mpr ⟨mW3_4, List.forall_mem_cons.mpr ⟨mW3_5, List.forall_mem_cons.mpr ⟨mW43_22, List.forall_mem_cons.mpr ⟨mW43_23, List.forall_mem_cons.mpr ⟨mW44_0, List.forall_mem_cons.mpr ⟨mW44_1, List.forall_mem_cons.mpr ⟨mW3_6, List.forall_mem_cons.mpr ⟨mW3_7, List.forall_mem_cons.mpr ⟨mW3_8, List.forall_mem_cons.mpr ⟨mW3_9, List.forall_mem_cons.mpr ⟨mW3_10, List.forall_mem_cons.mpr ⟨mW44_2, fun _ h => absurd h List.not_mem_nil⟩⟩⟩⟩⟩⟩⟩⟩⟩⟩⟩⟩⟩⟩⟩⟩⟩⟩⟩⟩⟩⟩⟩⟩
set_option maxRecDepth 20000 in
theorem mq_wsX7_image_r2 : ∀ w ∈ wsX7_image_r2, w ∈ wsL_law := List.forall_mem_cons.mpr ⟨mW44_3, List.forall_mem_cons.mpr ⟨mW44_4, List.forall_mem_cons.mpr ⟨mW1_20, List.forall_mem_cons.mpr ⟨mW44_5, List.forall_mem_cons.mpr ⟨mW5_23, List.forall_mem_cons.mpr ⟨mW6_0, List.forall_mem_cons.mpr ⟨mW44_6, List.forall_mem_cons.mpr ⟨mW6_1, fun _ h => absurd h List.not_mem_nil⟩⟩⟩⟩⟩⟩⟩⟩
theorem ggw_X7_image : ∀ w ∈ wsX7_image, w ∈ wsL_law := List.forall_mem_cons.mpr ⟨mW43_17, List.forall_mem_append.mpr ⟨List.forall_mem_append.mpr ⟨List.forall_mem_append.mpr ⟨List.forall_mem_append.mpr ⟨List.forall_mem_append.mpr ⟨mq_wsX7_image_r1, mq_wsX7_image_r2⟩, inlX7⟩, inlX6⟩, inlX2⟩, inlX1⟩⟩
set_option maxRecDepth 20000 in
theorem ggL_law_X7_image : GoodIn wsL_law wsX7_image := goodIn_sub ggw_X7_image (by decide +kernel)
theorem ggw_X8_image : ∀ w ∈ wsX8_image, w ∈ wsL_law := List.forall_mem_cons.mpr ⟨mW44_10, List.forall_mem_append.mpr ⟨(List.forall_mem_cons.mpr ⟨mW8_12, List.forall_mem_cons.mpr ⟨mW8_13, List.forall_mem_cons.mpr ⟨mW44_11, List.forall_mem_cons.mpr ⟨mW44_12, List.forall_mem_cons.mpr ⟨mW44_13, List.forall_mem_cons.mpr ⟨mW1_5, List.forall_mem_cons.mpr ⟨mW44_14, fun _ h => absurd h List.not_mem_nil⟩⟩⟩⟩⟩⟩⟩), inlX8⟩⟩
set_option maxRecDepth 20000 in
theorem ggL_law_X8_image : GoodIn wsL_law wsX8_image := goodIn_sub ggw_X8_image (by decide +kernel)
set_option maxRecDepth 20000 in
theorem mq_wsX7_restore_r1 : ∀ w ∈ wsX7_restore_r1, w ∈ wsL_law := List.forall_mem_cons.mpr ⟨mW1_22, List.forall_mem_cons.mpr ⟨mW1_16, List.forall_mem_cons.mpr ⟨mW1_17, List.forall_mem_cons.mpr ⟨mW11_3, List.forall_mem_cons.mpr ⟨mW10_17, List.forall_mem_cons.mpr ⟨mW10_18, List.forall_mem_cons.mpr ⟨mW10_19, List.forall_mem_cons.mpr ⟨mW1_2, List.forall_mem_cons.mpr ⟨mW10_20, List.forall_mem_cons.mpr ⟨mW2_21, List.forall_mem_cons.mpr ⟨mW10_21, List.forall_mem_cons.mpr ⟨mW43_18, List.forall_mem_cons.mpr ⟨mW43_19, List.forall_mem_cons.mpr ⟨mW43_20, List.forall_mem_cons.mpr ⟨mW1_15, List.forall_mem_cons.mpr ⟨mW43_21, List.forall_mem_cons.mpr ⟨mW3_4, List.forall_mem_cons.mpr ⟨mW3_5, List.forall_mem_cons.mpr ⟨mW43_22, List.forall_mem_cons.mpr ⟨mW43_23, List.forall_mem_cons.mpr ⟨mW44_0, List.forall_mem_cons.mpr ⟨mW44_1, List.forall_mem_cons.mpr ⟨mW3_6, List.forall_mem_cons.mpr ⟨mW3_7, fun _ h => absurd h List.not_mem_nil⟩⟩⟩⟩⟩⟩⟩⟩⟩⟩⟩⟩⟩⟩⟩⟩⟩⟩⟩⟩⟩⟩⟩⟩
set_option maxRecDepth 20000 in
theorem mq_wsX7_restore_r2 : ∀ w ∈ wsX7_restore_r2, w ∈ wsL_law := List.forall_mem_cons.mpr ⟨mW3_8, List.forall_mem_cons.mpr ⟨mW3_9, List.forall_mem_cons.mpr ⟨mW3_10, List.forall_mem_cons.mpr ⟨mW11_12, List.forall_mem_cons.mpr ⟨mW11_13, List.forall_mem_cons.mpr ⟨mW11_14, List.forall_mem_cons.mpr ⟨mW11_15, List.forall_mem_cons.mpr ⟨mW2_2, List.forall_mem_cons.mpr ⟨mW2_6, List.forall_mem_cons.mpr ⟨mW11_16, List.forall_mem_cons.mpr ⟨mW2_12, List.forall_mem_cons.mpr ⟨mW11_17, List.forall_mem_cons.mpr ⟨mW11_18, List.forall_mem_cons.mpr ⟨mW11_19, List.forall_mem_cons.mpr ⟨mW2_1, List.forall_mem_cons.mpr ⟨mW11_20, List.forall_mem_cons.mpr ⟨mW6_6, List.forall_mem_cons.mpr ⟨mW6_7, List.forall_mem_cons.mpr ⟨mW11_21, List.forall_mem_cons.mpr ⟨mW11_22, List.forall_mem_cons.mpr ⟨mW11_23, List.forall_mem_cons.mpr ⟨mW12_0, List.forall_mem_cons.mpr ⟨mW12_1, List.forall_mem_cons.mpr ⟨mW12_2, fun _ h => absurd h List.not_mem_nil⟩⟩⟩⟩⟩⟩⟩⟩⟩⟩⟩⟩⟩⟩⟩⟩⟩⟩⟩⟩⟩⟩⟩⟩
set_option maxRecDepth 20000 in
theorem mq_wsX7_restore_r3 : ∀ w ∈ wsX7_restore_r3, w ∈ wsL_law := List.forall_mem_cons.mpr ⟨mW6_8, List.forall_mem_cons.mpr ⟨mW6_9, List.forall_mem_cons.mpr ⟨mW6_10, List.forall_mem_cons.mpr ⟨mW6_11, List.forall_mem_cons.mpr ⟨mW6_13, List.forall_mem_cons.mpr ⟨mW12_3, List.forall_mem_cons.mpr ⟨mW12_4, List.forall_mem_cons.mpr ⟨mW12_5, List.forall_mem_cons.mpr ⟨mW12_6, List.forall_mem_cons.mpr ⟨mW12_7, List.forall_mem_cons.mpr ⟨mW12_8, List.forall_mem_cons.mpr ⟨mW12_9, List.forall_mem_cons.mpr ⟨mW31_8, List.forall_mem_cons.mpr ⟨mW31_9, List.forall_mem_cons.mpr ⟨mW31_10, List.forall_mem_cons.mpr ⟨mW31_11, List.forall_mem_cons.mpr ⟨mW2_10, List.forall_mem_cons.mpr ⟨mW2_13, List.forall_mem_cons.mpr ⟨mW31_3, List.forall_mem_cons.mpr ⟨mW24_15, List.forall_mem_cons.mpr ⟨mW24_14, List.forall_mem_cons.mpr ⟨mW11_4, List.forall_mem_cons.mpr ⟨mW11_5, List.forall_mem_cons.mpr ⟨mW11_6, fun _ h => absurd h List.not_mem_nil⟩⟩⟩⟩⟩⟩⟩⟩⟩⟩⟩⟩⟩⟩⟩⟩⟩⟩⟩⟩⟩⟩⟩⟩
set_option maxRecDepth 20000 in
theorem mq_wsX7_restore_r4 : ∀ w ∈ wsX7_restore_r4, w ∈ wsL_law := List.forall_mem_cons.mpr ⟨mW2_9, List.forall_mem_cons.mpr ⟨mW11_7, List.forall_mem_cons.mpr ⟨mW7_6, List.forall_mem_cons.mpr ⟨mW7_7, List.forall_mem_cons.mpr ⟨mW7_8, List.forall_mem_cons.mpr ⟨mW7_9, List.forall_mem_cons.mpr ⟨mW7_10, List.forall_mem_cons.mpr ⟨mW7_11, List.forall_mem_cons.mpr ⟨mW7_13, List.forall_mem_cons.mpr ⟨mW7_14, List.forall_mem_cons.mpr ⟨mW7_16, List.forall_mem_cons.mpr ⟨mW7_17, List.forall_mem_cons.mpr ⟨mW7_18, List.forall_mem_cons.mpr ⟨mW7_19, List.forall_mem_cons.mpr ⟨mW7_4, List.forall_mem_cons.mpr ⟨mW7_5, List.forall_mem_cons.mpr ⟨mW7_20, List.forall_mem_cons.mpr ⟨mW3_12, List.forall_mem_cons.mpr ⟨mW3_13, List.forall_mem_cons.mpr ⟨mW3_14, List.forall_mem_cons.mpr ⟨mW11_8, List.forall_mem_cons.mpr ⟨mW11_9, List.forall_mem_cons.mpr ⟨mW11_10, List.forall_mem_cons.mpr ⟨mW1_20, fun _ h => absurd h List.not_mem_nil⟩⟩⟩⟩⟩⟩⟩⟩⟩⟩⟩⟩⟩⟩⟩⟩⟩⟩⟩⟩⟩⟩⟩⟩
set_option maxRecDepth 20000 in
theorem mq_wsX7_restore_r5 : ∀ w ∈ wsX7_restore_r5, w ∈ wsL_law := List.forall_mem_cons.mpr ⟨mW11_11, List.forall_mem_cons.mpr ⟨mW5_23, List.forall_mem_cons.mpr ⟨mW6_0, List.forall_mem_cons.mpr ⟨mW6_1, List.forall_mem_cons.mpr ⟨mW6_2, List.forall_mem_cons.mpr ⟨mW17_19, List.forall_mem_cons.mpr ⟨mW17_20, List.forall_mem_cons.mpr ⟨mW17_21, List.forall_mem_cons.mpr ⟨mW17_22, List.forall_mem_cons.mpr ⟨mW17_23, List.forall_mem_cons.mpr ⟨mW18_0, List.forall_mem_cons.mpr ⟨mW18_1, List.forall_mem_cons.mpr ⟨mW18_2, List.forall_mem_cons.mpr ⟨mW18_3, List.forall_mem_cons.mpr ⟨mW18_4, List.forall_mem_cons.mpr ⟨mW18_5, List.forall_mem_cons.mpr ⟨mW18_6, List.forall_mem_cons.mpr ⟨mW18_7, List.forall_mem_cons.mpr ⟨mW18_8, List.forall_mem_cons.mpr ⟨mW18_9, List.forall_mem_cons.mpr ⟨mW18_10, List.forall_mem_cons.mpr ⟨mW18_11, List.forall_mem_cons.mpr ⟨mW18_12, List.forall_mem_cons.mpr ⟨mW18_13, fun _ h => absurd h List.not_mem_nil⟩⟩⟩⟩⟩⟩⟩⟩⟩⟩⟩⟩⟩⟩⟩⟩⟩⟩⟩⟩⟩⟩⟩⟩
set_option maxRecDepth 20000 in
theorem mq_wsX7_restore_r6 : ∀ w ∈ wsX7_restore_r6, w ∈ wsL_law := List.forall_mem_cons.mpr ⟨mW18_14, List.forall_mem_cons.mpr ⟨mW18_15, List.forall_mem_cons.mpr ⟨mW18_16, List.forall_mem_cons.mpr ⟨mW18_17, List.forall_mem_cons.mpr ⟨mW18_18, List.forall_mem_cons.mpr ⟨mW18_19, List.forall_mem_cons.mpr ⟨mW18_20, List.forall_mem_cons.mpr ⟨mW18_21, fun _ h => absurd h List.not_mem_nil⟩⟩⟩⟩⟩⟩⟩⟩
theorem ggw_X7_restore : ∀ w ∈ wsX7_restore, w ∈ wsL_law := List.forall_mem_cons.mpr ⟨mW44_18, List.forall_mem_append.mpr ⟨List.forall_mem_append.mpr ⟨List.forall_mem_append.mpr ⟨List.forall_mem_append.mpr ⟨List.forall_mem_append.mpr ⟨List.forall_mem_append.mpr ⟨List.forall_mem_append.mpr ⟨mq_wsX7_restore_r1, List.forall_mem_append.mpr ⟨mq_wsX7_restore_r2, List.forall_mem_append.mpr ⟨mq_wsX7_restore_r3, List.forall_mem_append.mpr ⟨mq_wsX7_restore_r4, List.forall_mem_append.mpr ⟨mq_wsX7_restore_r5, mq_wsX7_restore_r6⟩⟩⟩⟩⟩, inlX7⟩, inlX2⟩, inlX5⟩, inlX0⟩, inlX6⟩, inlX1⟩⟩
set_option maxRecDepth 20000 in
theorem ggL_law_X7_restore : GoodIn wsL_law wsX7_restore := goodIn_sub ggw_X7_restore (by decide +kernel)
set_option maxRecDepth 20000 in
theorem mq_wsX8_restore_r1 : ∀ w ∈ wsX8_restore_r1, w ∈ wsL_law := List.forall_mem_cons.mpr ⟨mW44_11, List.forall_mem_cons.mpr ⟨mW22_23, List.forall_mem_cons.mpr ⟨mW8_13, List.forall_mem_cons.mpr ⟨mW8_12, List.forall_mem_cons.mpr ⟨mW12_20, List.forall_mem_cons.mpr ⟨mW12_21, List.forall_mem_cons.mpr ⟨mW12_22, List.forall_mem_cons.mpr ⟨mW1_5, List.forall_mem_cons.mpr ⟨mW12_23, List.forall_mem_cons.mpr ⟨mW8_15, List.forall_mem_cons.mpr ⟨mW13_0, List.forall_mem_cons.mpr ⟨mW44_12, List.forall_mem_cons.mpr ⟨mW44_13, List.forall_mem_cons.mpr ⟨mW44_14, List.forall_mem_cons.mpr ⟨mW9_18, List.forall_mem_cons.mpr ⟨mW9_19, List.forall_mem_cons.mpr ⟨mW9_20, List.forall_mem_cons.mpr ⟨mW9_21, List.forall_mem_cons.mpr ⟨mW9_22, List.forall_mem_cons.mpr ⟨mW9_23, List.forall_mem_cons.mpr ⟨mW10_0, List.forall_mem_cons.mpr ⟨mW10_1, List.forall_mem_cons.mpr ⟨mW10_2, List.forall_mem_cons.mpr ⟨mW10_3, fun _ h => absurd h List.not_mem_nil⟩⟩⟩⟩⟩⟩⟩⟩⟩⟩⟩⟩⟩⟩⟩⟩⟩⟩⟩⟩⟩⟩⟩⟩
set_option maxRecDepth 20000 in
theorem mq_wsX8_restore_r2 : ∀ w ∈ wsX8_restore_r2, w ∈ wsL_law := List.forall_mem_cons.mpr ⟨mW10_4, List.forall_mem_cons.mpr ⟨mW10_5, List.forall_mem_cons.mpr ⟨mW10_6, List.forall_mem_cons.mpr ⟨mW10_7, List.forall_mem_cons.mpr ⟨mW10_8, List.forall_mem_cons.mpr ⟨mW10_9, List.forall_mem_cons.mpr ⟨mW10_10, List.forall_mem_cons.mpr ⟨mW8_16, List.forall_mem_cons.mpr ⟨mW8_17, List.forall_mem_cons.mpr ⟨mW8_18, List.forall_mem_cons.mpr ⟨mW8_20, List.forall_mem_cons.mpr ⟨mW8_19, fun _ h => absurd h List.not_mem_nil⟩⟩⟩⟩⟩⟩⟩⟩⟩⟩⟩⟩
theorem ggw_X8_restore : ∀ w ∈ wsX8_restore, w ∈ wsL_law := List.forall_mem_cons.mpr ⟨mW44_22, List.forall_mem_append.mpr ⟨List.forall_mem_append.mpr ⟨mq_wsX8_restore_r1, mq_wsX8_restore_r2⟩, inlX8⟩⟩
set_option maxRecDepth 20000 in
theorem ggL_law_X8_restore : GoodIn wsL_law wsX8_restore := goodIn_sub ggw_X8_restore (by decide +kernel)
theorem ggw_X7_alike : ∀ w ∈ wsX7_alike, w ∈ wsL_law := List.forall_mem_cons.mpr ⟨mW45_2, List.forall_mem_append.mpr ⟨List.forall_mem_append.mpr ⟨List.forall_mem_append.mpr ⟨(List.forall_mem_cons.mpr ⟨mW1_22, List.forall_mem_cons.mpr ⟨mW2_10, List.forall_mem_cons.mpr ⟨mW17_12, List.forall_mem_cons.mpr ⟨mW1_21, List.forall_mem_cons.mpr ⟨mW10_17, List.forall_mem_cons.mpr ⟨mW10_18, List.forall_mem_cons.mpr ⟨mW10_19, List.forall_mem_cons.mpr ⟨mW1_2, List.forall_mem_cons.mpr ⟨mW10_20, List.forall_mem_cons.mpr ⟨mW2_21, List.forall_mem_cons.mpr ⟨mW10_21, List.forall_mem_cons.mpr ⟨mW45_3, List.forall_mem_cons.mpr ⟨mW45_4, List.forall_mem_cons.mpr ⟨mW45_5, List.forall_mem_cons.mpr ⟨mW1_20, List.forall_mem_cons.mpr ⟨mW45_6, List.forall_mem_cons.mpr ⟨mW6_0, fun _ h => absurd h List.not_mem_nil⟩⟩⟩⟩⟩⟩⟩⟩⟩⟩⟩⟩⟩⟩⟩⟩⟩), inlX7⟩, inlX6⟩, inlX1⟩⟩
set_option maxRecDepth 20000 in
theorem ggL_law_X7_alike : GoodIn wsL_law wsX7_alike := goodIn_sub ggw_X7_alike (by decide +kernel)
set_option maxRecDepth 20000 in
theorem mq_wsX8_alike_r1 : ∀ w ∈ wsX8_alike_r1, w ∈ wsL_law := List.forall_mem_cons.mpr ⟨mW44_11, List.forall_mem_cons.mpr ⟨mW22_23, List.forall_mem_cons.mpr ⟨mW8_12, List.forall_mem_cons.mpr ⟨mW8_14, List.forall_mem_cons.mpr ⟨mW8_13, List.forall_mem_cons.mpr ⟨mW19_15, List.forall_mem_cons.mpr ⟨mW9_14, List.forall_mem_cons.mpr ⟨mW9_7, List.forall_mem_cons.mpr ⟨mW9_5, List.forall_mem_cons.mpr ⟨mW9_6, List.forall_mem_cons.mpr ⟨mW12_20, List.forall_mem_cons.mpr ⟨mW12_21, List.forall_mem_cons.mpr ⟨mW12_22, List.forall_mem_cons.mpr ⟨mW1_5, List.forall_mem_cons.mpr ⟨mW12_23, List.forall_mem_cons.mpr ⟨mW8_15, List.forall_mem_cons.mpr ⟨mW13_0, List.forall_mem_cons.mpr ⟨mW44_12, List.forall_mem_cons.mpr ⟨mW44_13, List.forall_mem_cons.mpr ⟨mW44_14, List.forall_mem_cons.mpr ⟨mW9_18, List.forall_mem_cons.mpr ⟨mW9_19, List.forall_mem_cons.mpr ⟨mW9_20, List.forall_mem_cons.mpr ⟨mW9_21, fun _ h => absurd h List.not_mem_nil⟩⟩⟩⟩⟩⟩⟩⟩⟩⟩⟩⟩⟩⟩⟩⟩⟩⟩⟩⟩⟩⟩⟩⟩
set_option maxRecDepth 20000 in
theorem mq_wsX8_alike_r2 : ∀ w ∈ wsX8_alike_r2, w ∈ wsL_law := List.forall_mem_cons.mpr ⟨mW9_22, List.forall_mem_cons.mpr ⟨mW9_23, List.forall_mem_cons.mpr ⟨mW10_0, List.forall_mem_cons.mpr ⟨mW10_1, List.forall_mem_cons.mpr ⟨mW10_2, List.forall_mem_cons.mpr ⟨mW10_3, List.forall_mem_cons.mpr ⟨mW10_4, List.forall_mem_cons.mpr ⟨mW10_5, List.forall_mem_cons.mpr ⟨mW10_6, List.forall_mem_cons.mpr ⟨mW10_7, List.forall_mem_cons.mpr ⟨mW10_8, List.forall_mem_cons.mpr ⟨mW10_9, List.forall_mem_cons.mpr ⟨mW10_10, List.forall_mem_cons.mpr ⟨mW8_16, List.forall_mem_cons.mpr ⟨mW8_17, List.forall_mem_cons.mpr ⟨mW8_18, List.forall_mem_cons.mpr ⟨mW8_20, List.forall_mem_cons.mpr ⟨mW8_19, List.forall_mem_cons.mpr ⟨mW32_1, List.forall_mem_cons.mpr ⟨mW32_2, List.forall_mem_cons.mpr ⟨mW32_3, List.forall_mem_cons.mpr ⟨mW32_4, List.forall_mem_cons.mpr ⟨mW19_16, List.forall_mem_cons.mpr ⟨mW19_17, fun _ h => absurd h List.not_mem_nil⟩⟩⟩⟩⟩⟩⟩⟩⟩⟩⟩⟩⟩⟩⟩⟩⟩⟩⟩⟩⟩⟩⟩⟩
set_option maxRecDepth 20000 in
theorem mq_wsX8_alike_r3 : ∀ w ∈ wsX8_alike_r3, w ∈ wsL_law := List.forall_mem_cons.mpr ⟨mW19_18, List.forall_mem_cons.mpr ⟨mW19_19, List.forall_mem_cons.mpr ⟨mW19_14, List.forall_mem_cons.mpr ⟨mW8_22, List.forall_mem_cons.mpr ⟨mW8_23, List.forall_mem_cons.mpr ⟨mW32_5, List.forall_mem_cons.mpr ⟨mW32_6, List.forall_mem_cons.mpr ⟨mW32_7, List.forall_mem_cons.mpr ⟨mW32_8, List.forall_mem_cons.mpr ⟨mW19_20, List.forall_mem_cons.mpr ⟨mW19_21, List.forall_mem_cons.mpr ⟨mW19_22, List.forall_mem_cons.mpr ⟨mW19_23, List.forall_mem_cons.mpr ⟨mW20_0, List.forall_mem_cons.mpr ⟨mW20_1, List.forall_mem_cons.mpr ⟨mW20_2, List.forall_mem_cons.mpr ⟨mW20_3, List.forall_mem_cons.mpr ⟨mW20_4, List.forall_mem_cons.mpr ⟨mW20_5, List.forall_mem_cons.mpr ⟨mW20_6, List.forall_mem_cons.mpr ⟨mW20_7, List.forall_mem_cons.mpr ⟨mW9_0, List.forall_mem_cons.mpr ⟨mW9_1, List.forall_mem_cons.mpr ⟨mW9_2, fun _ h => absurd h List.not_mem_nil⟩⟩⟩⟩⟩⟩⟩⟩⟩⟩⟩⟩⟩⟩⟩⟩⟩⟩⟩⟩⟩⟩⟩⟩
set_option maxRecDepth 20000 in
theorem mq_wsX8_alike_r4 : ∀ w ∈ wsX8_alike_r4, w ∈ wsL_law := List.forall_mem_cons.mpr ⟨mW9_3, List.forall_mem_cons.mpr ⟨mW9_4, List.forall_mem_cons.mpr ⟨mW20_8, List.forall_mem_cons.mpr ⟨mW20_9, List.forall_mem_cons.mpr ⟨mW20_10, List.forall_mem_cons.mpr ⟨mW20_11, List.forall_mem_cons.mpr ⟨mW20_12, List.forall_mem_cons.mpr ⟨mW20_13, List.forall_mem_cons.mpr ⟨mW20_14, List.forall_mem_cons.mpr ⟨mW20_15, List.forall_mem_cons.mpr ⟨mW20_16, List.forall_mem_cons.mpr ⟨mW20_17, List.forall_mem_cons.mpr ⟨mW20_18, List.forall_mem_cons.mpr ⟨mW20_19, fun _ h => absurd h List.not_mem_nil⟩⟩⟩⟩⟩⟩⟩⟩⟩⟩⟩⟩⟩⟩
theorem ggw_X8_alike : ∀ w ∈ wsX8_alike, w ∈ wsL_law := List.forall_mem_cons.mpr ⟨mW45_10, List.forall_mem_append.mpr ⟨List.forall_mem_append.mpr ⟨mq_wsX8_alike_r1, List.forall_mem_append.mpr ⟨mq_wsX8_alike_r2, List.forall_mem_append.mpr ⟨mq_wsX8_alike_r3, mq_wsX8_alike_r4⟩⟩⟩, inlX8⟩⟩
set_option maxRecDepth 20000 in
theorem ggL_law_X8_alike : GoodIn wsL_law wsX8_alike := goodIn_sub ggw_X8_alike (by decide +kernel)
theorem ggw_X7_count : ∀ w ∈ wsX7_count, w ∈ wsL_law := List.forall_mem_cons.mpr ⟨mW45_14, List.forall_mem_append.mpr ⟨List.forall_mem_append.mpr ⟨List.forall_mem_append.mpr ⟨List.forall_mem_append.mpr ⟨(List.forall_mem_cons.mpr ⟨mW1_16, List.forall_mem_cons.mpr ⟨mW10_15, List.forall_mem_cons.mpr ⟨mW2_17, List.forall_mem_cons.mpr ⟨mW14_17, List.forall_mem_cons.mpr ⟨mW31_2, List.forall_mem_cons.mpr ⟨mW2_10, List.forall_mem_cons.mpr ⟨mW34_12, List.forall_mem_cons.mpr ⟨mW17_11, List.forall_mem_cons.mpr ⟨mW45_15, List.forall_mem_cons.mpr ⟨mW45_16, List.forall_mem_cons.mpr ⟨mW1_2, List.forall_mem_cons.mpr ⟨mW45_17, List.forall_mem_cons.mpr ⟨mW45_18, List.forall_mem_cons.mpr ⟨mW45_19, List.forall_mem_cons.mpr ⟨mW45_20, List.forall_mem_cons.mpr ⟨mW2_9, List.forall_mem_cons.mpr ⟨mW45_21, List.forall_mem_cons.mpr ⟨mW7_5, List.forall_mem_cons.mpr ⟨mW10_17, List.forall_mem_cons.mpr ⟨mW10_18, List.forall_mem_cons.mpr ⟨mW10_19, List.forall_mem_cons.mpr ⟨mW10_20, List.forall_mem_cons.mpr ⟨mW2_21, List.forall_mem_cons.mpr ⟨mW10_21, fun _ h => absurd h List.not_mem_nil⟩⟩⟩⟩⟩⟩⟩⟩⟩⟩⟩⟩⟩⟩⟩⟩⟩⟩⟩⟩⟩⟩⟩⟩), inlX7⟩, inlX2⟩, inlX4⟩, inlX6⟩⟩
set_option maxRecDepth 20000 in
theorem ggL_law_X7_count : GoodIn wsL_law wsX7_count := goodIn_sub ggw_X7_count (by decide +kernel)
set_option maxRecDepth 20000 in
theorem mq_wsX8_count_r1 : ∀ w ∈ wsX8_count_r1, w ∈ wsL_law := List.forall_mem_cons.mpr ⟨mW8_12, List.forall_mem_cons.mpr ⟨mW15_0, List.forall_mem_cons.mpr ⟨mW12_16, List.forall_mem_cons.mpr ⟨mW46_2, List.forall_mem_cons.mpr ⟨mW46_3, List.forall_mem_cons.mpr ⟨mW46_4, List.forall_mem_cons.mpr ⟨mW1_5, List.forall_mem_cons.mpr ⟨mW46_5, List.forall_mem_cons.mpr ⟨mW8_23, List.forall_mem_cons.mpr ⟨mW32_1, List.forall_mem_cons.mpr ⟨mW32_2, List.forall_mem_cons.mpr ⟨mW32_3, List.forall_mem_cons.mpr ⟨mW32_4, List.forall_mem_cons.mpr ⟨mW19_16, List.forall_mem_cons.mpr ⟨mW19_17, List.forall_mem_cons.mpr ⟨mW19_18, List.forall_mem_cons.mpr ⟨mW19_19, List.forall_mem_cons.mpr ⟨mW19_14, List.forall_mem_cons.mpr ⟨mW8_22, List.forall_mem_cons.mpr ⟨mW32_5, List.forall_mem_cons.mpr ⟨mW32_6, List.forall_mem_cons.mpr ⟨mW32_7, List.forall_mem_cons.mpr ⟨mW32_8, List.forall_mem_cons.mpr ⟨mW8_17, fun _ h => absurd h List.not_mem_nil⟩⟩⟩⟩⟩⟩⟩⟩⟩⟩⟩⟩⟩⟩⟩⟩⟩⟩⟩⟩⟩⟩⟩⟩
set_option maxRecDepth 20000 in
theorem mq_wsX8_count_r2 : ∀ w ∈ wsX8_count_r2, w ∈ wsL_law := List.forall_mem_cons.mpr ⟨mW8_18, List.forall_mem_cons.mpr ⟨mW19_20, List.forall_mem_cons.mpr ⟨mW19_21, List.forall_mem_cons.mpr ⟨mW19_22, List.forall_mem_cons.mpr ⟨mW19_23, List.forall_mem_cons.mpr ⟨mW20_0, List.forall_mem_cons.mpr ⟨mW20_1, List.forall_mem_cons.mpr ⟨mW20_2, List.forall_mem_cons.mpr ⟨mW20_3, List.forall_mem_cons.mpr ⟨mW20_4, List.forall_mem_cons.mpr ⟨mW20_5, List.forall_mem_cons.mpr ⟨mW20_6, List.forall_mem_cons.mpr ⟨mW20_7, List.forall_mem_cons.mpr ⟨mW9_0, List.forall_mem_cons.mpr ⟨mW9_1, List.forall_mem_cons.mpr ⟨mW9_2, List.forall_mem_cons.mpr ⟨mW9_3, List.forall_mem_cons.mpr ⟨mW9_4, List.forall_mem_cons.mpr ⟨mW32_9, List.forall_mem_cons.mpr ⟨mW32_10, List.forall_mem_cons.mpr ⟨mW32_11, List.forall_mem_cons.mpr ⟨mW32_12, List.forall_mem_cons.mpr ⟨mW46_6, List.forall_mem_cons.mpr ⟨mW46_7, fun _ h => absurd h List.not_mem_nil⟩⟩⟩⟩⟩⟩⟩⟩⟩⟩⟩⟩⟩⟩⟩⟩⟩⟩⟩⟩⟩⟩⟩⟩
set_option maxRecDepth 20000 in
theorem mq_wsX8_count_r3 : ∀ w ∈ wsX8_count_r3, w ∈ wsL_law := List.forall_mem_cons.mpr ⟨mW46_8, List.forall_mem_cons.mpr ⟨mW46_9, List.forall_mem_cons.mpr ⟨mW46_10, List.forall_mem_cons.mpr ⟨mW46_11, List.forall_mem_cons.mpr ⟨mW46_12, List.forall_mem_cons.mpr ⟨mW46_13, List.forall_mem_cons.mpr ⟨mW12_20, List.forall_mem_cons.mpr ⟨mW12_21, List.forall_mem_cons.mpr ⟨mW12_22, List.forall_mem_cons.mpr ⟨mW12_23, List.forall_mem_cons.mpr ⟨mW8_15, List.forall_mem_cons.mpr ⟨mW13_0, fun _ h => absurd h List.not_mem_nil⟩⟩⟩⟩⟩⟩⟩⟩⟩⟩⟩⟩
theorem ggw_X8_count : ∀ w ∈ wsX8_count, w ∈ wsL_law := List.forall_mem_cons.mpr ⟨mW46_1, List.forall_mem_append.mpr ⟨List.forall_mem_append.mpr ⟨mq_wsX8_count_r1, List.forall_mem_append.mpr ⟨mq_wsX8_count_r2, mq_wsX8_count_r3⟩⟩, inlX8⟩⟩
set_option maxRecDepth 20000 in
theorem ggL_law_X8_count : GoodIn wsL_law wsX8_count := goodIn_sub ggw_X8_count (by decide +kernel)
theorem ggw_X7_told : ∀ w ∈ wsX7_told, w ∈ wsL_law := List.forall_mem_cons.mpr ⟨mW46_17, List.forall_mem_append.mpr ⟨(List.forall_mem_cons.mpr ⟨mW2_21, List.forall_mem_cons.mpr ⟨mW10_17, List.forall_mem_cons.mpr ⟨mW10_18, List.forall_mem_cons.mpr ⟨mW10_19, List.forall_mem_cons.mpr ⟨mW1_2, List.forall_mem_cons.mpr ⟨mW10_20, List.forall_mem_cons.mpr ⟨mW10_21, fun _ h => absurd h List.not_mem_nil⟩⟩⟩⟩⟩⟩⟩), inlX7⟩⟩
set_option maxRecDepth 20000 in
theorem ggL_law_X7_told : GoodIn wsL_law wsX7_told := goodIn_sub ggw_X7_told (by decide +kernel)
theorem ggw_X8_told : ∀ w ∈ wsX8_told, w ∈ wsL_law := List.forall_mem_cons.mpr ⟨mW46_21, List.forall_mem_append.mpr ⟨(List.forall_mem_cons.mpr ⟨mW19_13, List.forall_mem_cons.mpr ⟨mW8_15, List.forall_mem_cons.mpr ⟨mW12_16, List.forall_mem_cons.mpr ⟨mW12_17, List.forall_mem_cons.mpr ⟨mW12_18, List.forall_mem_cons.mpr ⟨mW1_5, List.forall_mem_cons.mpr ⟨mW12_19, List.forall_mem_cons.mpr ⟨mW12_20, List.forall_mem_cons.mpr ⟨mW12_21, List.forall_mem_cons.mpr ⟨mW12_22, List.forall_mem_cons.mpr ⟨mW12_23, List.forall_mem_cons.mpr ⟨mW13_0, fun _ h => absurd h List.not_mem_nil⟩⟩⟩⟩⟩⟩⟩⟩⟩⟩⟩⟩), inlX8⟩⟩
set_option maxRecDepth 20000 in
theorem ggL_law_X8_told : GoodIn wsL_law wsX8_told := goodIn_sub ggw_X8_told (by decide +kernel)
theorem gL_law_X7_init : GoodIn wsL_law (wsX7_init) := ggL_law_X7_init
theorem gL_law_X8_init : GoodIn wsL_law (wsX8_init) := ggL_law_X8_init
theorem gL_law_X7_pairs : GoodIn wsL_law (wsV RL 13 RX7 yX7_pairs wsX7_pairs) := goodIn_app (goodIn_sub (List.forall_mem_cons.mpr ⟨mW10_11, List.forall_mem_cons.mpr ⟨mW10_12, List.forall_mem_cons.mpr ⟨mW10_13, List.forall_mem_cons.mpr ⟨mW1_2, fun _ h => absurd h List.not_mem_nil⟩⟩⟩⟩) (by decide +kernel)) ggL_law_X7_pairs
theorem gL_law_X8_pairs : GoodIn wsL_law (wsV RL 17 RX8 yX8_pairs wsX8_pairs) := goodIn_app (goodIn_sub (List.forall_mem_cons.mpr ⟨mW12_10, List.forall_mem_cons.mpr ⟨mW12_11, List.forall_mem_cons.mpr ⟨mW12_12, List.forall_mem_cons.mpr ⟨mW1_5, fun _ h => absurd h List.not_mem_nil⟩⟩⟩⟩) (by decide +kernel)) ggL_law_X8_pairs
theorem gL_law_X7_lay : GoodIn wsL_law (wsV RL 18 RX7 yX7_lay wsX7_lay) := goodIn_app (goodIn_sub (List.forall_mem_cons.mpr ⟨mW13_5, List.forall_mem_cons.mpr ⟨mW13_6, List.forall_mem_cons.mpr ⟨mW13_7, List.forall_mem_cons.mpr ⟨mW1_2, fun _ h => absurd h List.not_mem_nil⟩⟩⟩⟩) (by decide +kernel)) ggL_law_X7_lay
theorem gL_law_X8_lay : GoodIn wsL_law (wsV RL 22 RX8 yX8_lay wsX8_lay) := goodIn_app (goodIn_sub (List.forall_mem_cons.mpr ⟨mW13_17, List.forall_mem_cons.mpr ⟨mW13_18, List.forall_mem_cons.mpr ⟨mW13_19, List.forall_mem_cons.mpr ⟨mW1_5, fun _ h => absurd h List.not_mem_nil⟩⟩⟩⟩) (by decide +kernel)) ggL_law_X8_lay
theorem gL_law_X7_look : GoodIn wsL_law (wsV RL 23 RX7 yX7_look wsX7_look) := goodIn_app (goodIn_sub (List.forall_mem_cons.mpr ⟨mW14_5, List.forall_mem_cons.mpr ⟨mW14_6, List.forall_mem_cons.mpr ⟨mW14_7, List.forall_mem_cons.mpr ⟨mW1_2, fun _ h => absurd h List.not_mem_nil⟩⟩⟩⟩) (by decide +kernel)) ggL_law_X7_look
theorem gL_law_X8_look : GoodIn wsL_law (wsV RL 27 RX8 yX8_look wsX8_look) := goodIn_app (goodIn_sub (List.forall_mem_cons.mpr ⟨mW14_9, List.forall_mem_cons.mpr ⟨mW14_10, List.forall_mem_cons.mpr ⟨mW14_11, List.forall_mem_cons.mpr ⟨mW1_5, fun _ h => absurd h List.not_mem_nil⟩⟩⟩⟩) (by decide +kernel)) ggL_law_X8_look
theorem gL_law_X7_feed : GoodIn wsL_law (wsV RL 28 RX7 yX7_feed wsX7_feed) := goodIn_app (goodIn_sub (List.forall_mem_cons.mpr ⟨mW14_13, List.forall_mem_cons.mpr ⟨mW14_14, List.forall_mem_cons.mpr ⟨mW14_15, List.forall_mem_cons.mpr ⟨mW1_2, fun _ h => absurd h List.not_mem_nil⟩⟩⟩⟩) (by decide +kernel)) ggL_law_X7_feed
theorem gL_law_X8_feed : GoodIn wsL_law (wsV RL 31 RX8 yX8_feed wsX8_feed) := goodIn_app (goodIn_sub (List.forall_mem_cons.mpr ⟨mW14_19, List.forall_mem_cons.mpr ⟨mW14_20, List.forall_mem_cons.mpr ⟨mW14_21, List.forall_mem_cons.mpr ⟨mW1_5, fun _ h => absurd h List.not_mem_nil⟩⟩⟩⟩) (by decide +kernel)) ggL_law_X8_feed
theorem gL_law_X7_read : GoodIn wsL_law (wsV RL 32 RX7 yX7_read wsX7_read) := goodIn_app (goodIn_sub (List.forall_mem_cons.mpr ⟨mW15_2, List.forall_mem_cons.mpr ⟨mW15_3, List.forall_mem_cons.mpr ⟨mW15_4, List.forall_mem_cons.mpr ⟨mW1_2, fun _ h => absurd h List.not_mem_nil⟩⟩⟩⟩) (by decide +kernel)) ggL_law_X7_read
theorem gL_law_X8_read : GoodIn wsL_law (wsV RL 36 RX8 yX8_read wsX8_read) := goodIn_app (goodIn_sub (List.forall_mem_cons.mpr ⟨mW15_17, List.forall_mem_cons.mpr ⟨mW15_18, List.forall_mem_cons.mpr ⟨mW15_19, List.forall_mem_cons.mpr ⟨mW1_5, fun _ h => absurd h List.not_mem_nil⟩⟩⟩⟩) (by decide +kernel)) ggL_law_X8_read
theorem gL_law_X7_spell : GoodIn wsL_law (wsV RL 37 RX7 yX7_spell wsX7_spell) := goodIn_app (goodIn_sub (List.forall_mem_cons.mpr ⟨mW16_3, List.forall_mem_cons.mpr ⟨mW16_4, List.forall_mem_cons.mpr ⟨mW16_5, List.forall_mem_cons.mpr ⟨mW1_2, fun _ h => absurd h List.not_mem_nil⟩⟩⟩⟩) (by decide +kernel)) ggL_law_X7_spell
theorem gL_law_X8_spell : GoodIn wsL_law (wsV RL 40 RX8 yX8_spell wsX8_spell) := goodIn_app (goodIn_sub (List.forall_mem_cons.mpr ⟨mW17_0, List.forall_mem_cons.mpr ⟨mW17_1, List.forall_mem_cons.mpr ⟨mW17_2, List.forall_mem_cons.mpr ⟨mW1_5, fun _ h => absurd h List.not_mem_nil⟩⟩⟩⟩) (by decide +kernel)) ggL_law_X8_spell
theorem gL_law_X7_word : GoodIn wsL_law (wsV RL 41 RX7 yX7_word wsX7_word) := goodIn_app (goodIn_sub (List.forall_mem_cons.mpr ⟨mW17_7, List.forall_mem_cons.mpr ⟨mW17_8, List.forall_mem_cons.mpr ⟨mW17_9, List.forall_mem_cons.mpr ⟨mW1_2, fun _ h => absurd h List.not_mem_nil⟩⟩⟩⟩) (by decide +kernel)) ggL_law_X7_word
theorem gL_law_X8_word : GoodIn wsL_law (wsV RL 44 RX8 yX8_word wsX8_word) := goodIn_app (goodIn_sub (List.forall_mem_cons.mpr ⟨mW19_9, List.forall_mem_cons.mpr ⟨mW19_10, List.forall_mem_cons.mpr ⟨mW19_11, List.forall_mem_cons.mpr ⟨mW1_5, fun _ h => absurd h List.not_mem_nil⟩⟩⟩⟩) (by decide +kernel)) ggL_law_X8_word
theorem gL_law_X7_letter : GoodIn wsL_law (wsV RL 45 RX7 yX7_letter wsX7_letter) := goodIn_app (goodIn_sub (List.forall_mem_cons.mpr ⟨mW20_20, List.forall_mem_cons.mpr ⟨mW20_21, List.forall_mem_cons.mpr ⟨mW20_22, List.forall_mem_cons.mpr ⟨mW1_2, fun _ h => absurd h List.not_mem_nil⟩⟩⟩⟩) (by decide +kernel)) ggL_law_X7_letter
theorem gL_law_X8_letter : GoodIn wsL_law (wsV RL 48 RX8 yX8_letter wsX8_letter) := goodIn_app (goodIn_sub (List.forall_mem_cons.mpr ⟨mW21_1, List.forall_mem_cons.mpr ⟨mW21_2, List.forall_mem_cons.mpr ⟨mW21_3, List.forall_mem_cons.mpr ⟨mW1_5, fun _ h => absurd h List.not_mem_nil⟩⟩⟩⟩) (by decide +kernel)) ggL_law_X8_letter
theorem gL_law_X7_stitches : GoodIn wsL_law (wsV RL 49 RX7 yX7_stitches wsX7_stitches) := goodIn_app (goodIn_sub (List.forall_mem_cons.mpr ⟨mW21_5, List.forall_mem_cons.mpr ⟨mW21_6, List.forall_mem_cons.mpr ⟨mW21_7, List.forall_mem_cons.mpr ⟨mW1_2, fun _ h => absurd h List.not_mem_nil⟩⟩⟩⟩) (by decide +kernel)) ggL_law_X7_stitches
theorem gL_law_X8_stitches : GoodIn wsL_law (wsV RL 52 RX8 yX8_stitches wsX8_stitches) := goodIn_app (goodIn_sub (List.forall_mem_cons.mpr ⟨mW22_19, List.forall_mem_cons.mpr ⟨mW22_20, List.forall_mem_cons.mpr ⟨mW22_21, List.forall_mem_cons.mpr ⟨mW1_5, fun _ h => absurd h List.not_mem_nil⟩⟩⟩⟩) (by decide +kernel)) ggL_law_X8_stitches
theorem gL_law_X7_stitch : GoodIn wsL_law (wsV RL 53 RX7 yX7_stitch wsX7_stitch) := goodIn_app (goodIn_sub (List.forall_mem_cons.mpr ⟨mW24_9, List.forall_mem_cons.mpr ⟨mW24_10, List.forall_mem_cons.mpr ⟨mW24_11, List.forall_mem_cons.mpr ⟨mW1_2, fun _ h => absurd h List.not_mem_nil⟩⟩⟩⟩) (by decide +kernel)) ggL_law_X7_stitch
theorem gL_law_X8_stitch : GoodIn wsL_law (wsV RL 56 RX8 yX8_stitch wsX8_stitch) := goodIn_app (goodIn_sub (List.forall_mem_cons.mpr ⟨mW25_10, List.forall_mem_cons.mpr ⟨mW25_11, List.forall_mem_cons.mpr ⟨mW25_12, List.forall_mem_cons.mpr ⟨mW1_5, fun _ h => absurd h List.not_mem_nil⟩⟩⟩⟩) (by decide +kernel)) ggL_law_X8_stitch
theorem gL_law_X7_ahead : GoodIn wsL_law (wsV RL 57 RX7 yX7_ahead wsX7_ahead) := goodIn_app (goodIn_sub (List.forall_mem_cons.mpr ⟨mW26_1, List.forall_mem_cons.mpr ⟨mW26_2, List.forall_mem_cons.mpr ⟨mW26_3, List.forall_mem_cons.mpr ⟨mW1_2, fun _ h => absurd h List.not_mem_nil⟩⟩⟩⟩) (by decide +kernel)) ggL_law_X7_ahead
theorem gL_law_X8_ahead : GoodIn wsL_law (wsV RL 60 RX8 yX8_ahead wsX8_ahead) := goodIn_app (goodIn_sub (List.forall_mem_cons.mpr ⟨mW26_6, List.forall_mem_cons.mpr ⟨mW26_7, List.forall_mem_cons.mpr ⟨mW26_8, List.forall_mem_cons.mpr ⟨mW1_5, fun _ h => absurd h List.not_mem_nil⟩⟩⟩⟩) (by decide +kernel)) ggL_law_X8_ahead
theorem gL_law_X7_orders : GoodIn wsL_law (wsV RL 61 RX7 yX7_orders wsX7_orders) := goodIn_app (goodIn_sub (List.forall_mem_cons.mpr ⟨mW26_10, List.forall_mem_cons.mpr ⟨mW26_11, List.forall_mem_cons.mpr ⟨mW26_12, List.forall_mem_cons.mpr ⟨mW1_2, fun _ h => absurd h List.not_mem_nil⟩⟩⟩⟩) (by decide +kernel)) ggL_law_X7_orders
theorem gL_law_X8_orders : GoodIn wsL_law (wsV RL 65 RX8 yX8_orders wsX8_orders) := goodIn_app (goodIn_sub (List.forall_mem_cons.mpr ⟨mW28_4, List.forall_mem_cons.mpr ⟨mW28_5, List.forall_mem_cons.mpr ⟨mW28_6, List.forall_mem_cons.mpr ⟨mW1_5, fun _ h => absurd h List.not_mem_nil⟩⟩⟩⟩) (by decide +kernel)) ggL_law_X8_orders
theorem gL_law_X7_order : GoodIn wsL_law (wsV RL 68 RX7 yX7_order wsX7_order) := goodIn_app (goodIn_sub (List.forall_mem_cons.mpr ⟨mW28_22, List.forall_mem_cons.mpr ⟨mW28_23, List.forall_mem_cons.mpr ⟨mW29_0, List.forall_mem_cons.mpr ⟨mW1_2, fun _ h => absurd h List.not_mem_nil⟩⟩⟩⟩) (by decide +kernel)) ggL_law_X7_order
theorem gL_law_X8_order : GoodIn wsL_law (wsV RL 72 RX8 yX8_order wsX8_order) := goodIn_app (goodIn_sub (List.forall_mem_cons.mpr ⟨mW29_10, List.forall_mem_cons.mpr ⟨mW29_11, List.forall_mem_cons.mpr ⟨mW29_12, List.forall_mem_cons.mpr ⟨mW1_5, fun _ h => absurd h List.not_mem_nil⟩⟩⟩⟩) (by decide +kernel)) ggL_law_X8_order
theorem gL_law_X7_rank : GoodIn wsL_law (wsV RL 73 RX7 yX7_rank wsX7_rank) := goodIn_app (goodIn_sub (List.forall_mem_cons.mpr ⟨mW29_14, List.forall_mem_cons.mpr ⟨mW29_15, List.forall_mem_cons.mpr ⟨mW29_16, List.forall_mem_cons.mpr ⟨mW1_2, fun _ h => absurd h List.not_mem_nil⟩⟩⟩⟩) (by decide +kernel)) ggL_law_X7_rank
theorem gL_law_X8_rank : GoodIn wsL_law (wsV RL 77 RX8 yX8_rank wsX8_rank) := goodIn_app (goodIn_sub (List.forall_mem_cons.mpr ⟨mW30_5, List.forall_mem_cons.mpr ⟨mW30_6, List.forall_mem_cons.mpr ⟨mW30_7, List.forall_mem_cons.mpr ⟨mW1_5, fun _ h => absurd h List.not_mem_nil⟩⟩⟩⟩) (by decide +kernel)) ggL_law_X8_rank
theorem gL_law_X7_work : GoodIn wsL_law (wsV RL 78 RX7 yX7_work wsX7_work) := goodIn_app (goodIn_sub (List.forall_mem_cons.mpr ⟨mW30_18, List.forall_mem_cons.mpr ⟨mW30_19, List.forall_mem_cons.mpr ⟨mW30_20, List.forall_mem_cons.mpr ⟨mW1_2, fun _ h => absurd h List.not_mem_nil⟩⟩⟩⟩) (by decide +kernel)) ggL_law_X7_work
theorem gL_law_X8_work : GoodIn wsL_law (wsV RL 81 RX8 yX8_work wsX8_work) := goodIn_app (goodIn_sub (List.forall_mem_cons.mpr ⟨mW31_16, List.forall_mem_cons.mpr ⟨mW31_17, List.forall_mem_cons.mpr ⟨mW31_18, List.forall_mem_cons.mpr ⟨mW1_5, fun _ h => absurd h List.not_mem_nil⟩⟩⟩⟩) (by decide +kernel)) ggL_law_X8_work
theorem gL_law_X7_works : GoodIn wsL_law (wsV RL 82 RX7 yX7_works wsX7_works) := goodIn_app (goodIn_sub (List.forall_mem_cons.mpr ⟨mW32_17, List.forall_mem_cons.mpr ⟨mW32_18, List.forall_mem_cons.mpr ⟨mW32_19, List.forall_mem_cons.mpr ⟨mW1_2, fun _ h => absurd h List.not_mem_nil⟩⟩⟩⟩) (by decide +kernel)) ggL_law_X7_works
theorem gL_law_X8_works_ : GoodIn wsL_law (wsV RL 85 RX8 yX8_works_ wsX8_works_) := goodIn_app (goodIn_sub (List.forall_mem_cons.mpr ⟨mW32_23, List.forall_mem_cons.mpr ⟨mW33_0, List.forall_mem_cons.mpr ⟨mW33_1, List.forall_mem_cons.mpr ⟨mW1_5, fun _ h => absurd h List.not_mem_nil⟩⟩⟩⟩) (by decide +kernel)) ggL_law_X8_works_
theorem gL_law_X7_back : GoodIn wsL_law (wsV RL 86 RX7 yX7_back wsX7_back) := goodIn_app (goodIn_sub (List.forall_mem_cons.mpr ⟨mW33_3, List.forall_mem_cons.mpr ⟨mW33_4, List.forall_mem_cons.mpr ⟨mW33_5, List.forall_mem_cons.mpr ⟨mW1_2, fun _ h => absurd h List.not_mem_nil⟩⟩⟩⟩) (by decide +kernel)) ggL_law_X7_back
theorem gL_law_X8_back : GoodIn wsL_law (wsV RL 89 RX8 yX8_back wsX8_back) := goodIn_app (goodIn_sub (List.forall_mem_cons.mpr ⟨mW33_7, List.forall_mem_cons.mpr ⟨mW33_8, List.forall_mem_cons.mpr ⟨mW33_9, List.forall_mem_cons.mpr ⟨mW1_5, fun _ h => absurd h List.not_mem_nil⟩⟩⟩⟩) (by decide +kernel)) ggL_law_X8_back
theorem gL_law_X7_worked : GoodIn wsL_law (wsV RL 90 RX7 yX7_worked wsX7_worked) := goodIn_app (goodIn_sub (List.forall_mem_cons.mpr ⟨mW33_11, List.forall_mem_cons.mpr ⟨mW33_12, List.forall_mem_cons.mpr ⟨mW33_13, List.forall_mem_cons.mpr ⟨mW1_2, fun _ h => absurd h List.not_mem_nil⟩⟩⟩⟩) (by decide +kernel)) ggL_law_X7_worked
theorem gL_law_X8_worked : GoodIn wsL_law (wsV RL 93 RX8 yX8_worked wsX8_worked) := goodIn_app (goodIn_sub (List.forall_mem_cons.mpr ⟨mW33_15, List.forall_mem_cons.mpr ⟨mW33_16, List.forall_mem_cons.mpr ⟨mW33_17, List.forall_mem_cons.mpr ⟨mW1_5, fun _ h => absurd h List.not_mem_nil⟩⟩⟩⟩) (by decide +kernel)) ggL_law_X8_worked
theorem gL_law_X7_at : GoodIn wsL_law (wsV RL 94 RX7 yX7_at wsX7_at) := goodIn_app (goodIn_sub (List.forall_mem_cons.mpr ⟨mW33_19, List.forall_mem_cons.mpr ⟨mW33_20, List.forall_mem_cons.mpr ⟨mW33_21, List.forall_mem_cons.mpr ⟨mW1_2, fun _ h => absurd h List.not_mem_nil⟩⟩⟩⟩) (by decide +kernel)) ggL_law_X7_at
theorem gL_law_X8_at : GoodIn wsL_law (wsV RL 97 RX8 yX8_at wsX8_at) := goodIn_app (goodIn_sub (List.forall_mem_cons.mpr ⟨mW34_4, List.forall_mem_cons.mpr ⟨mW34_5, List.forall_mem_cons.mpr ⟨mW34_6, List.forall_mem_cons.mpr ⟨mW1_5, fun _ h => absurd h List.not_mem_nil⟩⟩⟩⟩) (by decide +kernel)) ggL_law_X8_at
theorem gL_law_X7_wind : GoodIn wsL_law (wsV RL 98 RX7 yX7_wind wsX7_wind) := goodIn_app (goodIn_sub (List.forall_mem_cons.mpr ⟨mW34_8, List.forall_mem_cons.mpr ⟨mW34_9, List.forall_mem_cons.mpr ⟨mW34_10, List.forall_mem_cons.mpr ⟨mW1_2, fun _ h => absurd h List.not_mem_nil⟩⟩⟩⟩) (by decide +kernel)) ggL_law_X7_wind
theorem gL_law_X8_wind : GoodIn wsL_law (wsV RL 101 RX8 yX8_wind wsX8_wind) := goodIn_app (goodIn_sub (List.forall_mem_cons.mpr ⟨mW34_13, List.forall_mem_cons.mpr ⟨mW34_14, List.forall_mem_cons.mpr ⟨mW34_15, List.forall_mem_cons.mpr ⟨mW1_5, fun _ h => absurd h List.not_mem_nil⟩⟩⟩⟩) (by decide +kernel)) ggL_law_X8_wind
theorem gL_law_X7_thread : GoodIn wsL_law (wsV RL 102 RX7 yX7_thread wsX7_thread) := goodIn_app (goodIn_sub (List.forall_mem_cons.mpr ⟨mW34_22, List.forall_mem_cons.mpr ⟨mW34_23, List.forall_mem_cons.mpr ⟨mW35_0, List.forall_mem_cons.mpr ⟨mW1_2, fun _ h => absurd h List.not_mem_nil⟩⟩⟩⟩) (by decide +kernel)) ggL_law_X7_thread
theorem gL_law_X8_thread : GoodIn wsL_law (wsV RL 105 RX8 yX8_thread wsX8_thread) := goodIn_app (goodIn_sub (List.forall_mem_cons.mpr ⟨mW35_10, List.forall_mem_cons.mpr ⟨mW35_11, List.forall_mem_cons.mpr ⟨mW35_12, List.forall_mem_cons.mpr ⟨mW1_5, fun _ h => absurd h List.not_mem_nil⟩⟩⟩⟩) (by decide +kernel)) ggL_law_X8_thread
theorem gL_law_X7_place : GoodIn wsL_law (wsV RL 106 RX7 yX7_place wsX7_place) := goodIn_app (goodIn_sub (List.forall_mem_cons.mpr ⟨mW36_14, List.forall_mem_cons.mpr ⟨mW36_15, List.forall_mem_cons.mpr ⟨mW36_16, List.forall_mem_cons.mpr ⟨mW1_2, fun _ h => absurd h List.not_mem_nil⟩⟩⟩⟩) (by decide +kernel)) ggL_law_X7_place
theorem gL_law_X8_place : GoodIn wsL_law (wsV RL 109 RX8 yX8_place wsX8_place) := goodIn_app (goodIn_sub (List.forall_mem_cons.mpr ⟨mW36_18, List.forall_mem_cons.mpr ⟨mW36_19, List.forall_mem_cons.mpr ⟨mW36_20, List.forall_mem_cons.mpr ⟨mW1_5, fun _ h => absurd h List.not_mem_nil⟩⟩⟩⟩) (by decide +kernel)) ggL_law_X8_place
theorem gL_law_X7_rounds : GoodIn wsL_law (wsV RL 110 RX7 yX7_rounds wsX7_rounds) := goodIn_app (goodIn_sub (List.forall_mem_cons.mpr ⟨mW36_22, List.forall_mem_cons.mpr ⟨mW36_23, List.forall_mem_cons.mpr ⟨mW37_0, List.forall_mem_cons.mpr ⟨mW1_2, fun _ h => absurd h List.not_mem_nil⟩⟩⟩⟩) (by decide +kernel)) ggL_law_X7_rounds
theorem gL_law_X8_rounds : GoodIn wsL_law (wsV RL 113 RX8 yX8_rounds wsX8_rounds) := goodIn_app (goodIn_sub (List.forall_mem_cons.mpr ⟨mW37_2, List.forall_mem_cons.mpr ⟨mW37_3, List.forall_mem_cons.mpr ⟨mW37_4, List.forall_mem_cons.mpr ⟨mW1_5, fun _ h => absurd h List.not_mem_nil⟩⟩⟩⟩) (by decide +kernel)) ggL_law_X8_rounds
theorem gL_law_X7_link : GoodIn wsL_law (wsV RL 114 RX7 yX7_link wsX7_link) := goodIn_app (goodIn_sub (List.forall_mem_cons.mpr ⟨mW37_9, List.forall_mem_cons.mpr ⟨mW37_10, List.forall_mem_cons.mpr ⟨mW37_11, List.forall_mem_cons.mpr ⟨mW1_2, fun _ h => absurd h List.not_mem_nil⟩⟩⟩⟩) (by decide +kernel)) ggL_law_X7_link
theorem gL_law_X8_link : GoodIn wsL_law (wsV RL 117 RX8 yX8_link wsX8_link) := goodIn_app (goodIn_sub (List.forall_mem_cons.mpr ⟨mW37_14, List.forall_mem_cons.mpr ⟨mW37_15, List.forall_mem_cons.mpr ⟨mW37_16, List.forall_mem_cons.mpr ⟨mW1_5, fun _ h => absurd h List.not_mem_nil⟩⟩⟩⟩) (by decide +kernel)) ggL_law_X8_link
theorem gL_law_X7_meet : GoodIn wsL_law (wsV RL 118 RX7 yX7_meet wsX7_meet) := goodIn_app (goodIn_sub (List.forall_mem_cons.mpr ⟨mW37_18, List.forall_mem_cons.mpr ⟨mW37_19, List.forall_mem_cons.mpr ⟨mW37_20, List.forall_mem_cons.mpr ⟨mW1_2, fun _ h => absurd h List.not_mem_nil⟩⟩⟩⟩) (by decide +kernel)) ggL_law_X7_meet
theorem gL_law_X8_meet : GoodIn wsL_law (wsV RL 121 RX8 yX8_meet wsX8_meet) := goodIn_app (goodIn_sub (List.forall_mem_cons.mpr ⟨mW38_2, List.forall_mem_cons.mpr ⟨mW38_3, List.forall_mem_cons.mpr ⟨mW38_4, List.forall_mem_cons.mpr ⟨mW1_5, fun _ h => absurd h List.not_mem_nil⟩⟩⟩⟩) (by decide +kernel)) ggL_law_X8_meet
theorem gL_law_X7_lacks : GoodIn wsL_law (wsV RL 122 RX7 yX7_lacks wsX7_lacks) := goodIn_app (goodIn_sub (List.forall_mem_cons.mpr ⟨mW38_6, List.forall_mem_cons.mpr ⟨mW38_7, List.forall_mem_cons.mpr ⟨mW38_8, List.forall_mem_cons.mpr ⟨mW1_2, fun _ h => absurd h List.not_mem_nil⟩⟩⟩⟩) (by decide +kernel)) ggL_law_X7_lacks
theorem gL_law_X8_lacks : GoodIn wsL_law (wsV RL 125 RX8 yX8_lacks wsX8_lacks) := goodIn_app (goodIn_sub (List.forall_mem_cons.mpr ⟨mW38_10, List.forall_mem_cons.mpr ⟨mW38_11, List.forall_mem_cons.mpr ⟨mW38_12, List.forall_mem_cons.mpr ⟨mW1_5, fun _ h => absurd h List.not_mem_nil⟩⟩⟩⟩) (by decide +kernel)) ggL_law_X8_lacks
theorem gL_law_X7_lace : GoodIn wsL_law (wsV RL 126 RX7 yX7_lace wsX7_lace) := goodIn_app (goodIn_sub (List.forall_mem_cons.mpr ⟨mW38_14, List.forall_mem_cons.mpr ⟨mW38_15, List.forall_mem_cons.mpr ⟨mW38_16, List.forall_mem_cons.mpr ⟨mW1_2, fun _ h => absurd h List.not_mem_nil⟩⟩⟩⟩) (by decide +kernel)) ggL_law_X7_lace
theorem gL_law_X8_lace : GoodIn wsL_law (wsV RL 129 RX8 yX8_lace wsX8_lace) := goodIn_app (goodIn_sub (List.forall_mem_cons.mpr ⟨mW39_6, List.forall_mem_cons.mpr ⟨mW39_7, List.forall_mem_cons.mpr ⟨mW39_8, List.forall_mem_cons.mpr ⟨mW1_5, fun _ h => absurd h List.not_mem_nil⟩⟩⟩⟩) (by decide +kernel)) ggL_law_X8_lace
theorem gL_law_X7_layer : GoodIn wsL_law (wsV RL 130 RX7 yX7_layer wsX7_layer) := goodIn_app (goodIn_sub (List.forall_mem_cons.mpr ⟨mW39_10, List.forall_mem_cons.mpr ⟨mW39_11, List.forall_mem_cons.mpr ⟨mW39_12, List.forall_mem_cons.mpr ⟨mW1_2, fun _ h => absurd h List.not_mem_nil⟩⟩⟩⟩) (by decide +kernel)) ggL_law_X7_layer
theorem gL_law_X8_layer : GoodIn wsL_law (wsV RL 133 RX8 yX8_layer wsX8_layer) := goodIn_app (goodIn_sub (List.forall_mem_cons.mpr ⟨mW39_18, List.forall_mem_cons.mpr ⟨mW39_19, List.forall_mem_cons.mpr ⟨mW39_20, List.forall_mem_cons.mpr ⟨mW1_5, fun _ h => absurd h List.not_mem_nil⟩⟩⟩⟩) (by decide +kernel)) ggL_law_X8_layer
theorem gL_law_X7_repeat : GoodIn wsL_law (wsV RL 134 RX7 yX7_repeat wsX7_repeat) := goodIn_app (goodIn_sub (List.forall_mem_cons.mpr ⟨mW40_2, List.forall_mem_cons.mpr ⟨mW40_3, List.forall_mem_cons.mpr ⟨mW40_4, List.forall_mem_cons.mpr ⟨mW1_2, fun _ h => absurd h List.not_mem_nil⟩⟩⟩⟩) (by decide +kernel)) ggL_law_X7_repeat
theorem gL_law_X8_repeat : GoodIn wsL_law (wsV RL 137 RX8 yX8_repeat wsX8_repeat) := goodIn_app (goodIn_sub (List.forall_mem_cons.mpr ⟨mW40_10, List.forall_mem_cons.mpr ⟨mW40_11, List.forall_mem_cons.mpr ⟨mW40_12, List.forall_mem_cons.mpr ⟨mW1_5, fun _ h => absurd h List.not_mem_nil⟩⟩⟩⟩) (by decide +kernel)) ggL_law_X8_repeat
theorem gL_law_X7_motif : GoodIn wsL_law (wsV RL 138 RX7 yX7_motif wsX7_motif) := goodIn_app (goodIn_sub (List.forall_mem_cons.mpr ⟨mW40_18, List.forall_mem_cons.mpr ⟨mW40_19, List.forall_mem_cons.mpr ⟨mW40_20, List.forall_mem_cons.mpr ⟨mW1_2, fun _ h => absurd h List.not_mem_nil⟩⟩⟩⟩) (by decide +kernel)) ggL_law_X7_motif
theorem gL_law_X8_motif : GoodIn wsL_law (wsV RL 141 RX8 yX8_motif wsX8_motif) := goodIn_app (goodIn_sub (List.forall_mem_cons.mpr ⟨mW41_8, List.forall_mem_cons.mpr ⟨mW41_9, List.forall_mem_cons.mpr ⟨mW41_10, List.forall_mem_cons.mpr ⟨mW1_5, fun _ h => absurd h List.not_mem_nil⟩⟩⟩⟩) (by decide +kernel)) ggL_law_X8_motif
theorem gL_law_X7_sheet : GoodIn wsL_law (wsV RL 142 RX7 yX7_sheet wsX7_sheet) := goodIn_app (goodIn_sub (List.forall_mem_cons.mpr ⟨mW41_21, List.forall_mem_cons.mpr ⟨mW41_22, List.forall_mem_cons.mpr ⟨mW41_23, List.forall_mem_cons.mpr ⟨mW1_2, fun _ h => absurd h List.not_mem_nil⟩⟩⟩⟩) (by decide +kernel)) ggL_law_X7_sheet
theorem gL_law_X8_sheet : GoodIn wsL_law (wsV RL 145 RX8 yX8_sheet wsX8_sheet) := goodIn_app (goodIn_sub (List.forall_mem_cons.mpr ⟨mW42_6, List.forall_mem_cons.mpr ⟨mW42_7, List.forall_mem_cons.mpr ⟨mW42_8, List.forall_mem_cons.mpr ⟨mW1_5, fun _ h => absurd h List.not_mem_nil⟩⟩⟩⟩) (by decide +kernel)) ggL_law_X8_sheet
theorem gL_law_X7_put : GoodIn wsL_law (wsV RL 146 RX7 yX7_put wsX7_put) := goodIn_app (goodIn_sub (List.forall_mem_cons.mpr ⟨mW42_10, List.forall_mem_cons.mpr ⟨mW42_11, List.forall_mem_cons.mpr ⟨mW42_12, List.forall_mem_cons.mpr ⟨mW1_2, fun _ h => absurd h List.not_mem_nil⟩⟩⟩⟩) (by decide +kernel)) ggL_law_X7_put
theorem gL_law_X8_put : GoodIn wsL_law (wsV RL 150 RX8 yX8_put wsX8_put) := goodIn_app (goodIn_sub (List.forall_mem_cons.mpr ⟨mW42_22, List.forall_mem_cons.mpr ⟨mW42_23, List.forall_mem_cons.mpr ⟨mW43_0, List.forall_mem_cons.mpr ⟨mW1_5, fun _ h => absurd h List.not_mem_nil⟩⟩⟩⟩) (by decide +kernel)) ggL_law_X8_put
theorem gL_law_X7_number : GoodIn wsL_law (wsV RL 151 RX7 yX7_number wsX7_number) := goodIn_app (goodIn_sub (List.forall_mem_cons.mpr ⟨mW43_6, List.forall_mem_cons.mpr ⟨mW43_7, List.forall_mem_cons.mpr ⟨mW43_8, List.forall_mem_cons.mpr ⟨mW1_2, fun _ h => absurd h List.not_mem_nil⟩⟩⟩⟩) (by decide +kernel)) ggL_law_X7_number
theorem gL_law_X8_number : GoodIn wsL_law (wsV RL 155 RX8 yX8_number wsX8_number) := goodIn_app (goodIn_sub (List.forall_mem_cons.mpr ⟨mW43_10, List.forall_mem_cons.mpr ⟨mW43_11, List.forall_mem_cons.mpr ⟨mW43_12, List.forall_mem_cons.mpr ⟨mW1_5, fun _ h => absurd h List.not_mem_nil⟩⟩⟩⟩) (by decide +kernel)) ggL_law_X8_number
theorem gL_law_X7_image : GoodIn wsL_law (wsV RL 156 RX7 yX7_image wsX7_image) := goodIn_app (goodIn_sub (List.forall_mem_cons.mpr ⟨mW43_14, List.forall_mem_cons.mpr ⟨mW43_15, List.forall_mem_cons.mpr ⟨mW43_16, List.forall_mem_cons.mpr ⟨mW1_2, fun _ h => absurd h List.not_mem_nil⟩⟩⟩⟩) (by decide +kernel)) ggL_law_X7_image
theorem gL_law_X8_image : GoodIn wsL_law (wsV RL 159 RX8 yX8_image wsX8_image) := goodIn_app (goodIn_sub (List.forall_mem_cons.mpr ⟨mW44_7, List.forall_mem_cons.mpr ⟨mW44_8, List.forall_mem_cons.mpr ⟨mW44_9, List.forall_mem_cons.mpr ⟨mW1_5, fun _ h => absurd h List.not_mem_nil⟩⟩⟩⟩) (by decide +kernel)) ggL_law_X8_image
theorem gL_law_X7_restore : GoodIn wsL_law (wsV RL 160 RX7 yX7_restore wsX7_restore) := goodIn_app (goodIn_sub (List.forall_mem_cons.mpr ⟨mW44_15, List.forall_mem_cons.mpr ⟨mW44_16, List.forall_mem_cons.mpr ⟨mW44_17, List.forall_mem_cons.mpr ⟨mW1_2, fun _ h => absurd h List.not_mem_nil⟩⟩⟩⟩) (by decide +kernel)) ggL_law_X7_restore
theorem gL_law_X8_restore : GoodIn wsL_law (wsV RL 163 RX8 yX8_restore wsX8_restore) := goodIn_app (goodIn_sub (List.forall_mem_cons.mpr ⟨mW44_19, List.forall_mem_cons.mpr ⟨mW44_20, List.forall_mem_cons.mpr ⟨mW44_21, List.forall_mem_cons.mpr ⟨mW1_5, fun _ h => absurd h List.not_mem_nil⟩⟩⟩⟩) (by decide +kernel)) ggL_law_X8_restore
theorem gL_law_X7_alike : GoodIn wsL_law (wsV RL 164 RX7 yX7_alike wsX7_alike) := goodIn_app (goodIn_sub (List.forall_mem_cons.mpr ⟨mW44_23, List.forall_mem_cons.mpr ⟨mW45_0, List.forall_mem_cons.mpr ⟨mW45_1, List.forall_mem_cons.mpr ⟨mW1_2, fun _ h => absurd h List.not_mem_nil⟩⟩⟩⟩) (by decide +kernel)) ggL_law_X7_alike
theorem gL_law_X8_alike : GoodIn wsL_law (wsV RL 167 RX8 yX8_alike wsX8_alike) := goodIn_app (goodIn_sub (List.forall_mem_cons.mpr ⟨mW45_7, List.forall_mem_cons.mpr ⟨mW45_8, List.forall_mem_cons.mpr ⟨mW45_9, List.forall_mem_cons.mpr ⟨mW1_5, fun _ h => absurd h List.not_mem_nil⟩⟩⟩⟩) (by decide +kernel)) ggL_law_X8_alike
theorem gL_law_X7_count : GoodIn wsL_law (wsV RL 168 RX7 yX7_count wsX7_count) := goodIn_app (goodIn_sub (List.forall_mem_cons.mpr ⟨mW45_11, List.forall_mem_cons.mpr ⟨mW45_12, List.forall_mem_cons.mpr ⟨mW45_13, List.forall_mem_cons.mpr ⟨mW1_2, fun _ h => absurd h List.not_mem_nil⟩⟩⟩⟩) (by decide +kernel)) ggL_law_X7_count
theorem gL_law_X8_count : GoodIn wsL_law (wsV RL 171 RX8 yX8_count wsX8_count) := goodIn_app (goodIn_sub (List.forall_mem_cons.mpr ⟨mW45_22, List.forall_mem_cons.mpr ⟨mW45_23, List.forall_mem_cons.mpr ⟨mW46_0, List.forall_mem_cons.mpr ⟨mW1_5, fun _ h => absurd h List.not_mem_nil⟩⟩⟩⟩) (by decide +kernel)) ggL_law_X8_count
theorem gL_law_X7_told : GoodIn wsL_law (wsV RL 172 RX7 yX7_told wsX7_told) := goodIn_app (goodIn_sub (List.forall_mem_cons.mpr ⟨mW46_14, List.forall_mem_cons.mpr ⟨mW46_15, List.forall_mem_cons.mpr ⟨mW46_16, List.forall_mem_cons.mpr ⟨mW1_2, fun _ h => absurd h List.not_mem_nil⟩⟩⟩⟩) (by decide +kernel)) ggL_law_X7_told
theorem gL_law_X8_told : GoodIn wsL_law (wsV RL 175 RX8 yX8_told wsX8_told) := goodIn_app (goodIn_sub (List.forall_mem_cons.mpr ⟨mW46_18, List.forall_mem_cons.mpr ⟨mW46_19, List.forall_mem_cons.mpr ⟨mW46_20, List.forall_mem_cons.mpr ⟨mW1_5, fun _ h => absurd h List.not_mem_nil⟩⟩⟩⟩) (by decide +kernel)) ggL_law_X8_told
