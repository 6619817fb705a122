/-! WORDS BY NAME -/
theorem law_good : wsL_law.all goodWord = true := by decide +kernel
theorem lk_RX0_9 : Cond.fieldLink RX0 9 "SpeculativeCaches$Core" "lineStates" "[I" ∈ wsL_law := List.mem_of_getElem? (i := 66) (by decide +kernel)
theorem lk_RX0_15 : Cond.fieldLink RX0 15 "SpeculativeCaches$Core" "lineValues" "[I" ∈ wsL_law := List.mem_of_getElem? (i := 67) (by decide +kernel)
theorem lk_RX0_21 : Cond.fieldLink RX0 21 "SpeculativeCaches$Core" "program" "LSpeculativeCaches$Program;" ∈ wsL_law := List.mem_of_getElem? (i := 69) (by decide +kernel)
theorem lk_RX0_25 : Cond.fieldLink RX0 25 "SpeculativeCaches$Core" "firstValues" "[I" ∈ wsL_law := List.mem_of_getElem? (i := 70) (by decide +kernel)
theorem lk_RX0_28 : Cond.fieldLink RX0 28 "SpeculativeCaches$Core" "transaction" "I" ∈ wsL_law := List.mem_of_getElem? (i := 71) (by decide +kernel)
theorem lk_RX0_32 : Cond.fieldLink RX0 32 "SpeculativeCaches$Core" "keptNumber" "I" ∈ wsL_law := List.mem_of_getElem? (i := 72) (by decide +kernel)
theorem lk_RX0_38 : Cond.fieldLink RX0 38 "SpeculativeCaches$Core" "position" "I" ∈ wsL_law := List.mem_of_getElem? (i := 117) (by decide +kernel)
theorem lk_RX0_41 : Cond.fieldLink RX0 41 "SpeculativeCaches$Core" "accumulator" "I" ∈ wsL_law := List.mem_of_getElem? (i := 171) (by decide +kernel)
theorem lk_RX0_47 : Cond.fieldLink RX0 47 "SpeculativeCaches$Core" "commitsDone" "I" ∈ wsL_law := List.mem_of_getElem? (i := 172) (by decide +kernel)
theorem lk_RX0_50 : Cond.fieldLink RX0 50 "SpeculativeCaches$Core" "aborts" "I" ∈ wsL_law := List.mem_of_getElem? (i := 173) (by decide +kernel)
theorem lk_RX0_63 : Cond.fieldLink RX0 63 "SpeculativeCaches$Core" "rememberedPosition" "I" ∈ wsL_law := List.mem_of_getElem? (i := 255) (by decide +kernel)
theorem lk_RX0_66 : Cond.fieldLink RX0 66 "SpeculativeCaches$Core" "rememberedAccumulator" "I" ∈ wsL_law := List.mem_of_getElem? (i := 256) (by decide +kernel)
theorem lk_RX0_69 : Cond.fieldLink RX0 69 "SpeculativeCaches$Core" "readSet" "I" ∈ wsL_law := List.mem_of_getElem? (i := 257) (by decide +kernel)
theorem lk_RX0_72 : Cond.fieldLink RX0 72 "SpeculativeCaches$Core" "writeSet" "I" ∈ wsL_law := List.mem_of_getElem? (i := 258) (by decide +kernel)
theorem lk_RX0_75 : Cond.fieldLink RX0 75 "SpeculativeCaches$Core" "firstReads" "I" ∈ wsL_law := List.mem_of_getElem? (i := 259) (by decide +kernel)
theorem lk_RX1_9 : Cond.fieldLink RX1 9 "SpeculativeCaches$Log" "room" "I" ∈ wsL_law := List.mem_of_getElem? (i := 76) (by decide +kernel)
theorem lk_RX1_15 : Cond.fieldLink RX1 15 "SpeculativeCaches$Log" "cores" "[I" ∈ wsL_law := List.mem_of_getElem? (i := 77) (by decide +kernel)
theorem lk_RX1_19 : Cond.fieldLink RX1 19 "SpeculativeCaches$Log" "transactions" "[I" ∈ wsL_law := List.mem_of_getElem? (i := 78) (by decide +kernel)
theorem lk_RX1_22 : Cond.fieldLink RX1 22 "SpeculativeCaches$Log" "readSets" "[I" ∈ wsL_law := List.mem_of_getElem? (i := 79) (by decide +kernel)
theorem lk_RX1_25 : Cond.fieldLink RX1 25 "SpeculativeCaches$Log" "writeSets" "[I" ∈ wsL_law := List.mem_of_getElem? (i := 80) (by decide +kernel)
theorem lk_RX1_28 : Cond.fieldLink RX1 28 "SpeculativeCaches$Log" "readValues" "[I" ∈ wsL_law := List.mem_of_getElem? (i := 81) (by decide +kernel)
theorem lk_RX1_31 : Cond.fieldLink RX1 31 "SpeculativeCaches$Log" "writtenValues" "[I" ∈ wsL_law := List.mem_of_getElem? (i := 82) (by decide +kernel)
theorem lk_RX1_34 : Cond.fieldLink RX1 34 "SpeculativeCaches$Log" "count" "I" ∈ wsL_law := List.mem_of_getElem? (i := 83) (by decide +kernel)
theorem lk_RX2_11 : Cond.fieldLink RX2 11 "SpeculativeCaches$Machine" "cores" "[LSpeculativeCaches$Core;" ∈ wsL_law := List.mem_of_getElem? (i := 49) (by decide +kernel)
theorem lk_RX2_18 : Cond.fieldLink RX2 18 "SpeculativeCaches$Machine" "memoryValues" "[I" ∈ wsL_law := List.mem_of_getElem? (i := 52) (by decide +kernel)
theorem lk_RX2_22 : Cond.fieldLink RX2 22 "SpeculativeCaches$Machine" "counters" "[I" ∈ wsL_law := List.mem_of_getElem? (i := 53) (by decide +kernel)
theorem lk_RX2_30 : Cond.fieldLink RX2 30 "SpeculativeCaches$Machine" "log" "LSpeculativeCaches$Log;" ∈ wsL_law := List.mem_of_getElem? (i := 57) (by decide +kernel)
theorem lk_RX2_34 : Cond.fieldLink RX2 34 "SpeculativeCaches$Machine" "coreCount" "I" ∈ wsL_law := List.mem_of_getElem? (i := 58) (by decide +kernel)
theorem lk_RX2_38 : Cond.fieldLink RX2 38 "SpeculativeCaches$Machine" "policy" "I" ∈ wsL_law := List.mem_of_getElem? (i := 59) (by decide +kernel)
theorem lk_RX2_41 : Cond.fieldLink RX2 41 "SpeculativeCaches$Machine" "buffer" "I" ∈ wsL_law := List.mem_of_getElem? (i := 60) (by decide +kernel)
theorem lk_RX2_44 : Cond.fieldLink RX2 44 "SpeculativeCaches$Machine" "schedulerNumber" "I" ∈ wsL_law := List.mem_of_getElem? (i := 61) (by decide +kernel)
theorem lk_RX2_47 : Cond.fieldLink RX2 47 "SpeculativeCaches$Machine" "numbered" "I" ∈ wsL_law := List.mem_of_getElem? (i := 62) (by decide +kernel)
theorem lk_RX3_9 : Cond.fieldLink RX3 9 "SpeculativeCaches$Program" "kinds" "[I" ∈ wsL_law := List.mem_of_getElem? (i := 42) (by decide +kernel)
theorem lk_RX3_15 : Cond.fieldLink RX3 15 "SpeculativeCaches$Program" "operands" "[I" ∈ wsL_law := List.mem_of_getElem? (i := 43) (by decide +kernel)
theorem lk_RX3_18 : Cond.fieldLink RX3 18 "SpeculativeCaches$Program" "length" "I" ∈ wsL_law := List.mem_of_getElem? (i := 44) (by decide +kernel)
theorem lk_RX4_12 : Cond.fieldLink RX4 12 "SpeculativeCaches$ProgramReader" "program" "LSpeculativeCaches$Program;" ∈ wsL_law := List.mem_of_getElem? (i := 33) (by decide +kernel)
theorem lk_RX4_18 : Cond.fieldLink RX4 18 "SpeculativeCaches$ProgramReader" "wants" "I" ∈ wsL_law := List.mem_of_getElem? (i := 34) (by decide +kernel)
theorem lk_RX4_22 : Cond.fieldLink RX4 22 "SpeculativeCaches$ProgramReader" "kind" "I" ∈ wsL_law := List.mem_of_getElem? (i := 35) (by decide +kernel)
theorem lk_RX4_25 : Cond.fieldLink RX4 25 "SpeculativeCaches$ProgramReader" "number" "I" ∈ wsL_law := List.mem_of_getElem? (i := 36) (by decide +kernel)
theorem lk_RX4_28 : Cond.fieldLink RX4 28 "SpeculativeCaches$ProgramReader" "digits" "I" ∈ wsL_law := List.mem_of_getElem? (i := 37) (by decide +kernel)
theorem lk_RX4_31 : Cond.fieldLink RX4 31 "SpeculativeCaches$ProgramReader" "negative" "Z" ∈ wsL_law := List.mem_of_getElem? (i := 38) (by decide +kernel)
theorem lk_RX5_9 : Cond.fieldLink RX5 9 "SpeculativeCaches" "text" "[I" ∈ wsL_law := List.mem_of_getElem? (i := 12) (by decide +kernel)
theorem lk_RX5_13 : Cond.fieldLink RX5 13 "SpeculativeCaches" "textLength" "I" ∈ wsL_law := List.mem_of_getElem? (i := 13) (by decide +kernel)
theorem lk_RX5_20 : Cond.fieldLink RX5 20 "SpeculativeCaches" "reader" "LSpeculativeCaches$ProgramReader;" ∈ wsL_law := List.mem_of_getElem? (i := 17) (by decide +kernel)
theorem lk_RX5_29 : Cond.fieldLink RX5 29 "SpeculativeCaches" "now" "LSpeculativeCaches$Machine;" ∈ wsL_law := List.mem_of_getElem? (i := 21) (by decide +kernel)
theorem lk_RX5_33 : Cond.fieldLink RX5 33 "SpeculativeCaches" "trial" "LSpeculativeCaches$Machine;" ∈ wsL_law := List.mem_of_getElem? (i := 22) (by decide +kernel)
theorem lk_RX5_36 : Cond.fieldLink RX5 36 "SpeculativeCaches" "saved" "[LSpeculativeCaches$Machine;" ∈ wsL_law := List.mem_of_getElem? (i := 23) (by decide +kernel)
theorem lk_RX5_40 : Cond.fieldLink RX5 40 "SpeculativeCaches" "oldestSaved" "I" ∈ wsL_law := List.mem_of_getElem? (i := 24) (by decide +kernel)
theorem lk_RX5_43 : Cond.fieldLink RX5 43 "SpeculativeCaches" "savedCount" "I" ∈ wsL_law := List.mem_of_getElem? (i := 25) (by decide +kernel)
theorem lk_RX5_46 : Cond.fieldLink RX5 46 "SpeculativeCaches" "replayed" "[I" ∈ wsL_law := List.mem_of_getElem? (i := 26) (by decide +kernel)
theorem lk_RL_9 : Cond.methodLink RL 9 yX5_begin ∈ wsL_law := List.mem_of_getElem? (i := 233) (by decide +kernel)
theorem lk_RL_18 : Cond.methodLink RL 18 yX5_setPolicy ∈ wsL_law := List.mem_of_getElem? (i := 314) (by decide +kernel)
theorem lk_RL_22 : Cond.methodLink RL 22 yX5_seed ∈ wsL_law := List.mem_of_getElem? (i := 285) (by decide +kernel)
theorem lk_RL_25 : Cond.methodLink RL 25 yX5_append ∈ wsL_law := List.mem_of_getElem? (i := 525) (by decide +kernel)
theorem lk_RL_31 : Cond.methodLink RL 31 yX5_load ∈ wsL_law := List.mem_of_getElem? (i := 322) (by decide +kernel)
theorem lk_RL_37 : Cond.methodLink RL 37 yX5_again ∈ wsL_law := List.mem_of_getElem? (i := 375) (by decide +kernel)
theorem lk_RL_40 : Cond.methodLink RL 40 yX5_step ∈ wsL_law := List.mem_of_getElem? (i := 382) (by decide +kernel)
theorem lk_RL_43 : Cond.methodLink RL 43 yX5_run ∈ wsL_law := List.mem_of_getElem? (i := 465) (by decide +kernel)
theorem lk_RL_46 : Cond.methodLink RL 46 yX5_poke ∈ wsL_law := List.mem_of_getElem? (i := 487) (by decide +kernel)
theorem lk_RL_50 : Cond.methodLink RL 50 yX5_state ∈ wsL_law := List.mem_of_getElem? (i := 140) (by decide +kernel)
theorem lk_RL_53 : Cond.methodLink RL 53 yX5_cached ∈ wsL_law := List.mem_of_getElem? (i := 157) (by decide +kernel)
theorem lk_RL_56 : Cond.methodLink RL 56 yX5_memory ∈ wsL_law := List.mem_of_getElem? (i := 123) (by decide +kernel)
theorem lk_RL_60 : Cond.methodLink RL 60 yX5_set ∈ wsL_law := List.mem_of_getElem? (i := 150) (by decide +kernel)
theorem lk_RL_63 : Cond.methodLink RL 63 yX5_core ∈ wsL_law := List.mem_of_getElem? (i := 164) (by decide +kernel)
theorem lk_RL_66 : Cond.methodLink RL 66 yX5_value ∈ wsL_law := List.mem_of_getElem? (i := 101) (by decide +kernel)
theorem lk_RL_69 : Cond.methodLink RL 69 yX5_counter ∈ wsL_law := List.mem_of_getElem? (i := 180) (by decide +kernel)
theorem lk_RL_72 : Cond.methodLink RL 72 yX5_commit ∈ wsL_law := List.mem_of_getElem? (i := 194) (by decide +kernel)
theorem lk_RL_75 : Cond.methodLink RL 75 yX5_commitValue ∈ wsL_law := List.mem_of_getElem? (i := 207) (by decide +kernel)
theorem lk_RL_79 : Cond.methodLink RL 79 yX5_finish ∈ wsL_law := List.mem_of_getElem? (i := 497) (by decide +kernel)
theorem lk_RL_82 : Cond.methodLink RL 82 yX5_abortsWith ∈ wsL_law := List.mem_of_getElem? (i := 511) (by decide +kernel)
theorem lk_RL_85 : Cond.methodLink RL 85 yX5_undo ∈ wsL_law := List.mem_of_getElem? (i := 535) (by decide +kernel)
theorem lk_RL_89 : Cond.methodLink RL 89 yL_low ∈ wsL_law := List.mem_of_getElem? (i := 89) (by decide +kernel)
theorem lk_RL_94 : Cond.methodLink RL 94 yL_append ∈ wsL_law := List.mem_of_getElem? (i := 522) (by decide +kernel)
theorem lk_RL_97 : Cond.methodLink RL 97 yL_value ∈ wsL_law := List.mem_of_getElem? (i := 96) (by decide +kernel)
theorem lk_RL_99 : Cond.methodLink RL 99 yL_memory ∈ wsL_law := List.mem_of_getElem? (i := 118) (by decide +kernel)
theorem lk_RL_102 : Cond.methodLink RL 102 yL_state ∈ wsL_law := List.mem_of_getElem? (i := 137) (by decide +kernel)
theorem lk_RL_105 : Cond.methodLink RL 105 yL_set ∈ wsL_law := List.mem_of_getElem? (i := 147) (by decide +kernel)
theorem lk_RL_107 : Cond.methodLink RL 107 yL_cached ∈ wsL_law := List.mem_of_getElem? (i := 154) (by decide +kernel)
theorem lk_RL_109 : Cond.methodLink RL 109 yL_core ∈ wsL_law := List.mem_of_getElem? (i := 161) (by decide +kernel)
theorem lk_RL_111 : Cond.methodLink RL 111 yL_size ∈ wsL_law := List.mem_of_getElem? (i := 174) (by decide +kernel)
theorem lk_RL_114 : Cond.methodLink RL 114 yL_counter ∈ wsL_law := List.mem_of_getElem? (i := 177) (by decide +kernel)
theorem lk_RL_116 : Cond.methodLink RL 116 yL_logs ∈ wsL_law := List.mem_of_getElem? (i := 184) (by decide +kernel)
theorem lk_RL_120 : Cond.methodLink RL 120 yX5_commits ∈ wsL_law := List.mem_of_getElem? (i := 187) (by decide +kernel)
theorem lk_RL_123 : Cond.methodLink RL 123 yL_commit ∈ wsL_law := List.mem_of_getElem? (i := 191) (by decide +kernel)
theorem lk_RL_125 : Cond.methodLink RL 125 yL_commitValue ∈ wsL_law := List.mem_of_getElem? (i := 204) (by decide +kernel)
theorem lk_RL_128 : Cond.methodLink RL 128 yX5_serializable ∈ wsL_law := List.mem_of_getElem? (i := 214) (by decide +kernel)
theorem lk_RL_132 : Cond.methodLink RL 132 yX5_digest ∈ wsL_law := List.mem_of_getElem? (i := 293) (by decide +kernel)
theorem lk_RL_136 : Cond.methodLink RL 136 yL_begin ∈ wsL_law := List.mem_of_getElem? (i := 230) (by decide +kernel)
theorem lk_RL_139 : Cond.methodLink RL 139 yL_setPolicy ∈ wsL_law := List.mem_of_getElem? (i := 311) (by decide +kernel)
theorem lk_RL_141 : Cond.methodLink RL 141 yL_seed ∈ wsL_law := List.mem_of_getElem? (i := 282) (by decide +kernel)
theorem lk_RL_143 : Cond.methodLink RL 143 yL_load ∈ wsL_law := List.mem_of_getElem? (i := 318) (by decide +kernel)
theorem lk_RL_145 : Cond.methodLink RL 145 yL_again ∈ wsL_law := List.mem_of_getElem? (i := 372) (by decide +kernel)
theorem lk_RL_147 : Cond.methodLink RL 147 yL_step ∈ wsL_law := List.mem_of_getElem? (i := 379) (by decide +kernel)
theorem lk_RL_149 : Cond.methodLink RL 149 yL_run ∈ wsL_law := List.mem_of_getElem? (i := 462) (by decide +kernel)
theorem lk_RL_151 : Cond.methodLink RL 151 yL_poke ∈ wsL_law := List.mem_of_getElem? (i := 484) (by decide +kernel)
theorem lk_RL_153 : Cond.methodLink RL 153 yL_finish ∈ wsL_law := List.mem_of_getElem? (i := 494) (by decide +kernel)
theorem lk_RL_155 : Cond.methodLink RL 155 yL_abortsWith ∈ wsL_law := List.mem_of_getElem? (i := 508) (by decide +kernel)
theorem lk_RL_157 : Cond.methodLink RL 157 yL_lines ∈ wsL_law := List.mem_of_getElem? (i := 93) (by decide +kernel)
theorem lk_RL_161 : Cond.methodLink RL 161 yL_undo ∈ wsL_law := List.mem_of_getElem? (i := 532) (by decide +kernel)
theorem lk_RL_163 : Cond.methodLink RL 163 yX5_init ∈ wsL_law := List.mem_of_getElem? (i := 5) (by decide +kernel)
theorem lk_RL_164 : Cond.methodLink RL 164 yL_cell ∈ wsL_law := List.mem_of_getElem? (i := 84) (by decide +kernel)
theorem lk_RL_169 : Cond.methodLink RL 169 yL_refuses ∈ wsL_law := List.mem_of_getElem? (i := 290) (by decide +kernel)
theorem lk_RL_172 : Cond.methodLink RL 172 yX5_clearText ∈ wsL_law := List.mem_of_getElem? (i := 515) (by decide +kernel)
theorem lk_RL_175 : Cond.methodLink RL 175 yL_types ∈ wsL_law := List.mem_of_getElem? (i := 519) (by decide +kernel)
theorem lk_RL_178 : Cond.methodLink RL 178 yL_runs ∈ wsL_law := List.mem_of_getElem? (i := 529) (by decide +kernel)
theorem lk_RL_182 : Cond.methodLink RL 182 yL_commits ∈ wsL_law := List.mem_of_getElem? (i := 539) (by decide +kernel)
theorem lk_RX0_3 : Cond.methodLink RX0 3 objectInit ∈ wsL_law := List.mem_of_getElem? (i := 65) (by decide +kernel)
theorem lk_RX0_44 : Cond.methodLink RX0 44 yX0_endTransaction ∈ wsL_law := List.mem_of_getElem? (i := 278) (by decide +kernel)
theorem lk_RX0_53 : Cond.methodLink RX0 53 arraycopyName ∈ wsL_law := List.mem_of_getElem? (i := 254) (by decide +kernel)
theorem lk_RX0_82 : Cond.methodLink RX0 82 yX0_inTransaction ∈ wsL_law := List.mem_of_getElem? (i := 440) (by decide +kernel)
theorem lk_RX0_86 : Cond.methodLink RX0 86 yJ6_bitCount_0f7a4 ∈ wsL_law := List.mem_of_getElem? (i := 448) (by decide +kernel)
theorem lk_RX1_3 : Cond.methodLink RX1 3 objectInit ∈ wsL_law := List.mem_of_getElem? (i := 75) (by decide +kernel)
theorem lk_RX1_54 : Cond.methodLink RX1 54 yX1_addEntry ∈ wsL_law := List.mem_of_getElem? (i := 407) (by decide +kernel)
theorem lk_RX1_62 : Cond.methodLink RX1 62 yX1_readsMatch ∈ wsL_law := List.mem_of_getElem? (i := 221) (by decide +kernel)
theorem lk_RX1_66 : Cond.methodLink RX1 66 yX1_applyWrites ∈ wsL_law := List.mem_of_getElem? (i := 226) (by decide +kernel)
theorem lk_RX1_70 : Cond.methodLink RX1 70 yX1_lineValue ∈ wsL_law := List.mem_of_getElem? (i := 225) (by decide +kernel)
theorem lk_RX1_74 : Cond.methodLink RX1 74 Lib.Math.min.name ∈ wsL_law := List.mem_of_getElem? (i := 267) (by decide +kernel)
theorem lk_RX1_80 : Cond.methodLink RX1 80 arraycopyName ∈ wsL_law := List.mem_of_getElem? (i := 271) (by decide +kernel)
theorem lk_RX2_3 : Cond.methodLink RX2 3 objectInit ∈ wsL_law := List.mem_of_getElem? (i := 47) (by decide +kernel)
theorem lk_RX2_60 : Cond.methodLink RX2 60 arraycopyName ∈ wsL_law := List.mem_of_getElem? (i := 247) (by decide +kernel)
theorem lk_RX2_69 : Cond.methodLink RX2 69 yX2_finishedCores ∈ wsL_law := List.mem_of_getElem? (i := 110) (by decide +kernel)
theorem lk_RX2_90 : Cond.methodLink RX2 90 yX2_drawCore ∈ wsL_law := List.mem_of_getElem? (i := 475) (by decide +kernel)
theorem lk_RX2_93 : Cond.methodLink RX2 93 yX2_stepCore ∈ wsL_law := List.mem_of_getElem? (i := 483) (by decide +kernel)
theorem lk_RX2_116 : Cond.methodLink RX2 116 yX2_abortsSoFar ∈ wsL_law := List.mem_of_getElem? (i := 389) (by decide +kernel)
theorem lk_RX2_125 : Cond.methodLink RX2 125 yX2_beginIn ∈ wsL_law := List.mem_of_getElem? (i := 393) (by decide +kernel)
theorem lk_RX2_128 : Cond.methodLink RX2 128 yX2_commitIn ∈ wsL_law := List.mem_of_getElem? (i := 400) (by decide +kernel)
theorem lk_RX2_131 : Cond.methodLink RX2 131 yX2_readLine ∈ wsL_law := List.mem_of_getElem? (i := 411) (by decide +kernel)
theorem lk_RX2_135 : Cond.methodLink RX2 135 yX2_writeLine ∈ wsL_law := List.mem_of_getElem? (i := 441) (by decide +kernel)
theorem lk_RX2_164 : Cond.methodLink RX2 164 yX2_winsConflicts ∈ wsL_law := List.mem_of_getElem? (i := 415) (by decide +kernel)
theorem lk_RX2_168 : Cond.methodLink RX2 168 yX2_writeBackElsewhere ∈ wsL_law := List.mem_of_getElem? (i := 429) (by decide +kernel)
theorem lk_RX2_180 : Cond.methodLink RX2 180 yX2_takeOver ∈ wsL_law := List.mem_of_getElem? (i := 455) (by decide +kernel)
theorem lk_RX2_183 : Cond.methodLink RX2 183 yX2_writeBack ∈ wsL_law := List.mem_of_getElem? (i := 433) (by decide +kernel)
theorem lk_RX2_195 : Cond.methodLink RX2 195 yX2_winsAgainst ∈ wsL_law := List.mem_of_getElem? (i := 422) (by decide +kernel)
theorem lk_RX3_3 : Cond.methodLink RX3 3 objectInit ∈ wsL_law := List.mem_of_getElem? (i := 41) (by decide +kernel)
theorem lk_RX3_22 : Cond.methodLink RX3 22 yX3_isFull ∈ wsL_law := List.mem_of_getElem? (i := 368) (by decide +kernel)
theorem lk_RX3_26 : Cond.methodLink RX3 26 arraycopyName ∈ wsL_law := List.mem_of_getElem? (i := 263) (by decide +kernel)
theorem lk_RX4_3 : Cond.methodLink RX4 3 objectInit ∈ wsL_law := List.mem_of_getElem? (i := 29) (by decide +kernel)
theorem lk_RX4_38 : Cond.methodLink RX4 38 yX4_accepts ∈ wsL_law := List.mem_of_getElem? (i := 334) (by decide +kernel)
theorem lk_RX4_42 : Cond.methodLink RX4 42 yX4_acceptsInstruction ∈ wsL_law := List.mem_of_getElem? (i := 338) (by decide +kernel)
theorem lk_RX4_45 : Cond.methodLink RX4 45 yX4_acceptsLine ∈ wsL_law := List.mem_of_getElem? (i := 349) (by decide +kernel)
theorem lk_RX4_48 : Cond.methodLink RX4 48 yX4_acceptsMinus ∈ wsL_law := List.mem_of_getElem? (i := 353) (by decide +kernel)
theorem lk_RX4_51 : Cond.methodLink RX4 51 yX4_acceptsDigit ∈ wsL_law := List.mem_of_getElem? (i := 357) (by decide +kernel)
theorem lk_RX4_54 : Cond.methodLink RX4 54 yX4_acceptsEnd ∈ wsL_law := List.mem_of_getElem? (i := 361) (by decide +kernel)
theorem lk_RX4_61 : Cond.methodLink RX4 61 yX4_expect ∈ wsL_law := List.mem_of_getElem? (i := 345) (by decide +kernel)
theorem lk_RX5_1 : Cond.methodLink RX5 1 objectInit ∈ wsL_law := List.mem_of_getElem? (i := 8) (by decide +kernel)
theorem lk_RX5_49 : Cond.methodLink RX5 49 yX5_isPolicy ∈ wsL_law := List.mem_of_getElem? (i := 237) (by decide +kernel)
theorem lk_RX5_60 : Cond.methodLink RX5 60 yX5_saveState ∈ wsL_law := List.mem_of_getElem? (i := 240) (by decide +kernel)
theorem lk_RX5_146 : Cond.methodLink RX5 146 yX5_isRunLength ∈ wsL_law := List.mem_of_getElem? (i := 469) (by decide +kernel)
theorem lk_RX5_158 : Cond.methodLink RX5 158 yX5_isLine ∈ wsL_law := List.mem_of_getElem? (i := 129) (by decide +kernel)
theorem lk_RX5_213 : Cond.methodLink RX5 213 yX5_startTrial ∈ wsL_law := List.mem_of_getElem? (i := 501) (by decide +kernel)
theorem lk_RX5_230 : Cond.methodLink RX5 230 yX5_mix ∈ wsL_law := List.mem_of_getElem? (i := 298) (by decide +kernel)
theorem lk_RX5_237 : Cond.methodLink RX5 237 yX5_mixCore ∈ wsL_law := List.mem_of_getElem? (i := 302) (by decide +kernel)
theorem lk_RX5_240 : Cond.methodLink RX5 240 yX5_memory ∈ wsL_law := List.mem_of_getElem? (i := 310) (by decide +kernel)
theorem lk_RX5_244 : Cond.methodLink RX5 244 yX5_core ∈ wsL_law := List.mem_of_getElem? (i := 306) (by decide +kernel)
theorem lk_RX5_247 : Cond.methodLink RX5 247 yX5_set ∈ wsL_law := List.mem_of_getElem? (i := 307) (by decide +kernel)
theorem lk_RX5_250 : Cond.methodLink RX5 250 yX5_state ∈ wsL_law := List.mem_of_getElem? (i := 308) (by decide +kernel)
theorem lk_RX5_253 : Cond.methodLink RX5 253 yX5_cached ∈ wsL_law := List.mem_of_getElem? (i := 309) (by decide +kernel)
def NWs : List Cond := [Cond.fieldLinkNest RX2 122 "SpeculativeCaches$Program" "kinds" "[I" "SpeculativeCaches",
  Cond.fieldLinkNest RX2 108 "SpeculativeCaches$Program" "operands" "[I" "SpeculativeCaches",
  Cond.fieldLinkNest RX4 35 "SpeculativeCaches$Program" "length" "I" "SpeculativeCaches",
  Cond.fieldLinkNest RX0 35 "SpeculativeCaches$Program" "length" "I" "SpeculativeCaches",
  Cond.fieldLinkNest RX5 127 "SpeculativeCaches$Program" "length" "I" "SpeculativeCaches",
  Cond.fieldLinkNest RX5 118 "SpeculativeCaches$ProgramReader" "program" "LSpeculativeCaches$Program;" "SpeculativeCaches",
  Cond.fieldLinkNest RX2 77 "SpeculativeCaches$Core" "lineStates" "[I" "SpeculativeCaches",
  Cond.fieldLinkNest RX5 169 "SpeculativeCaches$Core" "lineStates" "[I" "SpeculativeCaches",
  Cond.fieldLinkNest RX1 51 "SpeculativeCaches$Core" "lineValues" "[I" "SpeculativeCaches",
  Cond.fieldLinkNest RX2 87 "SpeculativeCaches$Core" "lineValues" "[I" "SpeculativeCaches",
  Cond.fieldLinkNest RX5 172 "SpeculativeCaches$Core" "lineValues" "[I" "SpeculativeCaches",
  Cond.fieldLinkNest RX5 126 "SpeculativeCaches$Core" "program" "LSpeculativeCaches$Program;" "SpeculativeCaches",
  Cond.fieldLinkNest RX2 104 "SpeculativeCaches$Core" "program" "LSpeculativeCaches$Program;" "SpeculativeCaches",
  Cond.fieldLinkNest RX5 137 "SpeculativeCaches$Core" "position" "I" "SpeculativeCaches",
  Cond.fieldLinkNest RX2 113 "SpeculativeCaches$Core" "position" "I" "SpeculativeCaches",
  Cond.fieldLinkNest RX2 138 "SpeculativeCaches$Core" "accumulator" "I" "SpeculativeCaches",
  Cond.fieldLinkNest RX1 37 "SpeculativeCaches$Core" "transaction" "I" "SpeculativeCaches",
  Cond.fieldLinkNest RX2 199 "SpeculativeCaches$Core" "transaction" "I" "SpeculativeCaches",
  Cond.fieldLinkNest RX2 144 "SpeculativeCaches$Core" "keptNumber" "I" "SpeculativeCaches",
  Cond.fieldLinkNest RX5 184 "SpeculativeCaches$Core" "readSet" "I" "SpeculativeCaches",
  Cond.fieldLinkNest RX1 48 "SpeculativeCaches$Core" "writeSet" "I" "SpeculativeCaches",
  Cond.fieldLinkNest RX2 80 "SpeculativeCaches$Core" "writeSet" "I" "SpeculativeCaches",
  Cond.fieldLinkNest RX5 181 "SpeculativeCaches$Core" "writeSet" "I" "SpeculativeCaches",
  Cond.fieldLinkNest RX1 42 "SpeculativeCaches$Core" "firstReads" "I" "SpeculativeCaches",
  Cond.fieldLinkNest RX1 45 "SpeculativeCaches$Core" "firstValues" "[I" "SpeculativeCaches",
  Cond.fieldLinkNest RX2 157 "SpeculativeCaches$Core" "commitsDone" "I" "SpeculativeCaches",
  Cond.fieldLinkNest RX2 119 "SpeculativeCaches$Core" "aborts" "I" "SpeculativeCaches",
  Cond.fieldLinkNest RX2 50 "SpeculativeCaches$Log" "count" "I" "SpeculativeCaches",
  Cond.fieldLinkNest RX5 67 "SpeculativeCaches$Log" "count" "I" "SpeculativeCaches",
  Cond.fieldLinkNest RX5 102 "SpeculativeCaches$Machine" "cores" "[LSpeculativeCaches$Core;" "SpeculativeCaches",
  Cond.fieldLinkNest RX5 178 "SpeculativeCaches$Machine" "memoryValues" "[I" "SpeculativeCaches",
  Cond.fieldLinkNest RX5 193 "SpeculativeCaches$Machine" "counters" "[I" "SpeculativeCaches",
  Cond.fieldLinkNest RX5 63 "SpeculativeCaches$Machine" "log" "LSpeculativeCaches$Log;" "SpeculativeCaches",
  Cond.fieldLinkNest RX5 234 "SpeculativeCaches$Machine" "coreCount" "I" "SpeculativeCaches",
  Cond.fieldLinkNest RX5 78 "SpeculativeCaches$Machine" "policy" "I" "SpeculativeCaches",
  Cond.fieldLinkNest RX5 84 "SpeculativeCaches$Machine" "schedulerNumber" "I" "SpeculativeCaches",
  Cond.methodLinkNest RX5 19 yX4_init "SpeculativeCaches",
  Cond.methodLinkNest RX4 11 yX3_init "SpeculativeCaches",
  Cond.methodLinkNest RX5 26 yX2_init "SpeculativeCaches",
  Cond.methodLinkNest RX2 17 yX0_init "SpeculativeCaches",
  Cond.methodLinkNest RX0 20 yX3_init "SpeculativeCaches",
  Cond.methodLinkNest RX2 27 yX1_init "SpeculativeCaches",
  Cond.methodLinkNest RX5 224 yX2_copyFrom "SpeculativeCaches",
  Cond.methodLinkNest RX2 56 yX0_copyFrom "SpeculativeCaches",
  Cond.methodLinkNest RX0 59 yX3_copyFrom "SpeculativeCaches",
  Cond.methodLinkNest RX2 66 yX1_copyFrom "SpeculativeCaches",
  Cond.methodLinkNest RX5 72 yX2_startAnew "SpeculativeCaches",
  Cond.methodLinkNest RX2 53 yX0_clear "SpeculativeCaches",
  Cond.methodLinkNest RX5 94 yX2_hasCore "SpeculativeCaches",
  Cond.methodLinkNest RX5 106 yX0_inTransaction "SpeculativeCaches",
  Cond.methodLinkNest RX5 114 yX4_readText "SpeculativeCaches",
  Cond.methodLinkNest RX4 57 yX3_isFull "SpeculativeCaches",
  Cond.methodLinkNest RX4 65 yX5_isLine "SpeculativeCaches",
  Cond.methodLinkNest RX4 68 yX3_addInstruction "SpeculativeCaches",
  Cond.methodLinkNest RX5 122 yX0_takeProgram "SpeculativeCaches",
  Cond.methodLinkNest RX5 132 yX0_isFinished "SpeculativeCaches",
  Cond.methodLinkNest RX5 142 yX2_stepCore "SpeculativeCaches",
  Cond.methodLinkNest RX2 73 yX0_isFinished "SpeculativeCaches",
  Cond.methodLinkNest RX2 141 yX0_inTransaction "SpeculativeCaches",
  Cond.methodLinkNest RX2 147 yX0_beginTransaction "SpeculativeCaches",
  Cond.methodLinkNest RX2 150 yX1_addTransaction "SpeculativeCaches",
  Cond.methodLinkNest RX1 58 yX5_contains "SpeculativeCaches",
  Cond.methodLinkNest RX2 154 yX0_endTransaction "SpeculativeCaches",
  Cond.methodLinkNest RX2 160 yX5_isLine "SpeculativeCaches",
  Cond.methodLinkNest RX2 191 yX0_isHurtBy "SpeculativeCaches",
  Cond.methodLinkNest RX0 78 yX5_contains "SpeculativeCaches",
  Cond.methodLinkNest RX2 177 yX0_rollBack "SpeculativeCaches",
  Cond.methodLinkNest RX2 171 yX0_noteRead "SpeculativeCaches",
  Cond.methodLinkNest RX2 174 yX0_hasNoRoomFor "SpeculativeCaches",
  Cond.methodLinkNest RX2 83 yX5_contains "SpeculativeCaches",
  Cond.methodLinkNest RX2 187 yX1_addWrite "SpeculativeCaches",
  Cond.methodLinkNest RX5 151 yX2_stepOften "SpeculativeCaches",
  Cond.methodLinkNest RX5 154 yX2_finishedCores "SpeculativeCaches",
  Cond.methodLinkNest RX5 163 yX2_writeFromOutside "SpeculativeCaches",
  Cond.methodLinkNest RX5 189 yX0_fact "SpeculativeCaches",
  Cond.methodLinkNest RX5 192 yX2_fact "SpeculativeCaches",
  Cond.methodLinkNest RX5 175 yX2_committedValue "SpeculativeCaches",
  Cond.methodLinkNest RX5 196 yX1_hasEntry "SpeculativeCaches",
  Cond.methodLinkNest RX5 201 yX1_fact "SpeculativeCaches",
  Cond.methodLinkNest RX5 205 yX1_lineValue "SpeculativeCaches",
  Cond.methodLinkNest RX5 209 yX1_replaysOn "SpeculativeCaches",
  Cond.methodLinkNest RX5 216 yX2_stepsUntilFinished "SpeculativeCaches",
  Cond.methodLinkNest RX5 219 yX2_abortsSoFar "SpeculativeCaches"]
theorem nk_RX2_122 : Cond.fieldLinkNest RX2 122 "SpeculativeCaches$Program" "kinds" "[I" "SpeculativeCaches" ∈ NWs := List.mem_of_getElem? (i := 0) rfl
theorem nk_RX2_108 : Cond.fieldLinkNest RX2 108 "SpeculativeCaches$Program" "operands" "[I" "SpeculativeCaches" ∈ NWs := List.mem_of_getElem? (i := 1) rfl
theorem nk_RX4_35 : Cond.fieldLinkNest RX4 35 "SpeculativeCaches$Program" "length" "I" "SpeculativeCaches" ∈ NWs := List.mem_of_getElem? (i := 2) rfl
theorem nk_RX0_35 : Cond.fieldLinkNest RX0 35 "SpeculativeCaches$Program" "length" "I" "SpeculativeCaches" ∈ NWs := List.mem_of_getElem? (i := 3) rfl
theorem nk_RX5_127 : Cond.fieldLinkNest RX5 127 "SpeculativeCaches$Program" "length" "I" "SpeculativeCaches" ∈ NWs := List.mem_of_getElem? (i := 4) rfl
theorem nk_RX5_118 : Cond.fieldLinkNest RX5 118 "SpeculativeCaches$ProgramReader" "program" "LSpeculativeCaches$Program;" "SpeculativeCaches" ∈ NWs := List.mem_of_getElem? (i := 5) rfl
theorem nk_RX2_77 : Cond.fieldLinkNest RX2 77 "SpeculativeCaches$Core" "lineStates" "[I" "SpeculativeCaches" ∈ NWs := List.mem_of_getElem? (i := 6) rfl
theorem nk_RX5_169 : Cond.fieldLinkNest RX5 169 "SpeculativeCaches$Core" "lineStates" "[I" "SpeculativeCaches" ∈ NWs := List.mem_of_getElem? (i := 7) rfl
theorem nk_RX1_51 : Cond.fieldLinkNest RX1 51 "SpeculativeCaches$Core" "lineValues" "[I" "SpeculativeCaches" ∈ NWs := List.mem_of_getElem? (i := 8) rfl
theorem nk_RX2_87 : Cond.fieldLinkNest RX2 87 "SpeculativeCaches$Core" "lineValues" "[I" "SpeculativeCaches" ∈ NWs := List.mem_of_getElem? (i := 9) rfl
theorem nk_RX5_172 : Cond.fieldLinkNest RX5 172 "SpeculativeCaches$Core" "lineValues" "[I" "SpeculativeCaches" ∈ NWs := List.mem_of_getElem? (i := 10) rfl
theorem nk_RX5_126 : Cond.fieldLinkNest RX5 126 "SpeculativeCaches$Core" "program" "LSpeculativeCaches$Program;" "SpeculativeCaches" ∈ NWs := List.mem_of_getElem? (i := 11) rfl
theorem nk_RX2_104 : Cond.fieldLinkNest RX2 104 "SpeculativeCaches$Core" "program" "LSpeculativeCaches$Program;" "SpeculativeCaches" ∈ NWs := List.mem_of_getElem? (i := 12) rfl
theorem nk_RX5_137 : Cond.fieldLinkNest RX5 137 "SpeculativeCaches$Core" "position" "I" "SpeculativeCaches" ∈ NWs := List.mem_of_getElem? (i := 13) rfl
theorem nk_RX2_113 : Cond.fieldLinkNest RX2 113 "SpeculativeCaches$Core" "position" "I" "SpeculativeCaches" ∈ NWs := List.mem_of_getElem? (i := 14) rfl
theorem nk_RX2_138 : Cond.fieldLinkNest RX2 138 "SpeculativeCaches$Core" "accumulator" "I" "SpeculativeCaches" ∈ NWs := List.mem_of_getElem? (i := 15) rfl
theorem nk_RX1_37 : Cond.fieldLinkNest RX1 37 "SpeculativeCaches$Core" "transaction" "I" "SpeculativeCaches" ∈ NWs := List.mem_of_getElem? (i := 16) rfl
theorem nk_RX2_199 : Cond.fieldLinkNest RX2 199 "SpeculativeCaches$Core" "transaction" "I" "SpeculativeCaches" ∈ NWs := List.mem_of_getElem? (i := 17) rfl
theorem nk_RX2_144 : Cond.fieldLinkNest RX2 144 "SpeculativeCaches$Core" "keptNumber" "I" "SpeculativeCaches" ∈ NWs := List.mem_of_getElem? (i := 18) rfl
theorem nk_RX5_184 : Cond.fieldLinkNest RX5 184 "SpeculativeCaches$Core" "readSet" "I" "SpeculativeCaches" ∈ NWs := List.mem_of_getElem? (i := 19) rfl
theorem nk_RX1_48 : Cond.fieldLinkNest RX1 48 "SpeculativeCaches$Core" "writeSet" "I" "SpeculativeCaches" ∈ NWs := List.mem_of_getElem? (i := 20) rfl
theorem nk_RX2_80 : Cond.fieldLinkNest RX2 80 "SpeculativeCaches$Core" "writeSet" "I" "SpeculativeCaches" ∈ NWs := List.mem_of_getElem? (i := 21) rfl
theorem nk_RX5_181 : Cond.fieldLinkNest RX5 181 "SpeculativeCaches$Core" "writeSet" "I" "SpeculativeCaches" ∈ NWs := List.mem_of_getElem? (i := 22) rfl
theorem nk_RX1_42 : Cond.fieldLinkNest RX1 42 "SpeculativeCaches$Core" "firstReads" "I" "SpeculativeCaches" ∈ NWs := List.mem_of_getElem? (i := 23) rfl
theorem nk_RX1_45 : Cond.fieldLinkNest RX1 45 "SpeculativeCaches$Core" "firstValues" "[I" "SpeculativeCaches" ∈ NWs := List.mem_of_getElem? (i := 24) rfl
theorem nk_RX2_157 : Cond.fieldLinkNest RX2 157 "SpeculativeCaches$Core" "commitsDone" "I" "SpeculativeCaches" ∈ NWs := List.mem_of_getElem? (i := 25) rfl
theorem nk_RX2_119 : Cond.fieldLinkNest RX2 119 "SpeculativeCaches$Core" "aborts" "I" "SpeculativeCaches" ∈ NWs := List.mem_of_getElem? (i := 26) rfl
theorem nk_RX2_50 : Cond.fieldLinkNest RX2 50 "SpeculativeCaches$Log" "count" "I" "SpeculativeCaches" ∈ NWs := List.mem_of_getElem? (i := 27) rfl
theorem nk_RX5_67 : Cond.fieldLinkNest RX5 67 "SpeculativeCaches$Log" "count" "I" "SpeculativeCaches" ∈ NWs := List.mem_of_getElem? (i := 28) rfl
theorem nk_RX5_102 : Cond.fieldLinkNest RX5 102 "SpeculativeCaches$Machine" "cores" "[LSpeculativeCaches$Core;" "SpeculativeCaches" ∈ NWs := List.mem_of_getElem? (i := 29) rfl
theorem nk_RX5_178 : Cond.fieldLinkNest RX5 178 "SpeculativeCaches$Machine" "memoryValues" "[I" "SpeculativeCaches" ∈ NWs := List.mem_of_getElem? (i := 30) rfl
theorem nk_RX5_193 : Cond.fieldLinkNest RX5 193 "SpeculativeCaches$Machine" "counters" "[I" "SpeculativeCaches" ∈ NWs := List.mem_of_getElem? (i := 31) rfl
theorem nk_RX5_63 : Cond.fieldLinkNest RX5 63 "SpeculativeCaches$Machine" "log" "LSpeculativeCaches$Log;" "SpeculativeCaches" ∈ NWs := List.mem_of_getElem? (i := 32) rfl
theorem nk_RX5_234 : Cond.fieldLinkNest RX5 234 "SpeculativeCaches$Machine" "coreCount" "I" "SpeculativeCaches" ∈ NWs := List.mem_of_getElem? (i := 33) rfl
theorem nk_RX5_78 : Cond.fieldLinkNest RX5 78 "SpeculativeCaches$Machine" "policy" "I" "SpeculativeCaches" ∈ NWs := List.mem_of_getElem? (i := 34) rfl
theorem nk_RX5_84 : Cond.fieldLinkNest RX5 84 "SpeculativeCaches$Machine" "schedulerNumber" "I" "SpeculativeCaches" ∈ NWs := List.mem_of_getElem? (i := 35) rfl
theorem nk_RX5_19 : Cond.methodLinkNest RX5 19 yX4_init "SpeculativeCaches" ∈ NWs := List.mem_of_getElem? (i := 36) rfl
theorem nk_RX4_11 : Cond.methodLinkNest RX4 11 yX3_init "SpeculativeCaches" ∈ NWs := List.mem_of_getElem? (i := 37) rfl
theorem nk_RX5_26 : Cond.methodLinkNest RX5 26 yX2_init "SpeculativeCaches" ∈ NWs := List.mem_of_getElem? (i := 38) rfl
theorem nk_RX2_17 : Cond.methodLinkNest RX2 17 yX0_init "SpeculativeCaches" ∈ NWs := List.mem_of_getElem? (i := 39) rfl
theorem nk_RX0_20 : Cond.methodLinkNest RX0 20 yX3_init "SpeculativeCaches" ∈ NWs := List.mem_of_getElem? (i := 40) rfl
theorem nk_RX2_27 : Cond.methodLinkNest RX2 27 yX1_init "SpeculativeCaches" ∈ NWs := List.mem_of_getElem? (i := 41) rfl
theorem nk_RX5_224 : Cond.methodLinkNest RX5 224 yX2_copyFrom "SpeculativeCaches" ∈ NWs := List.mem_of_getElem? (i := 42) rfl
theorem nk_RX2_56 : Cond.methodLinkNest RX2 56 yX0_copyFrom "SpeculativeCaches" ∈ NWs := List.mem_of_getElem? (i := 43) rfl
theorem nk_RX0_59 : Cond.methodLinkNest RX0 59 yX3_copyFrom "SpeculativeCaches" ∈ NWs := List.mem_of_getElem? (i := 44) rfl
theorem nk_RX2_66 : Cond.methodLinkNest RX2 66 yX1_copyFrom "SpeculativeCaches" ∈ NWs := List.mem_of_getElem? (i := 45) rfl
theorem nk_RX5_72 : Cond.methodLinkNest RX5 72 yX2_startAnew "SpeculativeCaches" ∈ NWs := List.mem_of_getElem? (i := 46) rfl
theorem nk_RX2_53 : Cond.methodLinkNest RX2 53 yX0_clear "SpeculativeCaches" ∈ NWs := List.mem_of_getElem? (i := 47) rfl
theorem nk_RX5_94 : Cond.methodLinkNest RX5 94 yX2_hasCore "SpeculativeCaches" ∈ NWs := List.mem_of_getElem? (i := 48) rfl
theorem nk_RX5_106 : Cond.methodLinkNest RX5 106 yX0_inTransaction "SpeculativeCaches" ∈ NWs := List.mem_of_getElem? (i := 49) rfl
theorem nk_RX5_114 : Cond.methodLinkNest RX5 114 yX4_readText "SpeculativeCaches" ∈ NWs := List.mem_of_getElem? (i := 50) rfl
theorem nk_RX4_57 : Cond.methodLinkNest RX4 57 yX3_isFull "SpeculativeCaches" ∈ NWs := List.mem_of_getElem? (i := 51) rfl
theorem nk_RX4_65 : Cond.methodLinkNest RX4 65 yX5_isLine "SpeculativeCaches" ∈ NWs := List.mem_of_getElem? (i := 52) rfl
theorem nk_RX4_68 : Cond.methodLinkNest RX4 68 yX3_addInstruction "SpeculativeCaches" ∈ NWs := List.mem_of_getElem? (i := 53) rfl
theorem nk_RX5_122 : Cond.methodLinkNest RX5 122 yX0_takeProgram "SpeculativeCaches" ∈ NWs := List.mem_of_getElem? (i := 54) rfl
theorem nk_RX5_132 : Cond.methodLinkNest RX5 132 yX0_isFinished "SpeculativeCaches" ∈ NWs := List.mem_of_getElem? (i := 55) rfl
theorem nk_RX5_142 : Cond.methodLinkNest RX5 142 yX2_stepCore "SpeculativeCaches" ∈ NWs := List.mem_of_getElem? (i := 56) rfl
theorem nk_RX2_73 : Cond.methodLinkNest RX2 73 yX0_isFinished "SpeculativeCaches" ∈ NWs := List.mem_of_getElem? (i := 57) rfl
theorem nk_RX2_141 : Cond.methodLinkNest RX2 141 yX0_inTransaction "SpeculativeCaches" ∈ NWs := List.mem_of_getElem? (i := 58) rfl
theorem nk_RX2_147 : Cond.methodLinkNest RX2 147 yX0_beginTransaction "SpeculativeCaches" ∈ NWs := List.mem_of_getElem? (i := 59) rfl
theorem nk_RX2_150 : Cond.methodLinkNest RX2 150 yX1_addTransaction "SpeculativeCaches" ∈ NWs := List.mem_of_getElem? (i := 60) rfl
theorem nk_RX1_58 : Cond.methodLinkNest RX1 58 yX5_contains "SpeculativeCaches" ∈ NWs := List.mem_of_getElem? (i := 61) rfl
theorem nk_RX2_154 : Cond.methodLinkNest RX2 154 yX0_endTransaction "SpeculativeCaches" ∈ NWs := List.mem_of_getElem? (i := 62) rfl
theorem nk_RX2_160 : Cond.methodLinkNest RX2 160 yX5_isLine "SpeculativeCaches" ∈ NWs := List.mem_of_getElem? (i := 63) rfl
theorem nk_RX2_191 : Cond.methodLinkNest RX2 191 yX0_isHurtBy "SpeculativeCaches" ∈ NWs := List.mem_of_getElem? (i := 64) rfl
theorem nk_RX0_78 : Cond.methodLinkNest RX0 78 yX5_contains "SpeculativeCaches" ∈ NWs := List.mem_of_getElem? (i := 65) rfl
theorem nk_RX2_177 : Cond.methodLinkNest RX2 177 yX0_rollBack "SpeculativeCaches" ∈ NWs := List.mem_of_getElem? (i := 66) rfl
theorem nk_RX2_171 : Cond.methodLinkNest RX2 171 yX0_noteRead "SpeculativeCaches" ∈ NWs := List.mem_of_getElem? (i := 67) rfl
theorem nk_RX2_174 : Cond.methodLinkNest RX2 174 yX0_hasNoRoomFor "SpeculativeCaches" ∈ NWs := List.mem_of_getElem? (i := 68) rfl
theorem nk_RX2_83 : Cond.methodLinkNest RX2 83 yX5_contains "SpeculativeCaches" ∈ NWs := List.mem_of_getElem? (i := 69) rfl
theorem nk_RX2_187 : Cond.methodLinkNest RX2 187 yX1_addWrite "SpeculativeCaches" ∈ NWs := List.mem_of_getElem? (i := 70) rfl
theorem nk_RX5_151 : Cond.methodLinkNest RX5 151 yX2_stepOften "SpeculativeCaches" ∈ NWs := List.mem_of_getElem? (i := 71) rfl
theorem nk_RX5_154 : Cond.methodLinkNest RX5 154 yX2_finishedCores "SpeculativeCaches" ∈ NWs := List.mem_of_getElem? (i := 72) rfl
theorem nk_RX5_163 : Cond.methodLinkNest RX5 163 yX2_writeFromOutside "SpeculativeCaches" ∈ NWs := List.mem_of_getElem? (i := 73) rfl
theorem nk_RX5_189 : Cond.methodLinkNest RX5 189 yX0_fact "SpeculativeCaches" ∈ NWs := List.mem_of_getElem? (i := 74) rfl
theorem nk_RX5_192 : Cond.methodLinkNest RX5 192 yX2_fact "SpeculativeCaches" ∈ NWs := List.mem_of_getElem? (i := 75) rfl
theorem nk_RX5_175 : Cond.methodLinkNest RX5 175 yX2_committedValue "SpeculativeCaches" ∈ NWs := List.mem_of_getElem? (i := 76) rfl
theorem nk_RX5_196 : Cond.methodLinkNest RX5 196 yX1_hasEntry "SpeculativeCaches" ∈ NWs := List.mem_of_getElem? (i := 77) rfl
theorem nk_RX5_201 : Cond.methodLinkNest RX5 201 yX1_fact "SpeculativeCaches" ∈ NWs := List.mem_of_getElem? (i := 78) rfl
theorem nk_RX5_205 : Cond.methodLinkNest RX5 205 yX1_lineValue "SpeculativeCaches" ∈ NWs := List.mem_of_getElem? (i := 79) rfl
theorem nk_RX5_209 : Cond.methodLinkNest RX5 209 yX1_replaysOn "SpeculativeCaches" ∈ NWs := List.mem_of_getElem? (i := 80) rfl
theorem nk_RX5_216 : Cond.methodLinkNest RX5 216 yX2_stepsUntilFinished "SpeculativeCaches" ∈ NWs := List.mem_of_getElem? (i := 81) rfl
theorem nk_RX5_219 : Cond.methodLinkNest RX5 219 yX2_abortsSoFar "SpeculativeCaches" ∈ NWs := List.mem_of_getElem? (i := 82) rfl
def isNest : Cond → Bool
  | .fieldLinkNest _ _ _ _ _ _ => true
  | .methodLinkNest _ _ _ _ => true
  | _ => false
theorem NWs_nest : NWs.all isNest = true := by decide +kernel
theorem nest_of {w : Cond} (h : isNest w = true) : (∃ a i b n d h, w = .fieldLinkNest a i b n d h) ∨ ∃ a i x h, w = .methodLinkNest a i x h := by
  cases w <;> first | exact Or.inl ⟨_, _, _, _, _, _, rfl⟩ | exact Or.inr ⟨_, _, _, _, rfl⟩ | cases h
def hNW (U : State) : Prop := ∀ w ∈ NWs, va_Nw w U
theorem hNW.warm {s U : State} (hW : s.WarmedH U.vm) (h : hNW s) : hNW U := fun w hw => by
  rcases nest_of (List.all_eq_true.mp NWs_nest w hw) with ⟨a, i, b, n, d, k, rfl⟩ | ⟨a, i, x, k, rfl⟩
  · exact va_Nw.warmF hW (h _ hw)
  · exact va_Nw.warmM hW (h _ hw)
theorem hNW.same {s U : State} (hv : s.vm = U.vm) (h : hNW s) : hNW U := fun w hw => by
  rcases nest_of (List.all_eq_true.mp NWs_nest w hw) with ⟨a, i, b, n, d, k, rfl⟩ | ⟨a, i, x, k, rfl⟩
  · exact va_Nw.same rfl hv (h _ hw)
  · exact va_Nw.same rfl hv (h _ hw)
theorem mc_X0_init : Cond.code yX0_init cX0_init 1 none ∈ wsL_law := List.mem_of_getElem? (i := 64) (by decide +kernel)
theorem mi_X0_init : Cond.instanceMethod yX0_init ∈ wsL_law := List.mem_of_getElem? (i := 63) (by decide +kernel)
theorem md_X0_init : yX0_init.cls = RX0 ∧ yX0_init.cls ≠ "java/lang/invoke/MethodHandle" ∧ yX0_init.cls ≠ "java/lang/invoke/VarHandle" ∧ (parseMethodDescriptor yX0_init.desc).map (fun d => d.parameters.length) = some 0 := by decide +kernel
theorem mc_X0_clear : Cond.code yX0_clear cX0_clear 2 none ∈ wsL_law := List.mem_of_getElem? (i := 277) (by decide +kernel)
theorem mi_X0_clear : Cond.instanceMethod yX0_clear ∈ wsL_law := List.mem_of_getElem? (i := 275) (by decide +kernel)
theorem ms_X0_clear : Cond.selects RX0 yX0_clear yX0_clear ∈ wsL_law := List.mem_of_getElem? (i := 276) (by decide +kernel)
theorem md_X0_clear : yX0_clear.cls = RX0 ∧ yX0_clear.cls ≠ "java/lang/invoke/MethodHandle" ∧ yX0_clear.cls ≠ "java/lang/invoke/VarHandle" ∧ (parseMethodDescriptor yX0_clear.desc).map (fun d => d.parameters.length) = some 0 := by decide +kernel
theorem mc_X0_copyFrom : Cond.code yX0_copyFrom cX0_copyFrom 2 none ∈ wsL_law := List.mem_of_getElem? (i := 253) (by decide +kernel)
theorem mi_X0_copyFrom : Cond.instanceMethod yX0_copyFrom ∈ wsL_law := List.mem_of_getElem? (i := 251) (by decide +kernel)
theorem ms_X0_copyFrom : Cond.selects RX0 yX0_copyFrom yX0_copyFrom ∈ wsL_law := List.mem_of_getElem? (i := 252) (by decide +kernel)
theorem md_X0_copyFrom : yX0_copyFrom.cls = RX0 ∧ yX0_copyFrom.cls ≠ "java/lang/invoke/MethodHandle" ∧ yX0_copyFrom.cls ≠ "java/lang/invoke/VarHandle" ∧ (parseMethodDescriptor yX0_copyFrom.desc).map (fun d => d.parameters.length) = some 1 := by decide +kernel
theorem mc_X0_takeProgram : Cond.code yX0_takeProgram cX0_takeProgram 2 none ∈ wsL_law := List.mem_of_getElem? (i := 371) (by decide +kernel)
theorem mi_X0_takeProgram : Cond.instanceMethod yX0_takeProgram ∈ wsL_law := List.mem_of_getElem? (i := 369) (by decide +kernel)
theorem ms_X0_takeProgram : Cond.selects RX0 yX0_takeProgram yX0_takeProgram ∈ wsL_law := List.mem_of_getElem? (i := 370) (by decide +kernel)
theorem md_X0_takeProgram : yX0_takeProgram.cls = RX0 ∧ yX0_takeProgram.cls ≠ "java/lang/invoke/MethodHandle" ∧ yX0_takeProgram.cls ≠ "java/lang/invoke/VarHandle" ∧ (parseMethodDescriptor yX0_takeProgram.desc).map (fun d => d.parameters.length) = some 1 := by decide +kernel
theorem mc_X0_isFinished : Cond.code yX0_isFinished cX0_isFinished 1 (some .boolean) ∈ wsL_law := List.mem_of_getElem? (i := 116) (by decide +kernel)
theorem mi_X0_isFinished : Cond.instanceMethod yX0_isFinished ∈ wsL_law := List.mem_of_getElem? (i := 114) (by decide +kernel)
theorem ms_X0_isFinished : Cond.selects RX0 yX0_isFinished yX0_isFinished ∈ wsL_law := List.mem_of_getElem? (i := 115) (by decide +kernel)
theorem md_X0_isFinished : yX0_isFinished.cls = RX0 ∧ yX0_isFinished.cls ≠ "java/lang/invoke/MethodHandle" ∧ yX0_isFinished.cls ≠ "java/lang/invoke/VarHandle" ∧ (parseMethodDescriptor yX0_isFinished.desc).map (fun d => d.parameters.length) = some 0 := by decide +kernel
theorem mc_X0_inTransaction : Cond.code yX0_inTransaction cX0_inTransaction 1 (some .boolean) ∈ wsL_law := List.mem_of_getElem? (i := 330) (by decide +kernel)
theorem mi_X0_inTransaction : Cond.instanceMethod yX0_inTransaction ∈ wsL_law := List.mem_of_getElem? (i := 328) (by decide +kernel)
theorem ms_X0_inTransaction : Cond.selects RX0 yX0_inTransaction yX0_inTransaction ∈ wsL_law := List.mem_of_getElem? (i := 329) (by decide +kernel)
theorem md_X0_inTransaction : yX0_inTransaction.cls = RX0 ∧ yX0_inTransaction.cls ≠ "java/lang/invoke/MethodHandle" ∧ yX0_inTransaction.cls ≠ "java/lang/invoke/VarHandle" ∧ (parseMethodDescriptor yX0_inTransaction.desc).map (fun d => d.parameters.length) = some 0 := by decide +kernel
theorem mc_X0_beginTransaction : Cond.code yX0_beginTransaction cX0_beginTransaction 2 none ∈ wsL_law := List.mem_of_getElem? (i := 399) (by decide +kernel)
theorem mi_X0_beginTransaction : Cond.instanceMethod yX0_beginTransaction ∈ wsL_law := List.mem_of_getElem? (i := 397) (by decide +kernel)
theorem ms_X0_beginTransaction : Cond.selects RX0 yX0_beginTransaction yX0_beginTransaction ∈ wsL_law := List.mem_of_getElem? (i := 398) (by decide +kernel)
theorem md_X0_beginTransaction : yX0_beginTransaction.cls = RX0 ∧ yX0_beginTransaction.cls ≠ "java/lang/invoke/MethodHandle" ∧ yX0_beginTransaction.cls ≠ "java/lang/invoke/VarHandle" ∧ (parseMethodDescriptor yX0_beginTransaction.desc).map (fun d => d.parameters.length) = some 1 := by decide +kernel
theorem mc_X0_endTransaction : Cond.code yX0_endTransaction cX0_endTransaction 1 none ∈ wsL_law := List.mem_of_getElem? (i := 281) (by decide +kernel)
theorem mi_X0_endTransaction : Cond.instanceMethod yX0_endTransaction ∈ wsL_law := List.mem_of_getElem? (i := 279) (by decide +kernel)
theorem ms_X0_endTransaction : Cond.selects RX0 yX0_endTransaction yX0_endTransaction ∈ wsL_law := List.mem_of_getElem? (i := 280) (by decide +kernel)
theorem md_X0_endTransaction : yX0_endTransaction.cls = RX0 ∧ yX0_endTransaction.cls ≠ "java/lang/invoke/MethodHandle" ∧ yX0_endTransaction.cls ≠ "java/lang/invoke/VarHandle" ∧ (parseMethodDescriptor yX0_endTransaction.desc).map (fun d => d.parameters.length) = some 0 := by decide +kernel
theorem mc_X0_rollBack : Cond.code yX0_rollBack cX0_rollBack 2 none ∈ wsL_law := List.mem_of_getElem? (i := 428) (by decide +kernel)
theorem mi_X0_rollBack : Cond.instanceMethod yX0_rollBack ∈ wsL_law := List.mem_of_getElem? (i := 426) (by decide +kernel)
theorem ms_X0_rollBack : Cond.selects RX0 yX0_rollBack yX0_rollBack ∈ wsL_law := List.mem_of_getElem? (i := 427) (by decide +kernel)
theorem md_X0_rollBack : yX0_rollBack.cls = RX0 ∧ yX0_rollBack.cls ≠ "java/lang/invoke/MethodHandle" ∧ yX0_rollBack.cls ≠ "java/lang/invoke/VarHandle" ∧ (parseMethodDescriptor yX0_rollBack.desc).map (fun d => d.parameters.length) = some 0 := by decide +kernel
theorem mc_X0_isHurtBy : Cond.code yX0_isHurtBy cX0_isHurtBy 3 (some .boolean) ∈ wsL_law := List.mem_of_getElem? (i := 421) (by decide +kernel)
theorem mi_X0_isHurtBy : Cond.instanceMethod yX0_isHurtBy ∈ wsL_law := List.mem_of_getElem? (i := 419) (by decide +kernel)
theorem ms_X0_isHurtBy : Cond.selects RX0 yX0_isHurtBy yX0_isHurtBy ∈ wsL_law := List.mem_of_getElem? (i := 420) (by decide +kernel)
theorem md_X0_isHurtBy : yX0_isHurtBy.cls = RX0 ∧ yX0_isHurtBy.cls ≠ "java/lang/invoke/MethodHandle" ∧ yX0_isHurtBy.cls ≠ "java/lang/invoke/VarHandle" ∧ (parseMethodDescriptor yX0_isHurtBy.desc).map (fun d => d.parameters.length) = some 2 := by decide +kernel
theorem mc_X0_hasNoRoomFor : Cond.code yX0_hasNoRoomFor cX0_hasNoRoomFor 3 (some .boolean) ∈ wsL_law := List.mem_of_getElem? (i := 447) (by decide +kernel)
theorem mi_X0_hasNoRoomFor : Cond.instanceMethod yX0_hasNoRoomFor ∈ wsL_law := List.mem_of_getElem? (i := 445) (by decide +kernel)
theorem ms_X0_hasNoRoomFor : Cond.selects RX0 yX0_hasNoRoomFor yX0_hasNoRoomFor ∈ wsL_law := List.mem_of_getElem? (i := 446) (by decide +kernel)
theorem md_X0_hasNoRoomFor : yX0_hasNoRoomFor.cls = RX0 ∧ yX0_hasNoRoomFor.cls ≠ "java/lang/invoke/MethodHandle" ∧ yX0_hasNoRoomFor.cls ≠ "java/lang/invoke/VarHandle" ∧ (parseMethodDescriptor yX0_hasNoRoomFor.desc).map (fun d => d.parameters.length) = some 2 := by decide +kernel
theorem mc_X0_noteRead : Cond.code yX0_noteRead cX0_noteRead 2 none ∈ wsL_law := List.mem_of_getElem? (i := 439) (by decide +kernel)
theorem mi_X0_noteRead : Cond.instanceMethod yX0_noteRead ∈ wsL_law := List.mem_of_getElem? (i := 437) (by decide +kernel)
theorem ms_X0_noteRead : Cond.selects RX0 yX0_noteRead yX0_noteRead ∈ wsL_law := List.mem_of_getElem? (i := 438) (by decide +kernel)
theorem md_X0_noteRead : yX0_noteRead.cls = RX0 ∧ yX0_noteRead.cls ≠ "java/lang/invoke/MethodHandle" ∧ yX0_noteRead.cls ≠ "java/lang/invoke/VarHandle" ∧ (parseMethodDescriptor yX0_noteRead.desc).map (fun d => d.parameters.length) = some 1 := by decide +kernel
theorem mc_X0_fact : Cond.code yX0_fact cX0_fact 2 (some .int) ∈ wsL_law := List.mem_of_getElem? (i := 170) (by decide +kernel)
theorem mi_X0_fact : Cond.instanceMethod yX0_fact ∈ wsL_law := List.mem_of_getElem? (i := 168) (by decide +kernel)
theorem ms_X0_fact : Cond.selects RX0 yX0_fact yX0_fact ∈ wsL_law := List.mem_of_getElem? (i := 169) (by decide +kernel)
theorem md_X0_fact : yX0_fact.cls = RX0 ∧ yX0_fact.cls ≠ "java/lang/invoke/MethodHandle" ∧ yX0_fact.cls ≠ "java/lang/invoke/VarHandle" ∧ (parseMethodDescriptor yX0_fact.desc).map (fun d => d.parameters.length) = some 1 := by decide +kernel
theorem mc_X1_init : Cond.code yX1_init cX1_init 2 none ∈ wsL_law := List.mem_of_getElem? (i := 74) (by decide +kernel)
theorem mi_X1_init : Cond.instanceMethod yX1_init ∈ wsL_law := List.mem_of_getElem? (i := 73) (by decide +kernel)
theorem md_X1_init : yX1_init.cls = RX1 ∧ yX1_init.cls ≠ "java/lang/invoke/MethodHandle" ∧ yX1_init.cls ≠ "java/lang/invoke/VarHandle" ∧ (parseMethodDescriptor yX1_init.desc).map (fun d => d.parameters.length) = some 1 := by decide +kernel
theorem mc_X1_hasEntry : Cond.code yX1_hasEntry cX1_hasEntry 2 (some .boolean) ∈ wsL_law := List.mem_of_getElem? (i := 200) (by decide +kernel)
theorem mi_X1_hasEntry : Cond.instanceMethod yX1_hasEntry ∈ wsL_law := List.mem_of_getElem? (i := 198) (by decide +kernel)
theorem ms_X1_hasEntry : Cond.selects RX1 yX1_hasEntry yX1_hasEntry ∈ wsL_law := List.mem_of_getElem? (i := 199) (by decide +kernel)
theorem md_X1_hasEntry : yX1_hasEntry.cls = RX1 ∧ yX1_hasEntry.cls ≠ "java/lang/invoke/MethodHandle" ∧ yX1_hasEntry.cls ≠ "java/lang/invoke/VarHandle" ∧ (parseMethodDescriptor yX1_hasEntry.desc).map (fun d => d.parameters.length) = some 1 := by decide +kernel
theorem mc_X1_addTransaction : Cond.code yX1_addTransaction cX1_addTransaction 3 none ∈ wsL_law := List.mem_of_getElem? (i := 406) (by decide +kernel)
theorem mi_X1_addTransaction : Cond.instanceMethod yX1_addTransaction ∈ wsL_law := List.mem_of_getElem? (i := 404) (by decide +kernel)
theorem ms_X1_addTransaction : Cond.selects RX1 yX1_addTransaction yX1_addTransaction ∈ wsL_law := List.mem_of_getElem? (i := 405) (by decide +kernel)
theorem md_X1_addTransaction : yX1_addTransaction.cls = RX1 ∧ yX1_addTransaction.cls ≠ "java/lang/invoke/MethodHandle" ∧ yX1_addTransaction.cls ≠ "java/lang/invoke/VarHandle" ∧ (parseMethodDescriptor yX1_addTransaction.desc).map (fun d => d.parameters.length) = some 2 := by decide +kernel
theorem mc_X1_addWrite : Cond.code yX1_addWrite cX1_addWrite 4 none ∈ wsL_law := List.mem_of_getElem? (i := 461) (by decide +kernel)
theorem mi_X1_addWrite : Cond.instanceMethod yX1_addWrite ∈ wsL_law := List.mem_of_getElem? (i := 459) (by decide +kernel)
theorem ms_X1_addWrite : Cond.selects RX1 yX1_addWrite yX1_addWrite ∈ wsL_law := List.mem_of_getElem? (i := 460) (by decide +kernel)
theorem md_X1_addWrite : yX1_addWrite.cls = RX1 ∧ yX1_addWrite.cls ≠ "java/lang/invoke/MethodHandle" ∧ yX1_addWrite.cls ≠ "java/lang/invoke/VarHandle" ∧ (parseMethodDescriptor yX1_addWrite.desc).map (fun d => d.parameters.length) = some 3 := by decide +kernel
theorem mc_X1_addEntry : Cond.code yX1_addEntry cX1_addEntry 8 none ∈ wsL_law := List.mem_of_getElem? (i := 410) (by decide +kernel)
theorem mi_X1_addEntry : Cond.instanceMethod yX1_addEntry ∈ wsL_law := List.mem_of_getElem? (i := 408) (by decide +kernel)
theorem ms_X1_addEntry : Cond.selects RX1 yX1_addEntry yX1_addEntry ∈ wsL_law := List.mem_of_getElem? (i := 409) (by decide +kernel)
theorem md_X1_addEntry : yX1_addEntry.cls = RX1 ∧ yX1_addEntry.cls ≠ "java/lang/invoke/MethodHandle" ∧ yX1_addEntry.cls ≠ "java/lang/invoke/VarHandle" ∧ (parseMethodDescriptor yX1_addEntry.desc).map (fun d => d.parameters.length) = some 6 := by decide +kernel
theorem mc_X1_fact : Cond.code yX1_fact cX1_fact 3 (some .int) ∈ wsL_law := List.mem_of_getElem? (i := 203) (by decide +kernel)
theorem mi_X1_fact : Cond.instanceMethod yX1_fact ∈ wsL_law := List.mem_of_getElem? (i := 201) (by decide +kernel)
theorem ms_X1_fact : Cond.selects RX1 yX1_fact yX1_fact ∈ wsL_law := List.mem_of_getElem? (i := 202) (by decide +kernel)
theorem md_X1_fact : yX1_fact.cls = RX1 ∧ yX1_fact.cls ≠ "java/lang/invoke/MethodHandle" ∧ yX1_fact.cls ≠ "java/lang/invoke/VarHandle" ∧ (parseMethodDescriptor yX1_fact.desc).map (fun d => d.parameters.length) = some 2 := by decide +kernel
theorem mc_X1_lineValue : Cond.code yX1_lineValue cX1_lineValue 4 (some .int) ∈ wsL_law := List.mem_of_getElem? (i := 213) (by decide +kernel)
theorem mi_X1_lineValue : Cond.instanceMethod yX1_lineValue ∈ wsL_law := List.mem_of_getElem? (i := 211) (by decide +kernel)
theorem ms_X1_lineValue : Cond.selects RX1 yX1_lineValue yX1_lineValue ∈ wsL_law := List.mem_of_getElem? (i := 212) (by decide +kernel)
theorem md_X1_lineValue : yX1_lineValue.cls = RX1 ∧ yX1_lineValue.cls ≠ "java/lang/invoke/MethodHandle" ∧ yX1_lineValue.cls ≠ "java/lang/invoke/VarHandle" ∧ (parseMethodDescriptor yX1_lineValue.desc).map (fun d => d.parameters.length) = some 3 := by decide +kernel
theorem mc_X1_replaysOn : Cond.code yX1_replaysOn cX1_replaysOn 3 (some .boolean) ∈ wsL_law := List.mem_of_getElem? (i := 220) (by decide +kernel)
theorem mi_X1_replaysOn : Cond.instanceMethod yX1_replaysOn ∈ wsL_law := List.mem_of_getElem? (i := 218) (by decide +kernel)
theorem ms_X1_replaysOn : Cond.selects RX1 yX1_replaysOn yX1_replaysOn ∈ wsL_law := List.mem_of_getElem? (i := 219) (by decide +kernel)
theorem md_X1_replaysOn : yX1_replaysOn.cls = RX1 ∧ yX1_replaysOn.cls ≠ "java/lang/invoke/MethodHandle" ∧ yX1_replaysOn.cls ≠ "java/lang/invoke/VarHandle" ∧ (parseMethodDescriptor yX1_replaysOn.desc).map (fun d => d.parameters.length) = some 1 := by decide +kernel
theorem mc_X1_readsMatch : Cond.code yX1_readsMatch cX1_readsMatch 4 (some .boolean) ∈ wsL_law := List.mem_of_getElem? (i := 224) (by decide +kernel)
theorem mi_X1_readsMatch : Cond.instanceMethod yX1_readsMatch ∈ wsL_law := List.mem_of_getElem? (i := 222) (by decide +kernel)
theorem ms_X1_readsMatch : Cond.selects RX1 yX1_readsMatch yX1_readsMatch ∈ wsL_law := List.mem_of_getElem? (i := 223) (by decide +kernel)
theorem md_X1_readsMatch : yX1_readsMatch.cls = RX1 ∧ yX1_readsMatch.cls ≠ "java/lang/invoke/MethodHandle" ∧ yX1_readsMatch.cls ≠ "java/lang/invoke/VarHandle" ∧ (parseMethodDescriptor yX1_readsMatch.desc).map (fun d => d.parameters.length) = some 2 := by decide +kernel
theorem mc_X1_applyWrites : Cond.code yX1_applyWrites cX1_applyWrites 4 none ∈ wsL_law := List.mem_of_getElem? (i := 229) (by decide +kernel)
theorem mi_X1_applyWrites : Cond.instanceMethod yX1_applyWrites ∈ wsL_law := List.mem_of_getElem? (i := 227) (by decide +kernel)
theorem ms_X1_applyWrites : Cond.selects RX1 yX1_applyWrites yX1_applyWrites ∈ wsL_law := List.mem_of_getElem? (i := 228) (by decide +kernel)
theorem md_X1_applyWrites : yX1_applyWrites.cls = RX1 ∧ yX1_applyWrites.cls ≠ "java/lang/invoke/MethodHandle" ∧ yX1_applyWrites.cls ≠ "java/lang/invoke/VarHandle" ∧ (parseMethodDescriptor yX1_applyWrites.desc).map (fun d => d.parameters.length) = some 2 := by decide +kernel
theorem mc_X1_copyFrom : Cond.code yX1_copyFrom cX1_copyFrom 3 none ∈ wsL_law := List.mem_of_getElem? (i := 266) (by decide +kernel)
theorem mi_X1_copyFrom : Cond.instanceMethod yX1_copyFrom ∈ wsL_law := List.mem_of_getElem? (i := 264) (by decide +kernel)
theorem ms_X1_copyFrom : Cond.selects RX1 yX1_copyFrom yX1_copyFrom ∈ wsL_law := List.mem_of_getElem? (i := 265) (by decide +kernel)
theorem md_X1_copyFrom : yX1_copyFrom.cls = RX1 ∧ yX1_copyFrom.cls ≠ "java/lang/invoke/MethodHandle" ∧ yX1_copyFrom.cls ≠ "java/lang/invoke/VarHandle" ∧ (parseMethodDescriptor yX1_copyFrom.desc).map (fun d => d.parameters.length) = some 1 := by decide +kernel
theorem mc_X2_init : Cond.code yX2_init cX2_init 3 none ∈ wsL_law := List.mem_of_getElem? (i := 46) (by decide +kernel)
theorem mi_X2_init : Cond.instanceMethod yX2_init ∈ wsL_law := List.mem_of_getElem? (i := 45) (by decide +kernel)
theorem md_X2_init : yX2_init.cls = RX2 ∧ yX2_init.cls ≠ "java/lang/invoke/MethodHandle" ∧ yX2_init.cls ≠ "java/lang/invoke/VarHandle" ∧ (parseMethodDescriptor yX2_init.desc).map (fun d => d.parameters.length) = some 1 := by decide +kernel
theorem mc_X2_startAnew : Cond.code yX2_startAnew cX2_startAnew 5 none ∈ wsL_law := List.mem_of_getElem? (i := 274) (by decide +kernel)
theorem mi_X2_startAnew : Cond.instanceMethod yX2_startAnew ∈ wsL_law := List.mem_of_getElem? (i := 272) (by decide +kernel)
theorem ms_X2_startAnew : Cond.selects RX2 yX2_startAnew yX2_startAnew ∈ wsL_law := List.mem_of_getElem? (i := 273) (by decide +kernel)
theorem md_X2_startAnew : yX2_startAnew.cls = RX2 ∧ yX2_startAnew.cls ≠ "java/lang/invoke/MethodHandle" ∧ yX2_startAnew.cls ≠ "java/lang/invoke/VarHandle" ∧ (parseMethodDescriptor yX2_startAnew.desc).map (fun d => d.parameters.length) = some 3 := by decide +kernel
theorem mc_X2_copyFrom : Cond.code yX2_copyFrom cX2_copyFrom 3 none ∈ wsL_law := List.mem_of_getElem? (i := 246) (by decide +kernel)
theorem mi_X2_copyFrom : Cond.instanceMethod yX2_copyFrom ∈ wsL_law := List.mem_of_getElem? (i := 244) (by decide +kernel)
theorem ms_X2_copyFrom : Cond.selects RX2 yX2_copyFrom yX2_copyFrom ∈ wsL_law := List.mem_of_getElem? (i := 245) (by decide +kernel)
theorem md_X2_copyFrom : yX2_copyFrom.cls = RX2 ∧ yX2_copyFrom.cls ≠ "java/lang/invoke/MethodHandle" ∧ yX2_copyFrom.cls ≠ "java/lang/invoke/VarHandle" ∧ (parseMethodDescriptor yX2_copyFrom.desc).map (fun d => d.parameters.length) = some 1 := by decide +kernel
theorem mc_X2_hasCore : Cond.code yX2_hasCore cX2_hasCore 2 (some .boolean) ∈ wsL_law := List.mem_of_getElem? (i := 146) (by decide +kernel)
theorem mi_X2_hasCore : Cond.instanceMethod yX2_hasCore ∈ wsL_law := List.mem_of_getElem? (i := 144) (by decide +kernel)
theorem ms_X2_hasCore : Cond.selects RX2 yX2_hasCore yX2_hasCore ∈ wsL_law := List.mem_of_getElem? (i := 145) (by decide +kernel)
theorem md_X2_hasCore : yX2_hasCore.cls = RX2 ∧ yX2_hasCore.cls ≠ "java/lang/invoke/MethodHandle" ∧ yX2_hasCore.cls ≠ "java/lang/invoke/VarHandle" ∧ (parseMethodDescriptor yX2_hasCore.desc).map (fun d => d.parameters.length) = some 1 := by decide +kernel
theorem mc_X2_fact : Cond.code yX2_fact cX2_fact 2 (some .int) ∈ wsL_law := List.mem_of_getElem? (i := 109) (by decide +kernel)
theorem mi_X2_fact : Cond.instanceMethod yX2_fact ∈ wsL_law := List.mem_of_getElem? (i := 107) (by decide +kernel)
theorem ms_X2_fact : Cond.selects RX2 yX2_fact yX2_fact ∈ wsL_law := List.mem_of_getElem? (i := 108) (by decide +kernel)
theorem md_X2_fact : yX2_fact.cls = RX2 ∧ yX2_fact.cls ≠ "java/lang/invoke/MethodHandle" ∧ yX2_fact.cls ≠ "java/lang/invoke/VarHandle" ∧ (parseMethodDescriptor yX2_fact.desc).map (fun d => d.parameters.length) = some 1 := by decide +kernel
theorem mc_X2_finishedCores : Cond.code yX2_finishedCores cX2_finishedCores 3 (some .int) ∈ wsL_law := List.mem_of_getElem? (i := 113) (by decide +kernel)
theorem mi_X2_finishedCores : Cond.instanceMethod yX2_finishedCores ∈ wsL_law := List.mem_of_getElem? (i := 111) (by decide +kernel)
theorem ms_X2_finishedCores : Cond.selects RX2 yX2_finishedCores yX2_finishedCores ∈ wsL_law := List.mem_of_getElem? (i := 112) (by decide +kernel)
theorem md_X2_finishedCores : yX2_finishedCores.cls = RX2 ∧ yX2_finishedCores.cls ≠ "java/lang/invoke/MethodHandle" ∧ yX2_finishedCores.cls ≠ "java/lang/invoke/VarHandle" ∧ (parseMethodDescriptor yX2_finishedCores.desc).map (fun d => d.parameters.length) = some 0 := by decide +kernel
theorem mc_X2_abortsSoFar : Cond.code yX2_abortsSoFar cX2_abortsSoFar 1 (some .int) ∈ wsL_law := List.mem_of_getElem? (i := 392) (by decide +kernel)
theorem mi_X2_abortsSoFar : Cond.instanceMethod yX2_abortsSoFar ∈ wsL_law := List.mem_of_getElem? (i := 390) (by decide +kernel)
theorem ms_X2_abortsSoFar : Cond.selects RX2 yX2_abortsSoFar yX2_abortsSoFar ∈ wsL_law := List.mem_of_getElem? (i := 391) (by decide +kernel)
theorem md_X2_abortsSoFar : yX2_abortsSoFar.cls = RX2 ∧ yX2_abortsSoFar.cls ≠ "java/lang/invoke/MethodHandle" ∧ yX2_abortsSoFar.cls ≠ "java/lang/invoke/VarHandle" ∧ (parseMethodDescriptor yX2_abortsSoFar.desc).map (fun d => d.parameters.length) = some 0 := by decide +kernel
theorem mc_X2_committedValue : Cond.code yX2_committedValue cX2_committedValue 4 (some .int) ∈ wsL_law := List.mem_of_getElem? (i := 134) (by decide +kernel)
theorem mi_X2_committedValue : Cond.instanceMethod yX2_committedValue ∈ wsL_law := List.mem_of_getElem? (i := 132) (by decide +kernel)
theorem ms_X2_committedValue : Cond.selects RX2 yX2_committedValue yX2_committedValue ∈ wsL_law := List.mem_of_getElem? (i := 133) (by decide +kernel)
theorem md_X2_committedValue : yX2_committedValue.cls = RX2 ∧ yX2_committedValue.cls ≠ "java/lang/invoke/MethodHandle" ∧ yX2_committedValue.cls ≠ "java/lang/invoke/VarHandle" ∧ (parseMethodDescriptor yX2_committedValue.desc).map (fun d => d.parameters.length) = some 1 := by decide +kernel
theorem mc_X2_stepOften : Cond.code yX2_stepOften cX2_stepOften 4 none ∈ wsL_law := List.mem_of_getElem? (i := 474) (by decide +kernel)
theorem mi_X2_stepOften : Cond.instanceMethod yX2_stepOften ∈ wsL_law := List.mem_of_getElem? (i := 472) (by decide +kernel)
theorem ms_X2_stepOften : Cond.selects RX2 yX2_stepOften yX2_stepOften ∈ wsL_law := List.mem_of_getElem? (i := 473) (by decide +kernel)
theorem md_X2_stepOften : yX2_stepOften.cls = RX2 ∧ yX2_stepOften.cls ≠ "java/lang/invoke/MethodHandle" ∧ yX2_stepOften.cls ≠ "java/lang/invoke/VarHandle" ∧ (parseMethodDescriptor yX2_stepOften.desc).map (fun d => d.parameters.length) = some 1 := by decide +kernel
theorem mc_X2_stepsUntilFinished : Cond.code yX2_stepsUntilFinished cX2_stepsUntilFinished 3 (some .int) ∈ wsL_law := List.mem_of_getElem? (i := 507) (by decide +kernel)
theorem mi_X2_stepsUntilFinished : Cond.instanceMethod yX2_stepsUntilFinished ∈ wsL_law := List.mem_of_getElem? (i := 505) (by decide +kernel)
theorem ms_X2_stepsUntilFinished : Cond.selects RX2 yX2_stepsUntilFinished yX2_stepsUntilFinished ∈ wsL_law := List.mem_of_getElem? (i := 506) (by decide +kernel)
theorem md_X2_stepsUntilFinished : yX2_stepsUntilFinished.cls = RX2 ∧ yX2_stepsUntilFinished.cls ≠ "java/lang/invoke/MethodHandle" ∧ yX2_stepsUntilFinished.cls ≠ "java/lang/invoke/VarHandle" ∧ (parseMethodDescriptor yX2_stepsUntilFinished.desc).map (fun d => d.parameters.length) = some 0 := by decide +kernel
theorem mc_X2_drawCore : Cond.code yX2_drawCore cX2_drawCore 4 (some .int) ∈ wsL_law := List.mem_of_getElem? (i := 478) (by decide +kernel)
theorem mi_X2_drawCore : Cond.instanceMethod yX2_drawCore ∈ wsL_law := List.mem_of_getElem? (i := 476) (by decide +kernel)
theorem ms_X2_drawCore : Cond.selects RX2 yX2_drawCore yX2_drawCore ∈ wsL_law := List.mem_of_getElem? (i := 477) (by decide +kernel)
theorem md_X2_drawCore : yX2_drawCore.cls = RX2 ∧ yX2_drawCore.cls ≠ "java/lang/invoke/MethodHandle" ∧ yX2_drawCore.cls ≠ "java/lang/invoke/VarHandle" ∧ (parseMethodDescriptor yX2_drawCore.desc).map (fun d => d.parameters.length) = some 0 := by decide +kernel
theorem mc_X2_stepCore : Cond.code yX2_stepCore cX2_stepCore 7 (some .int) ∈ wsL_law := List.mem_of_getElem? (i := 388) (by decide +kernel)
theorem mi_X2_stepCore : Cond.instanceMethod yX2_stepCore ∈ wsL_law := List.mem_of_getElem? (i := 386) (by decide +kernel)
theorem ms_X2_stepCore : Cond.selects RX2 yX2_stepCore yX2_stepCore ∈ wsL_law := List.mem_of_getElem? (i := 387) (by decide +kernel)
theorem md_X2_stepCore : yX2_stepCore.cls = RX2 ∧ yX2_stepCore.cls ≠ "java/lang/invoke/MethodHandle" ∧ yX2_stepCore.cls ≠ "java/lang/invoke/VarHandle" ∧ (parseMethodDescriptor yX2_stepCore.desc).map (fun d => d.parameters.length) = some 1 := by decide +kernel
theorem mc_X2_beginIn : Cond.code yX2_beginIn cX2_beginIn 2 none ∈ wsL_law := List.mem_of_getElem? (i := 396) (by decide +kernel)
theorem mi_X2_beginIn : Cond.instanceMethod yX2_beginIn ∈ wsL_law := List.mem_of_getElem? (i := 394) (by decide +kernel)
theorem ms_X2_beginIn : Cond.selects RX2 yX2_beginIn yX2_beginIn ∈ wsL_law := List.mem_of_getElem? (i := 395) (by decide +kernel)
theorem md_X2_beginIn : yX2_beginIn.cls = RX2 ∧ yX2_beginIn.cls ≠ "java/lang/invoke/MethodHandle" ∧ yX2_beginIn.cls ≠ "java/lang/invoke/VarHandle" ∧ (parseMethodDescriptor yX2_beginIn.desc).map (fun d => d.parameters.length) = some 1 := by decide +kernel
theorem mc_X2_commitIn : Cond.code yX2_commitIn cX2_commitIn 3 none ∈ wsL_law := List.mem_of_getElem? (i := 403) (by decide +kernel)
theorem mi_X2_commitIn : Cond.instanceMethod yX2_commitIn ∈ wsL_law := List.mem_of_getElem? (i := 401) (by decide +kernel)
theorem ms_X2_commitIn : Cond.selects RX2 yX2_commitIn yX2_commitIn ∈ wsL_law := List.mem_of_getElem? (i := 402) (by decide +kernel)
theorem md_X2_commitIn : yX2_commitIn.cls = RX2 ∧ yX2_commitIn.cls ≠ "java/lang/invoke/MethodHandle" ∧ yX2_commitIn.cls ≠ "java/lang/invoke/VarHandle" ∧ (parseMethodDescriptor yX2_commitIn.desc).map (fun d => d.parameters.length) = some 1 := by decide +kernel
theorem mc_X2_readLine : Cond.code yX2_readLine cX2_readLine 4 none ∈ wsL_law := List.mem_of_getElem? (i := 414) (by decide +kernel)
theorem mi_X2_readLine : Cond.instanceMethod yX2_readLine ∈ wsL_law := List.mem_of_getElem? (i := 412) (by decide +kernel)
theorem ms_X2_readLine : Cond.selects RX2 yX2_readLine yX2_readLine ∈ wsL_law := List.mem_of_getElem? (i := 413) (by decide +kernel)
theorem md_X2_readLine : yX2_readLine.cls = RX2 ∧ yX2_readLine.cls ≠ "java/lang/invoke/MethodHandle" ∧ yX2_readLine.cls ≠ "java/lang/invoke/VarHandle" ∧ (parseMethodDescriptor yX2_readLine.desc).map (fun d => d.parameters.length) = some 2 := by decide +kernel
theorem mc_X2_writeLine : Cond.code yX2_writeLine cX2_writeLine 4 none ∈ wsL_law := List.mem_of_getElem? (i := 444) (by decide +kernel)
theorem mi_X2_writeLine : Cond.instanceMethod yX2_writeLine ∈ wsL_law := List.mem_of_getElem? (i := 442) (by decide +kernel)
theorem ms_X2_writeLine : Cond.selects RX2 yX2_writeLine yX2_writeLine ∈ wsL_law := List.mem_of_getElem? (i := 443) (by decide +kernel)
theorem md_X2_writeLine : yX2_writeLine.cls = RX2 ∧ yX2_writeLine.cls ≠ "java/lang/invoke/MethodHandle" ∧ yX2_writeLine.cls ≠ "java/lang/invoke/VarHandle" ∧ (parseMethodDescriptor yX2_writeLine.desc).map (fun d => d.parameters.length) = some 2 := by decide +kernel
theorem mc_X2_takeOver : Cond.code yX2_takeOver cX2_takeOver 5 none ∈ wsL_law := List.mem_of_getElem? (i := 458) (by decide +kernel)
theorem mi_X2_takeOver : Cond.instanceMethod yX2_takeOver ∈ wsL_law := List.mem_of_getElem? (i := 456) (by decide +kernel)
theorem ms_X2_takeOver : Cond.selects RX2 yX2_takeOver yX2_takeOver ∈ wsL_law := List.mem_of_getElem? (i := 457) (by decide +kernel)
theorem md_X2_takeOver : yX2_takeOver.cls = RX2 ∧ yX2_takeOver.cls ≠ "java/lang/invoke/MethodHandle" ∧ yX2_takeOver.cls ≠ "java/lang/invoke/VarHandle" ∧ (parseMethodDescriptor yX2_takeOver.desc).map (fun d => d.parameters.length) = some 2 := by decide +kernel
theorem mc_X2_writeBackElsewhere : Cond.code yX2_writeBackElsewhere cX2_writeBackElsewhere 4 none ∈ wsL_law := List.mem_of_getElem? (i := 432) (by decide +kernel)
theorem mi_X2_writeBackElsewhere : Cond.instanceMethod yX2_writeBackElsewhere ∈ wsL_law := List.mem_of_getElem? (i := 430) (by decide +kernel)
theorem ms_X2_writeBackElsewhere : Cond.selects RX2 yX2_writeBackElsewhere yX2_writeBackElsewhere ∈ wsL_law := List.mem_of_getElem? (i := 431) (by decide +kernel)
theorem md_X2_writeBackElsewhere : yX2_writeBackElsewhere.cls = RX2 ∧ yX2_writeBackElsewhere.cls ≠ "java/lang/invoke/MethodHandle" ∧ yX2_writeBackElsewhere.cls ≠ "java/lang/invoke/VarHandle" ∧ (parseMethodDescriptor yX2_writeBackElsewhere.desc).map (fun d => d.parameters.length) = some 2 := by decide +kernel
theorem mc_X2_writeBack : Cond.code yX2_writeBack cX2_writeBack 3 none ∈ wsL_law := List.mem_of_getElem? (i := 436) (by decide +kernel)
theorem mi_X2_writeBack : Cond.instanceMethod yX2_writeBack ∈ wsL_law := List.mem_of_getElem? (i := 434) (by decide +kernel)
theorem ms_X2_writeBack : Cond.selects RX2 yX2_writeBack yX2_writeBack ∈ wsL_law := List.mem_of_getElem? (i := 435) (by decide +kernel)
theorem md_X2_writeBack : yX2_writeBack.cls = RX2 ∧ yX2_writeBack.cls ≠ "java/lang/invoke/MethodHandle" ∧ yX2_writeBack.cls ≠ "java/lang/invoke/VarHandle" ∧ (parseMethodDescriptor yX2_writeBack.desc).map (fun d => d.parameters.length) = some 2 := by decide +kernel
theorem mc_X2_winsConflicts : Cond.code yX2_winsConflicts cX2_winsConflicts 8 (some .boolean) ∈ wsL_law := List.mem_of_getElem? (i := 418) (by decide +kernel)
theorem mi_X2_winsConflicts : Cond.instanceMethod yX2_winsConflicts ∈ wsL_law := List.mem_of_getElem? (i := 416) (by decide +kernel)
theorem ms_X2_winsConflicts : Cond.selects RX2 yX2_winsConflicts yX2_winsConflicts ∈ wsL_law := List.mem_of_getElem? (i := 417) (by decide +kernel)
theorem md_X2_winsConflicts : yX2_winsConflicts.cls = RX2 ∧ yX2_winsConflicts.cls ≠ "java/lang/invoke/MethodHandle" ∧ yX2_winsConflicts.cls ≠ "java/lang/invoke/VarHandle" ∧ (parseMethodDescriptor yX2_winsConflicts.desc).map (fun d => d.parameters.length) = some 3 := by decide +kernel
theorem mc_X2_winsAgainst : Cond.code yX2_winsAgainst cX2_winsAgainst 3 (some .boolean) ∈ wsL_law := List.mem_of_getElem? (i := 425) (by decide +kernel)
theorem mi_X2_winsAgainst : Cond.instanceMethod yX2_winsAgainst ∈ wsL_law := List.mem_of_getElem? (i := 423) (by decide +kernel)
theorem ms_X2_winsAgainst : Cond.selects RX2 yX2_winsAgainst yX2_winsAgainst ∈ wsL_law := List.mem_of_getElem? (i := 424) (by decide +kernel)
theorem md_X2_winsAgainst : yX2_winsAgainst.cls = RX2 ∧ yX2_winsAgainst.cls ≠ "java/lang/invoke/MethodHandle" ∧ yX2_winsAgainst.cls ≠ "java/lang/invoke/VarHandle" ∧ (parseMethodDescriptor yX2_winsAgainst.desc).map (fun d => d.parameters.length) = some 2 := by decide +kernel
theorem mc_X2_writeFromOutside : Cond.code yX2_writeFromOutside cX2_writeFromOutside 5 (some .int) ∈ wsL_law := List.mem_of_getElem? (i := 493) (by decide +kernel)
theorem mi_X2_writeFromOutside : Cond.instanceMethod yX2_writeFromOutside ∈ wsL_law := List.mem_of_getElem? (i := 491) (by decide +kernel)
theorem ms_X2_writeFromOutside : Cond.selects RX2 yX2_writeFromOutside yX2_writeFromOutside ∈ wsL_law := List.mem_of_getElem? (i := 492) (by decide +kernel)
theorem md_X2_writeFromOutside : yX2_writeFromOutside.cls = RX2 ∧ yX2_writeFromOutside.cls ≠ "java/lang/invoke/MethodHandle" ∧ yX2_writeFromOutside.cls ≠ "java/lang/invoke/VarHandle" ∧ (parseMethodDescriptor yX2_writeFromOutside.desc).map (fun d => d.parameters.length) = some 2 := by decide +kernel
theorem mc_X3_init : Cond.code yX3_init cX3_init 1 none ∈ wsL_law := List.mem_of_getElem? (i := 40) (by decide +kernel)
theorem mi_X3_init : Cond.instanceMethod yX3_init ∈ wsL_law := List.mem_of_getElem? (i := 39) (by decide +kernel)
theorem md_X3_init : yX3_init.cls = RX3 ∧ yX3_init.cls ≠ "java/lang/invoke/MethodHandle" ∧ yX3_init.cls ≠ "java/lang/invoke/VarHandle" ∧ (parseMethodDescriptor yX3_init.desc).map (fun d => d.parameters.length) = some 0 := by decide +kernel
theorem mc_X3_isFull : Cond.code yX3_isFull cX3_isFull 1 (some .boolean) ∈ wsL_law := List.mem_of_getElem? (i := 344) (by decide +kernel)
theorem mi_X3_isFull : Cond.instanceMethod yX3_isFull ∈ wsL_law := List.mem_of_getElem? (i := 342) (by decide +kernel)
theorem ms_X3_isFull : Cond.selects RX3 yX3_isFull yX3_isFull ∈ wsL_law := List.mem_of_getElem? (i := 343) (by decide +kernel)
theorem md_X3_isFull : yX3_isFull.cls = RX3 ∧ yX3_isFull.cls ≠ "java/lang/invoke/MethodHandle" ∧ yX3_isFull.cls ≠ "java/lang/invoke/VarHandle" ∧ (parseMethodDescriptor yX3_isFull.desc).map (fun d => d.parameters.length) = some 0 := by decide +kernel
theorem mc_X3_addInstruction : Cond.code yX3_addInstruction cX3_addInstruction 3 none ∈ wsL_law := List.mem_of_getElem? (i := 367) (by decide +kernel)
theorem mi_X3_addInstruction : Cond.instanceMethod yX3_addInstruction ∈ wsL_law := List.mem_of_getElem? (i := 365) (by decide +kernel)
theorem ms_X3_addInstruction : Cond.selects RX3 yX3_addInstruction yX3_addInstruction ∈ wsL_law := List.mem_of_getElem? (i := 366) (by decide +kernel)
theorem md_X3_addInstruction : yX3_addInstruction.cls = RX3 ∧ yX3_addInstruction.cls ≠ "java/lang/invoke/MethodHandle" ∧ yX3_addInstruction.cls ≠ "java/lang/invoke/VarHandle" ∧ (parseMethodDescriptor yX3_addInstruction.desc).map (fun d => d.parameters.length) = some 2 := by decide +kernel
theorem mc_X3_copyFrom : Cond.code yX3_copyFrom cX3_copyFrom 2 none ∈ wsL_law := List.mem_of_getElem? (i := 262) (by decide +kernel)
theorem mi_X3_copyFrom : Cond.instanceMethod yX3_copyFrom ∈ wsL_law := List.mem_of_getElem? (i := 260) (by decide +kernel)
theorem ms_X3_copyFrom : Cond.selects RX3 yX3_copyFrom yX3_copyFrom ∈ wsL_law := List.mem_of_getElem? (i := 261) (by decide +kernel)
theorem md_X3_copyFrom : yX3_copyFrom.cls = RX3 ∧ yX3_copyFrom.cls ≠ "java/lang/invoke/MethodHandle" ∧ yX3_copyFrom.cls ≠ "java/lang/invoke/VarHandle" ∧ (parseMethodDescriptor yX3_copyFrom.desc).map (fun d => d.parameters.length) = some 1 := by decide +kernel
theorem mc_X4_init : Cond.code yX4_init cX4_init 1 none ∈ wsL_law := List.mem_of_getElem? (i := 28) (by decide +kernel)
theorem mi_X4_init : Cond.instanceMethod yX4_init ∈ wsL_law := List.mem_of_getElem? (i := 27) (by decide +kernel)
theorem md_X4_init : yX4_init.cls = RX4 ∧ yX4_init.cls ≠ "java/lang/invoke/MethodHandle" ∧ yX4_init.cls ≠ "java/lang/invoke/VarHandle" ∧ (parseMethodDescriptor yX4_init.desc).map (fun d => d.parameters.length) = some 0 := by decide +kernel
theorem mc_X4_readText : Cond.code yX4_readText cX4_readText 4 (some .int) ∈ wsL_law := List.mem_of_getElem? (i := 333) (by decide +kernel)
theorem mi_X4_readText : Cond.instanceMethod yX4_readText ∈ wsL_law := List.mem_of_getElem? (i := 331) (by decide +kernel)
theorem ms_X4_readText : Cond.selects RX4 yX4_readText yX4_readText ∈ wsL_law := List.mem_of_getElem? (i := 332) (by decide +kernel)
theorem md_X4_readText : yX4_readText.cls = RX4 ∧ yX4_readText.cls ≠ "java/lang/invoke/MethodHandle" ∧ yX4_readText.cls ≠ "java/lang/invoke/VarHandle" ∧ (parseMethodDescriptor yX4_readText.desc).map (fun d => d.parameters.length) = some 2 := by decide +kernel
theorem mc_X4_accepts : Cond.code yX4_accepts cX4_accepts 2 (some .boolean) ∈ wsL_law := List.mem_of_getElem? (i := 337) (by decide +kernel)
theorem mi_X4_accepts : Cond.instanceMethod yX4_accepts ∈ wsL_law := List.mem_of_getElem? (i := 335) (by decide +kernel)
theorem ms_X4_accepts : Cond.selects RX4 yX4_accepts yX4_accepts ∈ wsL_law := List.mem_of_getElem? (i := 336) (by decide +kernel)
theorem md_X4_accepts : yX4_accepts.cls = RX4 ∧ yX4_accepts.cls ≠ "java/lang/invoke/MethodHandle" ∧ yX4_accepts.cls ≠ "java/lang/invoke/VarHandle" ∧ (parseMethodDescriptor yX4_accepts.desc).map (fun d => d.parameters.length) = some 1 := by decide +kernel
theorem mc_X4_acceptsInstruction : Cond.code yX4_acceptsInstruction cX4_acceptsInstruction 2 (some .boolean) ∈ wsL_law := List.mem_of_getElem? (i := 341) (by decide +kernel)
theorem mi_X4_acceptsInstruction : Cond.instanceMethod yX4_acceptsInstruction ∈ wsL_law := List.mem_of_getElem? (i := 339) (by decide +kernel)
theorem ms_X4_acceptsInstruction : Cond.selects RX4 yX4_acceptsInstruction yX4_acceptsInstruction ∈ wsL_law := List.mem_of_getElem? (i := 340) (by decide +kernel)
theorem md_X4_acceptsInstruction : yX4_acceptsInstruction.cls = RX4 ∧ yX4_acceptsInstruction.cls ≠ "java/lang/invoke/MethodHandle" ∧ yX4_acceptsInstruction.cls ≠ "java/lang/invoke/VarHandle" ∧ (parseMethodDescriptor yX4_acceptsInstruction.desc).map (fun d => d.parameters.length) = some 1 := by decide +kernel
theorem mc_X4_expect : Cond.code yX4_expect cX4_expect 3 (some .boolean) ∈ wsL_law := List.mem_of_getElem? (i := 348) (by decide +kernel)
theorem mi_X4_expect : Cond.instanceMethod yX4_expect ∈ wsL_law := List.mem_of_getElem? (i := 346) (by decide +kernel)
theorem ms_X4_expect : Cond.selects RX4 yX4_expect yX4_expect ∈ wsL_law := List.mem_of_getElem? (i := 347) (by decide +kernel)
theorem md_X4_expect : yX4_expect.cls = RX4 ∧ yX4_expect.cls ≠ "java/lang/invoke/MethodHandle" ∧ yX4_expect.cls ≠ "java/lang/invoke/VarHandle" ∧ (parseMethodDescriptor yX4_expect.desc).map (fun d => d.parameters.length) = some 2 := by decide +kernel
theorem mc_X4_acceptsLine : Cond.code yX4_acceptsLine cX4_acceptsLine 2 (some .boolean) ∈ wsL_law := List.mem_of_getElem? (i := 352) (by decide +kernel)
theorem mi_X4_acceptsLine : Cond.instanceMethod yX4_acceptsLine ∈ wsL_law := List.mem_of_getElem? (i := 350) (by decide +kernel)
theorem ms_X4_acceptsLine : Cond.selects RX4 yX4_acceptsLine yX4_acceptsLine ∈ wsL_law := List.mem_of_getElem? (i := 351) (by decide +kernel)
theorem md_X4_acceptsLine : yX4_acceptsLine.cls = RX4 ∧ yX4_acceptsLine.cls ≠ "java/lang/invoke/MethodHandle" ∧ yX4_acceptsLine.cls ≠ "java/lang/invoke/VarHandle" ∧ (parseMethodDescriptor yX4_acceptsLine.desc).map (fun d => d.parameters.length) = some 1 := by decide +kernel
theorem mc_X4_acceptsMinus : Cond.code yX4_acceptsMinus cX4_acceptsMinus 2 (some .boolean) ∈ wsL_law := List.mem_of_getElem? (i := 356) (by decide +kernel)
theorem mi_X4_acceptsMinus : Cond.instanceMethod yX4_acceptsMinus ∈ wsL_law := List.mem_of_getElem? (i := 354) (by decide +kernel)
theorem ms_X4_acceptsMinus : Cond.selects RX4 yX4_acceptsMinus yX4_acceptsMinus ∈ wsL_law := List.mem_of_getElem? (i := 355) (by decide +kernel)
theorem md_X4_acceptsMinus : yX4_acceptsMinus.cls = RX4 ∧ yX4_acceptsMinus.cls ≠ "java/lang/invoke/MethodHandle" ∧ yX4_acceptsMinus.cls ≠ "java/lang/invoke/VarHandle" ∧ (parseMethodDescriptor yX4_acceptsMinus.desc).map (fun d => d.parameters.length) = some 1 := by decide +kernel
theorem mc_X4_acceptsDigit : Cond.code yX4_acceptsDigit cX4_acceptsDigit 2 (some .boolean) ∈ wsL_law := List.mem_of_getElem? (i := 360) (by decide +kernel)
theorem mi_X4_acceptsDigit : Cond.instanceMethod yX4_acceptsDigit ∈ wsL_law := List.mem_of_getElem? (i := 358) (by decide +kernel)
theorem ms_X4_acceptsDigit : Cond.selects RX4 yX4_acceptsDigit yX4_acceptsDigit ∈ wsL_law := List.mem_of_getElem? (i := 359) (by decide +kernel)
theorem md_X4_acceptsDigit : yX4_acceptsDigit.cls = RX4 ∧ yX4_acceptsDigit.cls ≠ "java/lang/invoke/MethodHandle" ∧ yX4_acceptsDigit.cls ≠ "java/lang/invoke/VarHandle" ∧ (parseMethodDescriptor yX4_acceptsDigit.desc).map (fun d => d.parameters.length) = some 1 := by decide +kernel
theorem mc_X4_acceptsEnd : Cond.code yX4_acceptsEnd cX4_acceptsEnd 2 (some .boolean) ∈ wsL_law := List.mem_of_getElem? (i := 364) (by decide +kernel)
theorem mi_X4_acceptsEnd : Cond.instanceMethod yX4_acceptsEnd ∈ wsL_law := List.mem_of_getElem? (i := 362) (by decide +kernel)
theorem ms_X4_acceptsEnd : Cond.selects RX4 yX4_acceptsEnd yX4_acceptsEnd ∈ wsL_law := List.mem_of_getElem? (i := 363) (by decide +kernel)
theorem md_X4_acceptsEnd : yX4_acceptsEnd.cls = RX4 ∧ yX4_acceptsEnd.cls ≠ "java/lang/invoke/MethodHandle" ∧ yX4_acceptsEnd.cls ≠ "java/lang/invoke/VarHandle" ∧ (parseMethodDescriptor yX4_acceptsEnd.desc).map (fun d => d.parameters.length) = some 1 := by decide +kernel
theorem mc_X5_init : Cond.code yX5_init cX5_init 2 none ∈ wsL_law := List.mem_of_getElem? (i := 7) (by decide +kernel)
theorem mi_X5_init : Cond.instanceMethod yX5_init ∈ wsL_law := List.mem_of_getElem? (i := 6) (by decide +kernel)
theorem md_X5_init : yX5_init.cls = RX5 ∧ yX5_init.cls ≠ "java/lang/invoke/MethodHandle" ∧ yX5_init.cls ≠ "java/lang/invoke/VarHandle" ∧ (parseMethodDescriptor yX5_init.desc).map (fun d => d.parameters.length) = some 0 := by decide +kernel
theorem mc_X5_begin : Cond.code yX5_begin cX5_begin 5 (some .int) ∈ wsL_law := List.mem_of_getElem? (i := 236) (by decide +kernel)
theorem mi_X5_begin : Cond.instanceMethod yX5_begin ∈ wsL_law := List.mem_of_getElem? (i := 234) (by decide +kernel)
theorem ms_X5_begin : Cond.selects RX5 yX5_begin yX5_begin ∈ wsL_law := List.mem_of_getElem? (i := 235) (by decide +kernel)
theorem md_X5_begin : yX5_begin.cls = RX5 ∧ yX5_begin.cls ≠ "java/lang/invoke/MethodHandle" ∧ yX5_begin.cls ≠ "java/lang/invoke/VarHandle" ∧ (parseMethodDescriptor yX5_begin.desc).map (fun d => d.parameters.length) = some 3 := by decide +kernel
theorem mc_X5_setPolicy : Cond.code yX5_setPolicy cX5_setPolicy 3 (some .int) ∈ wsL_law := List.mem_of_getElem? (i := 317) (by decide +kernel)
theorem mi_X5_setPolicy : Cond.instanceMethod yX5_setPolicy ∈ wsL_law := List.mem_of_getElem? (i := 315) (by decide +kernel)
theorem ms_X5_setPolicy : Cond.selects RX5 yX5_setPolicy yX5_setPolicy ∈ wsL_law := List.mem_of_getElem? (i := 316) (by decide +kernel)
theorem md_X5_setPolicy : yX5_setPolicy.cls = RX5 ∧ yX5_setPolicy.cls ≠ "java/lang/invoke/MethodHandle" ∧ yX5_setPolicy.cls ≠ "java/lang/invoke/VarHandle" ∧ (parseMethodDescriptor yX5_setPolicy.desc).map (fun d => d.parameters.length) = some 1 := by decide +kernel
theorem mc_X5_seed : Cond.code yX5_seed cX5_seed 3 (some .int) ∈ wsL_law := List.mem_of_getElem? (i := 288) (by decide +kernel)
theorem mi_X5_seed : Cond.instanceMethod yX5_seed ∈ wsL_law := List.mem_of_getElem? (i := 286) (by decide +kernel)
theorem ms_X5_seed : Cond.selects RX5 yX5_seed yX5_seed ∈ wsL_law := List.mem_of_getElem? (i := 287) (by decide +kernel)
theorem md_X5_seed : yX5_seed.cls = RX5 ∧ yX5_seed.cls ≠ "java/lang/invoke/MethodHandle" ∧ yX5_seed.cls ≠ "java/lang/invoke/VarHandle" ∧ (parseMethodDescriptor yX5_seed.desc).map (fun d => d.parameters.length) = some 1 := by decide +kernel
theorem mc_X5_append : Cond.code yX5_append cX5_append 2 (some .int) ∈ wsL_law := List.mem_of_getElem? (i := 528) (by decide +kernel)
theorem mi_X5_append : Cond.instanceMethod yX5_append ∈ wsL_law := List.mem_of_getElem? (i := 526) (by decide +kernel)
theorem ms_X5_append : Cond.selects RX5 yX5_append yX5_append ∈ wsL_law := List.mem_of_getElem? (i := 527) (by decide +kernel)
theorem md_X5_append : yX5_append.cls = RX5 ∧ yX5_append.cls ≠ "java/lang/invoke/MethodHandle" ∧ yX5_append.cls ≠ "java/lang/invoke/VarHandle" ∧ (parseMethodDescriptor yX5_append.desc).map (fun d => d.parameters.length) = some 1 := by decide +kernel
theorem mc_X5_clearText : Cond.code yX5_clearText cX5_clearText 2 (some .int) ∈ wsL_law := List.mem_of_getElem? (i := 518) (by decide +kernel)
theorem mi_X5_clearText : Cond.instanceMethod yX5_clearText ∈ wsL_law := List.mem_of_getElem? (i := 516) (by decide +kernel)
theorem ms_X5_clearText : Cond.selects RX5 yX5_clearText yX5_clearText ∈ wsL_law := List.mem_of_getElem? (i := 517) (by decide +kernel)
theorem md_X5_clearText : yX5_clearText.cls = RX5 ∧ yX5_clearText.cls ≠ "java/lang/invoke/MethodHandle" ∧ yX5_clearText.cls ≠ "java/lang/invoke/VarHandle" ∧ (parseMethodDescriptor yX5_clearText.desc).map (fun d => d.parameters.length) = some 0 := by decide +kernel
theorem mc_X5_load : Cond.code yX5_load cX5_load 3 (some .int) ∈ wsL_law := List.mem_of_getElem? (i := 325) (by decide +kernel)
theorem mi_X5_load : Cond.instanceMethod yX5_load ∈ wsL_law := List.mem_of_getElem? (i := 323) (by decide +kernel)
theorem ms_X5_load : Cond.selects RX5 yX5_load yX5_load ∈ wsL_law := List.mem_of_getElem? (i := 324) (by decide +kernel)
theorem md_X5_load : yX5_load.cls = RX5 ∧ yX5_load.cls ≠ "java/lang/invoke/MethodHandle" ∧ yX5_load.cls ≠ "java/lang/invoke/VarHandle" ∧ (parseMethodDescriptor yX5_load.desc).map (fun d => d.parameters.length) = some 1 := by decide +kernel
theorem mc_X5_again : Cond.code yX5_again cX5_again 2 (some .int) ∈ wsL_law := List.mem_of_getElem? (i := 378) (by decide +kernel)
theorem mi_X5_again : Cond.instanceMethod yX5_again ∈ wsL_law := List.mem_of_getElem? (i := 376) (by decide +kernel)
theorem ms_X5_again : Cond.selects RX5 yX5_again yX5_again ∈ wsL_law := List.mem_of_getElem? (i := 377) (by decide +kernel)
theorem md_X5_again : yX5_again.cls = RX5 ∧ yX5_again.cls ≠ "java/lang/invoke/MethodHandle" ∧ yX5_again.cls ≠ "java/lang/invoke/VarHandle" ∧ (parseMethodDescriptor yX5_again.desc).map (fun d => d.parameters.length) = some 1 := by decide +kernel
theorem mc_X5_step : Cond.code yX5_step cX5_step 2 (some .int) ∈ wsL_law := List.mem_of_getElem? (i := 385) (by decide +kernel)
theorem mi_X5_step : Cond.instanceMethod yX5_step ∈ wsL_law := List.mem_of_getElem? (i := 383) (by decide +kernel)
theorem ms_X5_step : Cond.selects RX5 yX5_step yX5_step ∈ wsL_law := List.mem_of_getElem? (i := 384) (by decide +kernel)
theorem md_X5_step : yX5_step.cls = RX5 ∧ yX5_step.cls ≠ "java/lang/invoke/MethodHandle" ∧ yX5_step.cls ≠ "java/lang/invoke/VarHandle" ∧ (parseMethodDescriptor yX5_step.desc).map (fun d => d.parameters.length) = some 1 := by decide +kernel
theorem mc_X5_run : Cond.code yX5_run cX5_run 2 (some .int) ∈ wsL_law := List.mem_of_getElem? (i := 468) (by decide +kernel)
theorem mi_X5_run : Cond.instanceMethod yX5_run ∈ wsL_law := List.mem_of_getElem? (i := 466) (by decide +kernel)
theorem ms_X5_run : Cond.selects RX5 yX5_run yX5_run ∈ wsL_law := List.mem_of_getElem? (i := 467) (by decide +kernel)
theorem md_X5_run : yX5_run.cls = RX5 ∧ yX5_run.cls ≠ "java/lang/invoke/MethodHandle" ∧ yX5_run.cls ≠ "java/lang/invoke/VarHandle" ∧ (parseMethodDescriptor yX5_run.desc).map (fun d => d.parameters.length) = some 1 := by decide +kernel
theorem mc_X5_poke : Cond.code yX5_poke cX5_poke 3 (some .int) ∈ wsL_law := List.mem_of_getElem? (i := 490) (by decide +kernel)
theorem mi_X5_poke : Cond.instanceMethod yX5_poke ∈ wsL_law := List.mem_of_getElem? (i := 488) (by decide +kernel)
theorem ms_X5_poke : Cond.selects RX5 yX5_poke yX5_poke ∈ wsL_law := List.mem_of_getElem? (i := 489) (by decide +kernel)
theorem md_X5_poke : yX5_poke.cls = RX5 ∧ yX5_poke.cls ≠ "java/lang/invoke/MethodHandle" ∧ yX5_poke.cls ≠ "java/lang/invoke/VarHandle" ∧ (parseMethodDescriptor yX5_poke.desc).map (fun d => d.parameters.length) = some 2 := by decide +kernel
theorem mc_X5_state : Cond.code yX5_state cX5_state 3 (some .int) ∈ wsL_law := List.mem_of_getElem? (i := 143) (by decide +kernel)
theorem mi_X5_state : Cond.instanceMethod yX5_state ∈ wsL_law := List.mem_of_getElem? (i := 141) (by decide +kernel)
theorem ms_X5_state : Cond.selects RX5 yX5_state yX5_state ∈ wsL_law := List.mem_of_getElem? (i := 142) (by decide +kernel)
theorem md_X5_state : yX5_state.cls = RX5 ∧ yX5_state.cls ≠ "java/lang/invoke/MethodHandle" ∧ yX5_state.cls ≠ "java/lang/invoke/VarHandle" ∧ (parseMethodDescriptor yX5_state.desc).map (fun d => d.parameters.length) = some 2 := by decide +kernel
theorem mc_X5_cached : Cond.code yX5_cached cX5_cached 4 (some .int) ∈ wsL_law := List.mem_of_getElem? (i := 160) (by decide +kernel)
theorem mi_X5_cached : Cond.instanceMethod yX5_cached ∈ wsL_law := List.mem_of_getElem? (i := 158) (by decide +kernel)
theorem ms_X5_cached : Cond.selects RX5 yX5_cached yX5_cached ∈ wsL_law := List.mem_of_getElem? (i := 159) (by decide +kernel)
theorem md_X5_cached : yX5_cached.cls = RX5 ∧ yX5_cached.cls ≠ "java/lang/invoke/MethodHandle" ∧ yX5_cached.cls ≠ "java/lang/invoke/VarHandle" ∧ (parseMethodDescriptor yX5_cached.desc).map (fun d => d.parameters.length) = some 2 := by decide +kernel
theorem mc_X5_memory : Cond.code yX5_memory cX5_memory 3 (some .int) ∈ wsL_law := List.mem_of_getElem? (i := 126) (by decide +kernel)
theorem mi_X5_memory : Cond.instanceMethod yX5_memory ∈ wsL_law := List.mem_of_getElem? (i := 124) (by decide +kernel)
theorem ms_X5_memory : Cond.selects RX5 yX5_memory yX5_memory ∈ wsL_law := List.mem_of_getElem? (i := 125) (by decide +kernel)
theorem md_X5_memory : yX5_memory.cls = RX5 ∧ yX5_memory.cls ≠ "java/lang/invoke/MethodHandle" ∧ yX5_memory.cls ≠ "java/lang/invoke/VarHandle" ∧ (parseMethodDescriptor yX5_memory.desc).map (fun d => d.parameters.length) = some 2 := by decide +kernel
theorem mc_X5_set : Cond.code yX5_set cX5_set 3 (some .int) ∈ wsL_law := List.mem_of_getElem? (i := 153) (by decide +kernel)
theorem mi_X5_set : Cond.instanceMethod yX5_set ∈ wsL_law := List.mem_of_getElem? (i := 151) (by decide +kernel)
theorem ms_X5_set : Cond.selects RX5 yX5_set yX5_set ∈ wsL_law := List.mem_of_getElem? (i := 152) (by decide +kernel)
theorem md_X5_set : yX5_set.cls = RX5 ∧ yX5_set.cls ≠ "java/lang/invoke/MethodHandle" ∧ yX5_set.cls ≠ "java/lang/invoke/VarHandle" ∧ (parseMethodDescriptor yX5_set.desc).map (fun d => d.parameters.length) = some 2 := by decide +kernel
theorem mc_X5_core : Cond.code yX5_core cX5_core 3 (some .int) ∈ wsL_law := List.mem_of_getElem? (i := 167) (by decide +kernel)
theorem mi_X5_core : Cond.instanceMethod yX5_core ∈ wsL_law := List.mem_of_getElem? (i := 165) (by decide +kernel)
theorem ms_X5_core : Cond.selects RX5 yX5_core yX5_core ∈ wsL_law := List.mem_of_getElem? (i := 166) (by decide +kernel)
theorem md_X5_core : yX5_core.cls = RX5 ∧ yX5_core.cls ≠ "java/lang/invoke/MethodHandle" ∧ yX5_core.cls ≠ "java/lang/invoke/VarHandle" ∧ (parseMethodDescriptor yX5_core.desc).map (fun d => d.parameters.length) = some 2 := by decide +kernel
theorem mc_X5_value : Cond.code yX5_value cX5_value 2 (some .int) ∈ wsL_law := List.mem_of_getElem? (i := 104) (by decide +kernel)
theorem mi_X5_value : Cond.instanceMethod yX5_value ∈ wsL_law := List.mem_of_getElem? (i := 102) (by decide +kernel)
theorem ms_X5_value : Cond.selects RX5 yX5_value yX5_value ∈ wsL_law := List.mem_of_getElem? (i := 103) (by decide +kernel)
theorem md_X5_value : yX5_value.cls = RX5 ∧ yX5_value.cls ≠ "java/lang/invoke/MethodHandle" ∧ yX5_value.cls ≠ "java/lang/invoke/VarHandle" ∧ (parseMethodDescriptor yX5_value.desc).map (fun d => d.parameters.length) = some 1 := by decide +kernel
theorem mc_X5_counter : Cond.code yX5_counter cX5_counter 2 (some .int) ∈ wsL_law := List.mem_of_getElem? (i := 183) (by decide +kernel)
theorem mi_X5_counter : Cond.instanceMethod yX5_counter ∈ wsL_law := List.mem_of_getElem? (i := 181) (by decide +kernel)
theorem ms_X5_counter : Cond.selects RX5 yX5_counter yX5_counter ∈ wsL_law := List.mem_of_getElem? (i := 182) (by decide +kernel)
theorem md_X5_counter : yX5_counter.cls = RX5 ∧ yX5_counter.cls ≠ "java/lang/invoke/MethodHandle" ∧ yX5_counter.cls ≠ "java/lang/invoke/VarHandle" ∧ (parseMethodDescriptor yX5_counter.desc).map (fun d => d.parameters.length) = some 1 := by decide +kernel
theorem mc_X5_commits : Cond.code yX5_commits cX5_commits 1 (some .int) ∈ wsL_law := List.mem_of_getElem? (i := 190) (by decide +kernel)
theorem mi_X5_commits : Cond.instanceMethod yX5_commits ∈ wsL_law := List.mem_of_getElem? (i := 188) (by decide +kernel)
theorem ms_X5_commits : Cond.selects RX5 yX5_commits yX5_commits ∈ wsL_law := List.mem_of_getElem? (i := 189) (by decide +kernel)
theorem md_X5_commits : yX5_commits.cls = RX5 ∧ yX5_commits.cls ≠ "java/lang/invoke/MethodHandle" ∧ yX5_commits.cls ≠ "java/lang/invoke/VarHandle" ∧ (parseMethodDescriptor yX5_commits.desc).map (fun d => d.parameters.length) = some 0 := by decide +kernel
theorem mc_X5_commit : Cond.code yX5_commit cX5_commit 3 (some .int) ∈ wsL_law := List.mem_of_getElem? (i := 197) (by decide +kernel)
theorem mi_X5_commit : Cond.instanceMethod yX5_commit ∈ wsL_law := List.mem_of_getElem? (i := 195) (by decide +kernel)
theorem ms_X5_commit : Cond.selects RX5 yX5_commit yX5_commit ∈ wsL_law := List.mem_of_getElem? (i := 196) (by decide +kernel)
theorem md_X5_commit : yX5_commit.cls = RX5 ∧ yX5_commit.cls ≠ "java/lang/invoke/MethodHandle" ∧ yX5_commit.cls ≠ "java/lang/invoke/VarHandle" ∧ (parseMethodDescriptor yX5_commit.desc).map (fun d => d.parameters.length) = some 2 := by decide +kernel
theorem mc_X5_commitValue : Cond.code yX5_commitValue cX5_commitValue 4 (some .int) ∈ wsL_law := List.mem_of_getElem? (i := 210) (by decide +kernel)
theorem mi_X5_commitValue : Cond.instanceMethod yX5_commitValue ∈ wsL_law := List.mem_of_getElem? (i := 208) (by decide +kernel)
theorem ms_X5_commitValue : Cond.selects RX5 yX5_commitValue yX5_commitValue ∈ wsL_law := List.mem_of_getElem? (i := 209) (by decide +kernel)
theorem md_X5_commitValue : yX5_commitValue.cls = RX5 ∧ yX5_commitValue.cls ≠ "java/lang/invoke/MethodHandle" ∧ yX5_commitValue.cls ≠ "java/lang/invoke/VarHandle" ∧ (parseMethodDescriptor yX5_commitValue.desc).map (fun d => d.parameters.length) = some 3 := by decide +kernel
theorem mc_X5_serializable : Cond.code yX5_serializable cX5_serializable 1 (some .boolean) ∈ wsL_law := List.mem_of_getElem? (i := 217) (by decide +kernel)
theorem mi_X5_serializable : Cond.instanceMethod yX5_serializable ∈ wsL_law := List.mem_of_getElem? (i := 215) (by decide +kernel)
theorem ms_X5_serializable : Cond.selects RX5 yX5_serializable yX5_serializable ∈ wsL_law := List.mem_of_getElem? (i := 216) (by decide +kernel)
theorem md_X5_serializable : yX5_serializable.cls = RX5 ∧ yX5_serializable.cls ≠ "java/lang/invoke/MethodHandle" ∧ yX5_serializable.cls ≠ "java/lang/invoke/VarHandle" ∧ (parseMethodDescriptor yX5_serializable.desc).map (fun d => d.parameters.length) = some 0 := by decide +kernel
theorem mc_X5_finish : Cond.code yX5_finish cX5_finish 2 (some .int) ∈ wsL_law := List.mem_of_getElem? (i := 500) (by decide +kernel)
theorem mi_X5_finish : Cond.instanceMethod yX5_finish ∈ wsL_law := List.mem_of_getElem? (i := 498) (by decide +kernel)
theorem ms_X5_finish : Cond.selects RX5 yX5_finish yX5_finish ∈ wsL_law := List.mem_of_getElem? (i := 499) (by decide +kernel)
theorem md_X5_finish : yX5_finish.cls = RX5 ∧ yX5_finish.cls ≠ "java/lang/invoke/MethodHandle" ∧ yX5_finish.cls ≠ "java/lang/invoke/VarHandle" ∧ (parseMethodDescriptor yX5_finish.desc).map (fun d => d.parameters.length) = some 1 := by decide +kernel
theorem mc_X5_abortsWith : Cond.code yX5_abortsWith cX5_abortsWith 4 (some .int) ∈ wsL_law := List.mem_of_getElem? (i := 514) (by decide +kernel)
theorem mi_X5_abortsWith : Cond.instanceMethod yX5_abortsWith ∈ wsL_law := List.mem_of_getElem? (i := 512) (by decide +kernel)
theorem ms_X5_abortsWith : Cond.selects RX5 yX5_abortsWith yX5_abortsWith ∈ wsL_law := List.mem_of_getElem? (i := 513) (by decide +kernel)
theorem md_X5_abortsWith : yX5_abortsWith.cls = RX5 ∧ yX5_abortsWith.cls ≠ "java/lang/invoke/MethodHandle" ∧ yX5_abortsWith.cls ≠ "java/lang/invoke/VarHandle" ∧ (parseMethodDescriptor yX5_abortsWith.desc).map (fun d => d.parameters.length) = some 2 := by decide +kernel
theorem mc_X5_undo : Cond.code yX5_undo cX5_undo 1 (some .int) ∈ wsL_law := List.mem_of_getElem? (i := 538) (by decide +kernel)
theorem mi_X5_undo : Cond.instanceMethod yX5_undo ∈ wsL_law := List.mem_of_getElem? (i := 536) (by decide +kernel)
theorem ms_X5_undo : Cond.selects RX5 yX5_undo yX5_undo ∈ wsL_law := List.mem_of_getElem? (i := 537) (by decide +kernel)
theorem md_X5_undo : yX5_undo.cls = RX5 ∧ yX5_undo.cls ≠ "java/lang/invoke/MethodHandle" ∧ yX5_undo.cls ≠ "java/lang/invoke/VarHandle" ∧ (parseMethodDescriptor yX5_undo.desc).map (fun d => d.parameters.length) = some 0 := by decide +kernel
theorem mc_X5_digest : Cond.code yX5_digest cX5_digest 4 (some .long) ∈ wsL_law := List.mem_of_getElem? (i := 296) (by decide +kernel)
theorem mi_X5_digest : Cond.instanceMethod yX5_digest ∈ wsL_law := List.mem_of_getElem? (i := 294) (by decide +kernel)
theorem ms_X5_digest : Cond.selects RX5 yX5_digest yX5_digest ∈ wsL_law := List.mem_of_getElem? (i := 295) (by decide +kernel)
theorem md_X5_digest : yX5_digest.cls = RX5 ∧ yX5_digest.cls ≠ "java/lang/invoke/MethodHandle" ∧ yX5_digest.cls ≠ "java/lang/invoke/VarHandle" ∧ (parseMethodDescriptor yX5_digest.desc).map (fun d => d.parameters.length) = some 0 := by decide +kernel
theorem mc_X5_mixCore : Cond.code yX5_mixCore cX5_mixCore 7 (some .long) ∈ wsL_law := List.mem_of_getElem? (i := 305) (by decide +kernel)
theorem mi_X5_mixCore : Cond.instanceMethod yX5_mixCore ∈ wsL_law := List.mem_of_getElem? (i := 303) (by decide +kernel)
theorem ms_X5_mixCore : Cond.selects RX5 yX5_mixCore yX5_mixCore ∈ wsL_law := List.mem_of_getElem? (i := 304) (by decide +kernel)
theorem md_X5_mixCore : yX5_mixCore.cls = RX5 ∧ yX5_mixCore.cls ≠ "java/lang/invoke/MethodHandle" ∧ yX5_mixCore.cls ≠ "java/lang/invoke/VarHandle" ∧ (parseMethodDescriptor yX5_mixCore.desc).map (fun d => d.parameters.length) = some 2 := by decide +kernel
theorem mc_X5_mix : Cond.code yX5_mix cX5_mix 3 (some .long) ∈ wsL_law := List.mem_of_getElem? (i := 300) (by decide +kernel)
theorem mt_X5_mix : Cond.static yX5_mix ∈ wsL_law := List.mem_of_getElem? (i := 299) (by decide +kernel)
theorem md_X5_mix : yX5_mix.cls = RX5 ∧ yX5_mix.cls ≠ "java/lang/invoke/MethodHandle" ∧ yX5_mix.cls ≠ "java/lang/invoke/VarHandle" ∧ (parseMethodDescriptor yX5_mix.desc).map (fun d => d.parameters.length) = some 2 := by decide +kernel
theorem mc_X5_saveState : Cond.code yX5_saveState cX5_saveState 1 none ∈ wsL_law := List.mem_of_getElem? (i := 243) (by decide +kernel)
theorem mi_X5_saveState : Cond.instanceMethod yX5_saveState ∈ wsL_law := List.mem_of_getElem? (i := 241) (by decide +kernel)
theorem ms_X5_saveState : Cond.selects RX5 yX5_saveState yX5_saveState ∈ wsL_law := List.mem_of_getElem? (i := 242) (by decide +kernel)
theorem md_X5_saveState : yX5_saveState.cls = RX5 ∧ yX5_saveState.cls ≠ "java/lang/invoke/MethodHandle" ∧ yX5_saveState.cls ≠ "java/lang/invoke/VarHandle" ∧ (parseMethodDescriptor yX5_saveState.desc).map (fun d => d.parameters.length) = some 0 := by decide +kernel
theorem mc_X5_startTrial : Cond.code yX5_startTrial cX5_startTrial 2 none ∈ wsL_law := List.mem_of_getElem? (i := 504) (by decide +kernel)
theorem mi_X5_startTrial : Cond.instanceMethod yX5_startTrial ∈ wsL_law := List.mem_of_getElem? (i := 502) (by decide +kernel)
theorem ms_X5_startTrial : Cond.selects RX5 yX5_startTrial yX5_startTrial ∈ wsL_law := List.mem_of_getElem? (i := 503) (by decide +kernel)
theorem md_X5_startTrial : yX5_startTrial.cls = RX5 ∧ yX5_startTrial.cls ≠ "java/lang/invoke/MethodHandle" ∧ yX5_startTrial.cls ≠ "java/lang/invoke/VarHandle" ∧ (parseMethodDescriptor yX5_startTrial.desc).map (fun d => d.parameters.length) = some 1 := by decide +kernel
theorem mc_X5_isPolicy : Cond.code yX5_isPolicy cX5_isPolicy 1 (some .boolean) ∈ wsL_law := List.mem_of_getElem? (i := 239) (by decide +kernel)
theorem mt_X5_isPolicy : Cond.static yX5_isPolicy ∈ wsL_law := List.mem_of_getElem? (i := 238) (by decide +kernel)
theorem md_X5_isPolicy : yX5_isPolicy.cls = RX5 ∧ yX5_isPolicy.cls ≠ "java/lang/invoke/MethodHandle" ∧ yX5_isPolicy.cls ≠ "java/lang/invoke/VarHandle" ∧ (parseMethodDescriptor yX5_isPolicy.desc).map (fun d => d.parameters.length) = some 1 := by decide +kernel
theorem mc_X5_isLine : Cond.code yX5_isLine cX5_isLine 1 (some .boolean) ∈ wsL_law := List.mem_of_getElem? (i := 131) (by decide +kernel)
theorem mt_X5_isLine : Cond.static yX5_isLine ∈ wsL_law := List.mem_of_getElem? (i := 130) (by decide +kernel)
theorem md_X5_isLine : yX5_isLine.cls = RX5 ∧ yX5_isLine.cls ≠ "java/lang/invoke/MethodHandle" ∧ yX5_isLine.cls ≠ "java/lang/invoke/VarHandle" ∧ (parseMethodDescriptor yX5_isLine.desc).map (fun d => d.parameters.length) = some 1 := by decide +kernel
theorem mc_X5_isRunLength : Cond.code yX5_isRunLength cX5_isRunLength 1 (some .boolean) ∈ wsL_law := List.mem_of_getElem? (i := 471) (by decide +kernel)
theorem mt_X5_isRunLength : Cond.static yX5_isRunLength ∈ wsL_law := List.mem_of_getElem? (i := 470) (by decide +kernel)
theorem md_X5_isRunLength : yX5_isRunLength.cls = RX5 ∧ yX5_isRunLength.cls ≠ "java/lang/invoke/MethodHandle" ∧ yX5_isRunLength.cls ≠ "java/lang/invoke/VarHandle" ∧ (parseMethodDescriptor yX5_isRunLength.desc).map (fun d => d.parameters.length) = some 1 := by decide +kernel
theorem mc_X5_contains : Cond.code yX5_contains cX5_contains 2 (some .boolean) ∈ wsL_law := List.mem_of_getElem? (i := 136) (by decide +kernel)
theorem mt_X5_contains : Cond.static yX5_contains ∈ wsL_law := List.mem_of_getElem? (i := 135) (by decide +kernel)
theorem md_X5_contains : yX5_contains.cls = RX5 ∧ yX5_contains.cls ≠ "java/lang/invoke/MethodHandle" ∧ yX5_contains.cls ≠ "java/lang/invoke/VarHandle" ∧ (parseMethodDescriptor yX5_contains.desc).map (fun d => d.parameters.length) = some 2 := by decide +kernel
theorem mc_J6_bitCount_0f7a4 : Cond.code yJ6_bitCount_0f7a4 cJ6_bitCount_0f7a4 1 (some .int) ∈ wsL_law := List.mem_of_getElem? (i := 451) (by decide +kernel)
theorem mt_J6_bitCount_0f7a4 : Cond.static yJ6_bitCount_0f7a4 ∈ wsL_law := List.mem_of_getElem? (i := 449) (by decide +kernel)
theorem md_J6_bitCount_0f7a4 : yJ6_bitCount_0f7a4.cls = RJ6 ∧ yJ6_bitCount_0f7a4.cls ≠ "java/lang/invoke/MethodHandle" ∧ yJ6_bitCount_0f7a4.cls ≠ "java/lang/invoke/VarHandle" ∧ (parseMethodDescriptor yJ6_bitCount_0f7a4.desc).map (fun d => d.parameters.length) = some 1 := by decide +kernel
theorem ini_RX0 : Cond.initialized RX0 ∈ wsL_law := List.mem_of_getElem? (i := 51) (by decide +kernel)
theorem ini_RX1 : Cond.initialized RX1 ∈ wsL_law := List.mem_of_getElem? (i := 56) (by decide +kernel)
theorem ini_RX2 : Cond.initialized RX2 ∈ wsL_law := List.mem_of_getElem? (i := 20) (by decide +kernel)
theorem ini_RX3 : Cond.initialized RX3 ∈ wsL_law := List.mem_of_getElem? (i := 32) (by decide +kernel)
theorem ini_RX4 : Cond.initialized RX4 ∈ wsL_law := List.mem_of_getElem? (i := 16) (by decide +kernel)
theorem ini_RX5 : Cond.initialized RX5 ∈ wsL_law := List.mem_of_getElem? (i := 2) (by decide +kernel)
theorem ini_RJ6 : Cond.initialized RJ6 ∈ wsL_law := List.mem_of_getElem? (i := 450) (by decide +kernel)
theorem ini_RL : Cond.initialized RL ∈ wsL_law := List.mem_of_getElem? (i := 86) (by decide +kernel)
/-! THE JUDGEMENT -/
def J (p : Program) (l : Launch) (e : Env) (R : Room) (s : State) (m : MethodId) (args : Array Value) (below : List Frame) (meth : Method) (c : Code) (n : Nat) (Z : wZ) (A0 : Nat → Prop) (cells slots : Nat) (Q : State → Prop) (S : St) (h : Hl) (Ls : List (Nat × Value)) (pc : Nat) (st : List Value) : Prop :=
  ∀ (H : Heap) (locs : List Loc) (ls : Array Slot), va_P (zG Z) vwCl (ws Z S h) H → va_S A0 s.heap H locs → lv_has ls n Ls → W p l e R s m args below meth c H locs cells slots Q (F0 m pc ls st)
def JX (p : Program) (s : State) (m : MethodId) (args : Array Value) (meth : Method) (c : Code) (cc : ByteArray) (n : Nat) (own : String) (Z : wZ) (A0 : Nat → Prop) : Prop :=
  p.tables.exec = Jvm.exec ∧ c.code = cc ∧ c.maxLocals = n ∧ s.vm.findClass own = some m.cls ∧ (∀ w ∈ wsL_law, w.before args s = true) ∧ hNW s ∧ va_K (zG Z) vwCl (zT Z) s ∧ (∀ (S : St) (h : Hl), va_D A0 (ws Z S h)) ∧ ∀ q : Nat, s.heap.size ≤ q → A0 q
section JR
variable {p : Program} {l : Launch} {e : Env} {R : Room} {s : State} {m : MethodId} {args : Array Value} {below : List Frame} {meth : Method} {c : Code} {n : Nat} {Z : wZ} {A0 : Nat → Prop} {cells slots : Nat} {Q : State → Prop} {cc : ByteArray} {own : String} {S : St} {h : Hl} {Ls Ls2 : List (Nat × Value)} {pc pc2 : Nat} {st : List Value}
theorem j_iconst (X : JX p s m args meth c cc n own Z A0) {i : Int} {v : Int32} (hdg : decode cc pc = .ok (.iconst i, 1)) (hp : pc + 1 = pc2) (hv : Int32.ofInt i = v) (k : J p l e R s m args below meth c n Z A0 cells slots Q S h Ls pc2 (.int v :: st)) : J p l e R s m args below meth c n Z A0 cells slots Q S h Ls pc st := by
  subst hp; exact fun H locs ls hP hS hl => lv_iconst X.1 X.2.1 hdg hv (k H locs ls hP hS hl)
theorem j_bipush (X : JX p s m args meth c cc n own Z A0) {i : Int} {v : Int32} (hdg : decode cc pc = .ok (.bipush i, 2)) (hp : pc + 2 = pc2) (hv : (Int8.ofInt i).toInt32 = v) (k : J p l e R s m args below meth c n Z A0 cells slots Q S h Ls pc2 (.int v :: st)) : J p l e R s m args below meth c n Z A0 cells slots Q S h Ls pc st := by
  subst hp; exact fun H locs ls hP hS hl => lv_bipush X.1 X.2.1 hdg hv (k H locs ls hP hS hl)
theorem j_sipush (X : JX p s m args meth c cc n own Z A0) {i : Int} {v : Int32} (hdg : decode cc pc = .ok (.sipush i, 3)) (hp : pc + 3 = pc2) (hv : (Int16.ofInt i).toInt32 = v) (k : J p l e R s m args below meth c n Z A0 cells slots Q S h Ls pc2 (.int v :: st)) : J p l e R s m args below meth c n Z A0 cells slots Q S h Ls pc st := by
  subst hp; exact fun H locs ls hP hS hl => lv_sipush X.1 X.2.1 hdg hv (k H locs ls hP hS hl)
theorem j_ldc (X : JX p s m args meth c cc n own Z A0) {i : Nat} {v : Int32} (hdg : decode cc pc = .ok (.ldc i, 2)) (hp : pc + 2 = pc2) (hw : Jvm.Cond.constant own i v ∈ wsL_law) (k : J p l e R s m args below meth c n Z A0 cells slots Q S h Ls pc2 (.int v :: st)) : J p l e R s m args below meth c n Z A0 cells slots Q S h Ls pc st := by
  subst hp; exact fun H locs ls hP hS hl => lv_ldc X.1 X.2.1 X.2.2.2.1 (X.2.2.2.2.1 _ hw) hdg (k H locs ls hP hS hl)
theorem j_ldc2 (X : JX p s m args meth c cc n own Z A0) {i : Nat} {v : Int64} (hdg : decode cc pc = .ok (.ldc2_w i, 3)) (hp : pc + 3 = pc2) (hw : Jvm.Cond.constantLong own i v ∈ wsL_law) (k : J p l e R s m args below meth c n Z A0 cells slots Q S h Ls pc2 (.long v :: st)) : J p l e R s m args below meth c n Z A0 cells slots Q S h Ls pc st := by
  subst hp; exact fun H locs ls hP hS hl => lv_ldc2 X.1 X.2.1 X.2.2.2.1 (X.2.2.2.2.1 _ hw) hdg (k H locs ls hP hS hl)
theorem j_iload_n (X : JX p s m args meth c cc n own Z A0) {k0 : Fin 4} {i q : Nat} {x : Int32} (hdg : decode cc pc = .ok (.iload_n k0, 1)) (hp : pc + 1 = pc2) (hi : (k0 : Nat) = i) (hk : Ls[q]? = some (i, .int x)) (k : J p l e R s m args below meth c n Z A0 cells slots Q S h Ls pc2 (.int x :: st)) : J p l e R s m args below meth c n Z A0 cells slots Q S h Ls pc st := by
  subst hp; exact fun H locs ls hP hS hl => lv_iload_n X.1 X.2.1 hdg hi (lv_at hl q hk) (k H locs ls hP hS hl)
theorem j_iload (X : JX p s m args meth c cc n own Z A0) {i q : Nat} {x : Int32} (hdg : decode cc pc = .ok (.iload i, 2)) (hp : pc + 2 = pc2) (hk : Ls[q]? = some (i, .int x)) (k : J p l e R s m args below meth c n Z A0 cells slots Q S h Ls pc2 (.int x :: st)) : J p l e R s m args below meth c n Z A0 cells slots Q S h Ls pc st := by
  subst hp; exact fun H locs ls hP hS hl => lv_iload X.1 X.2.1 hdg (lv_at hl q hk) (k H locs ls hP hS hl)
theorem j_lload_n (X : JX p s m args meth c cc n own Z A0) {k0 : Fin 4} {i q : Nat} {x : Int64} (hdg : decode cc pc = .ok (.lload_n k0, 1)) (hp : pc + 1 = pc2) (hi : (k0 : Nat) = i) (hk : Ls[q]? = some (i, .long x)) (k : J p l e R s m args below meth c n Z A0 cells slots Q S h Ls pc2 (.long x :: st)) : J p l e R s m args below meth c n Z A0 cells slots Q S h Ls pc st := by
  subst hp; exact fun H locs ls hP hS hl => lv_lload_n X.1 X.2.1 hdg hi (lv_at hl q hk) (k H locs ls hP hS hl)
theorem j_lload (X : JX p s m args meth c cc n own Z A0) {i q : Nat} {x : Int64} (hdg : decode cc pc = .ok (.lload i, 2)) (hp : pc + 2 = pc2) (hk : Ls[q]? = some (i, .long x)) (k : J p l e R s m args below meth c n Z A0 cells slots Q S h Ls pc2 (.long x :: st)) : J p l e R s m args below meth c n Z A0 cells slots Q S h Ls pc st := by
  subst hp; exact fun H locs ls hP hS hl => lv_lload X.1 X.2.1 hdg (lv_at hl q hk) (k H locs ls hP hS hl)
theorem j_aload_n (X : JX p s m args meth c cc n own Z A0) {k0 : Fin 4} {i q : Nat} {x : Nat} (hdg : decode cc pc = .ok (.aload_n k0, 1)) (hp : pc + 1 = pc2) (hi : (k0 : Nat) = i) (hk : Ls[q]? = some (i, .ref x)) (k : J p l e R s m args below meth c n Z A0 cells slots Q S h Ls pc2 (.ref x :: st)) : J p l e R s m args below meth c n Z A0 cells slots Q S h Ls pc st := by
  subst hp; exact fun H locs ls hP hS hl => lv_aload_n X.1 X.2.1 hdg hi (lv_at hl q hk) (k H locs ls hP hS hl)
theorem j_aload (X : JX p s m args meth c cc n own Z A0) {i q : Nat} {x : Nat} (hdg : decode cc pc = .ok (.aload i, 2)) (hp : pc + 2 = pc2) (hk : Ls[q]? = some (i, .ref x)) (k : J p l e R s m args below meth c n Z A0 cells slots Q S h Ls pc2 (.ref x :: st)) : J p l e R s m args below meth c n Z A0 cells slots Q S h Ls pc st := by
  subst hp; exact fun H locs ls hP hS hl => lv_aload X.1 X.2.1 hdg (lv_at hl q hk) (k H locs ls hP hS hl)
theorem j_istore_n (X : JX p s m args meth c cc n own Z A0) {k0 : Fin 4} {i : Nat} {x : Int32} (hdg : decode cc pc = .ok (.istore_n k0, 1)) (hp : pc + 1 = pc2) (hi : (k0 : Nat) = i) (hn : i < n) (hl2 : (i, Value.int x) :: Ls.filter (fun q => !(q.1 == i) && !(q.1 + 1 == i && q.2.category == 2)) = Ls2) (k : J p l e R s m args below meth c n Z A0 cells slots Q S h Ls2 pc2 st) : J p l e R s m args below meth c n Z A0 cells slots Q S h Ls pc (.int x :: st) := by
  subst hp; exact fun H locs ls hP hS hl => lv_istore_n X.1 X.2.1 hdg hi hl hn hl2 (fun ls2 h2 => k H locs ls2 hP hS h2)
theorem j_istore (X : JX p s m args meth c cc n own Z A0) {i : Nat} {x : Int32} (hdg : decode cc pc = .ok (.istore i, 2)) (hp : pc + 2 = pc2) (hn : i < n) (hl2 : (i, Value.int x) :: Ls.filter (fun q => !(q.1 == i) && !(q.1 + 1 == i && q.2.category == 2)) = Ls2) (k : J p l e R s m args below meth c n Z A0 cells slots Q S h Ls2 pc2 st) : J p l e R s m args below meth c n Z A0 cells slots Q S h Ls pc (.int x :: st) := by
  subst hp; exact fun H locs ls hP hS hl => lv_istore X.1 X.2.1 hdg hl hn hl2 (fun ls2 h2 => k H locs ls2 hP hS h2)
theorem j_lstore_n (X : JX p s m args meth c cc n own Z A0) {k0 : Fin 4} {i : Nat} {x : Int64} (hdg : decode cc pc = .ok (.lstore_n k0, 1)) (hp : pc + 1 = pc2) (hi : (k0 : Nat) = i) (hn : i + 1 < n) (hl2 : (i, Value.long x) :: Ls.filter (fun q => !(q.1 == i) && (!(q.1 == i + 1) && !(q.1 + 1 == i && q.2.category == 2))) = Ls2) (k : J p l e R s m args below meth c n Z A0 cells slots Q S h Ls2 pc2 st) : J p l e R s m args below meth c n Z A0 cells slots Q S h Ls pc (.long x :: st) := by
  subst hp; exact fun H locs ls hP hS hl => lv_lstore_n X.1 X.2.1 hdg hi hl hn hl2 (fun ls2 h2 => k H locs ls2 hP hS h2)
theorem j_lstore (X : JX p s m args meth c cc n own Z A0) {i : Nat} {x : Int64} (hdg : decode cc pc = .ok (.lstore i, 2)) (hp : pc + 2 = pc2) (hn : i + 1 < n) (hl2 : (i, Value.long x) :: Ls.filter (fun q => !(q.1 == i) && (!(q.1 == i + 1) && !(q.1 + 1 == i && q.2.category == 2))) = Ls2) (k : J p l e R s m args below meth c n Z A0 cells slots Q S h Ls2 pc2 st) : J p l e R s m args below meth c n Z A0 cells slots Q S h Ls pc (.long x :: st) := by
  subst hp; exact fun H locs ls hP hS hl => lv_lstore X.1 X.2.1 hdg hl hn hl2 (fun ls2 h2 => k H locs ls2 hP hS h2)
theorem j_astore_n (X : JX p s m args meth c cc n own Z A0) {k0 : Fin 4} {i : Nat} {x : Nat} (hdg : decode cc pc = .ok (.astore_n k0, 1)) (hp : pc + 1 = pc2) (hi : (k0 : Nat) = i) (hn : i < n) (hl2 : (i, Value.ref x) :: Ls.filter (fun q => !(q.1 == i) && !(q.1 + 1 == i && q.2.category == 2)) = Ls2) (k : J p l e R s m args below meth c n Z A0 cells slots Q S h Ls2 pc2 st) : J p l e R s m args below meth c n Z A0 cells slots Q S h Ls pc (.ref x :: st) := by
  subst hp; exact fun H locs ls hP hS hl => lv_astore_n X.1 X.2.1 hdg hi hl hn hl2 (fun ls2 h2 => k H locs ls2 hP hS h2)
theorem j_astore (X : JX p s m args meth c cc n own Z A0) {i : Nat} {x : Nat} (hdg : decode cc pc = .ok (.astore i, 2)) (hp : pc + 2 = pc2) (hn : i < n) (hl2 : (i, Value.ref x) :: Ls.filter (fun q => !(q.1 == i) && !(q.1 + 1 == i && q.2.category == 2)) = Ls2) (k : J p l e R s m args below meth c n Z A0 cells slots Q S h Ls2 pc2 st) : J p l e R s m args below meth c n Z A0 cells slots Q S h Ls pc (.ref x :: st) := by
  subst hp; exact fun H locs ls hP hS hl => lv_astore X.1 X.2.1 hdg hl hn hl2 (fun ls2 h2 => k H locs ls2 hP hS h2)
theorem j_iinc (X : JX p s m args meth c cc n own Z A0) {i q : Nat} {d : Int} {x v : Int32} (hdg : decode cc pc = .ok (.iinc i d, 3)) (hp : pc + 3 = pc2) (hk : Ls[q]? = some (i, .int x)) (hv : x + Int32.ofInt d = v) (hn : i < n) (hl2 : (i, Value.int v) :: Ls.filter (fun q => !(q.1 == i) && !(q.1 + 1 == i && q.2.category == 2)) = Ls2) (k : J p l e R s m args below meth c n Z A0 cells slots Q S h Ls2 pc2 st) : J p l e R s m args below meth c n Z A0 cells slots Q S h Ls pc st := by
  subst hp; exact fun H locs ls hP hS hl => lv_iinc X.1 X.2.1 hdg hl hk hv hn hl2 (fun ls2 h2 => k H locs ls2 hP hS h2)
theorem j_iadd (X : JX p s m args meth c cc n own Z A0) {x y : Int32} (hdg : decode cc pc = .ok (.iadd, 1)) (hp : pc + 1 = pc2)  (k : J p l e R s m args below meth c n Z A0 cells slots Q S h Ls pc2 (.int (x + y) :: st)) : J p l e R s m args below meth c n Z A0 cells slots Q S h Ls pc (.int y :: .int x :: st) := by
  subst hp; exact fun H locs ls hP hS hl => lv_iadd X.1 X.2.1 hdg (k H locs ls hP hS hl)
theorem j_isub (X : JX p s m args meth c cc n own Z A0) {x y : Int32} (hdg : decode cc pc = .ok (.isub, 1)) (hp : pc + 1 = pc2)  (k : J p l e R s m args below meth c n Z A0 cells slots Q S h Ls pc2 (.int (x - y) :: st)) : J p l e R s m args below meth c n Z A0 cells slots Q S h Ls pc (.int y :: .int x :: st) := by
  subst hp; exact fun H locs ls hP hS hl => lv_isub X.1 X.2.1 hdg (k H locs ls hP hS hl)
theorem j_imul (X : JX p s m args meth c cc n own Z A0) {x y : Int32} (hdg : decode cc pc = .ok (.imul, 1)) (hp : pc + 1 = pc2)  (k : J p l e R s m args below meth c n Z A0 cells slots Q S h Ls pc2 (.int (x * y) :: st)) : J p l e R s m args below meth c n Z A0 cells slots Q S h Ls pc (.int y :: .int x :: st) := by
  subst hp; exact fun H locs ls hP hS hl => lv_imul X.1 X.2.1 hdg (k H locs ls hP hS hl)
theorem j_iand (X : JX p s m args meth c cc n own Z A0) {x y : Int32} (hdg : decode cc pc = .ok (.iand, 1)) (hp : pc + 1 = pc2)  (k : J p l e R s m args below meth c n Z A0 cells slots Q S h Ls pc2 (.int (x &&& y) :: st)) : J p l e R s m args below meth c n Z A0 cells slots Q S h Ls pc (.int y :: .int x :: st) := by
  subst hp; exact fun H locs ls hP hS hl => lv_iand X.1 X.2.1 hdg (k H locs ls hP hS hl)
theorem j_ior (X : JX p s m args meth c cc n own Z A0) {x y : Int32} (hdg : decode cc pc = .ok (.ior, 1)) (hp : pc + 1 = pc2)  (k : J p l e R s m args below meth c n Z A0 cells slots Q S h Ls pc2 (.int (x ||| y) :: st)) : J p l e R s m args below meth c n Z A0 cells slots Q S h Ls pc (.int y :: .int x :: st) := by
  subst hp; exact fun H locs ls hP hS hl => lv_ior X.1 X.2.1 hdg (k H locs ls hP hS hl)
theorem j_ixor (X : JX p s m args meth c cc n own Z A0) {x y : Int32} (hdg : decode cc pc = .ok (.ixor, 1)) (hp : pc + 1 = pc2)  (k : J p l e R s m args below meth c n Z A0 cells slots Q S h Ls pc2 (.int (x ^^^ y) :: st)) : J p l e R s m args below meth c n Z A0 cells slots Q S h Ls pc (.int y :: .int x :: st) := by
  subst hp; exact fun H locs ls hP hS hl => lv_ixor X.1 X.2.1 hdg (k H locs ls hP hS hl)
theorem j_ishl (X : JX p s m args meth c cc n own Z A0) {x y : Int32} (hdg : decode cc pc = .ok (.ishl, 1)) (hp : pc + 1 = pc2)  (k : J p l e R s m args below meth c n Z A0 cells slots Q S h Ls pc2 (.int (x <<< (y &&& 31)) :: st)) : J p l e R s m args below meth c n Z A0 cells slots Q S h Ls pc (.int y :: .int x :: st) := by
  subst hp; exact fun H locs ls hP hS hl => lv_ishl X.1 X.2.1 hdg (k H locs ls hP hS hl)
theorem j_ishr (X : JX p s m args meth c cc n own Z A0) {x y : Int32} (hdg : decode cc pc = .ok (.ishr, 1)) (hp : pc + 1 = pc2)  (k : J p l e R s m args below meth c n Z A0 cells slots Q S h Ls pc2 (.int (x >>> (y &&& 31)) :: st)) : J p l e R s m args below meth c n Z A0 cells slots Q S h Ls pc (.int y :: .int x :: st) := by
  subst hp; exact fun H locs ls hP hS hl => lv_ishr X.1 X.2.1 hdg (k H locs ls hP hS hl)
theorem j_idiv (X : JX p s m args meth c cc n own Z A0) {x y : Int32} (hdg : decode cc pc = .ok (.idiv, 1)) (hp : pc + 1 = pc2) (hne : ¬ y = 0) (k : J p l e R s m args below meth c n Z A0 cells slots Q S h Ls pc2 (.int (x / y) :: st)) : J p l e R s m args below meth c n Z A0 cells slots Q S h Ls pc (.int y :: .int x :: st) := by
  subst hp; exact fun H locs ls hP hS hl => lv_idiv X.1 X.2.1 hdg hne (k H locs ls hP hS hl)
theorem j_irem (X : JX p s m args meth c cc n own Z A0) {x y : Int32} (hdg : decode cc pc = .ok (.irem, 1)) (hp : pc + 1 = pc2) (hne : ¬ y = 0) (k : J p l e R s m args below meth c n Z A0 cells slots Q S h Ls pc2 (.int (x - x / y * y) :: st)) : J p l e R s m args below meth c n Z A0 cells slots Q S h Ls pc (.int y :: .int x :: st) := by
  subst hp; exact fun H locs ls hP hS hl => lv_irem X.1 X.2.1 hdg hne (k H locs ls hP hS hl)
theorem j_iushr (X : JX p s m args meth c cc n own Z A0) {x y v : Int32} (hdg : decode cc pc = .ok (.iushr, 1)) (hp : pc + 1 = pc2) (hv : (x.toUInt32 >>> (y.toUInt32 &&& Int32.toUInt32 31)).toInt32 = v) (k : J p l e R s m args below meth c n Z A0 cells slots Q S h Ls pc2 (.int v :: st)) : J p l e R s m args below meth c n Z A0 cells slots Q S h Ls pc (.int y :: .int x :: st) := by
  subst hp; exact fun H locs ls hP hS hl => lv_iushr X.1 X.2.1 hdg hv (k H locs ls hP hS hl)
theorem j_ineg (X : JX p s m args meth c cc n own Z A0) {x : Int32} (hdg : decode cc pc = .ok (.ineg, 1)) (hp : pc + 1 = pc2)  (k : J p l e R s m args below meth c n Z A0 cells slots Q S h Ls pc2 (.int (-x) :: st)) : J p l e R s m args below meth c n Z A0 cells slots Q S h Ls pc (.int x :: st) := by
  subst hp; exact fun H locs ls hP hS hl => lv_ineg X.1 X.2.1 hdg (k H locs ls hP hS hl)
theorem j_i2l (X : JX p s m args meth c cc n own Z A0) {x : Int32} (hdg : decode cc pc = .ok (.i2l, 1)) (hp : pc + 1 = pc2)  (k : J p l e R s m args below meth c n Z A0 cells slots Q S h Ls pc2 (.long x.toInt64 :: st)) : J p l e R s m args below meth c n Z A0 cells slots Q S h Ls pc (.int x :: st) := by
  subst hp; exact fun H locs ls hP hS hl => lv_i2l X.1 X.2.1 hdg rfl (k H locs ls hP hS hl)
theorem j_l2i (X : JX p s m args meth c cc n own Z A0) {x : Int64} (hdg : decode cc pc = .ok (.l2i, 1)) (hp : pc + 1 = pc2)  (k : J p l e R s m args below meth c n Z A0 cells slots Q S h Ls pc2 (.int x.toInt32 :: st)) : J p l e R s m args below meth c n Z A0 cells slots Q S h Ls pc (.long x :: st) := by
  subst hp; exact fun H locs ls hP hS hl => lv_l2i X.1 X.2.1 hdg rfl (k H locs ls hP hS hl)
theorem j_ladd (X : JX p s m args meth c cc n own Z A0) {x y : Int64} (hdg : decode cc pc = .ok (.ladd, 1)) (hp : pc + 1 = pc2)  (k : J p l e R s m args below meth c n Z A0 cells slots Q S h Ls pc2 (.long (x + y) :: st)) : J p l e R s m args below meth c n Z A0 cells slots Q S h Ls pc (.long y :: .long x :: st) := by
  subst hp; exact fun H locs ls hP hS hl => lv_ladd X.1 X.2.1 hdg (k H locs ls hP hS hl)
theorem j_lmul (X : JX p s m args meth c cc n own Z A0) {x y : Int64} (hdg : decode cc pc = .ok (.lmul, 1)) (hp : pc + 1 = pc2)  (k : J p l e R s m args below meth c n Z A0 cells slots Q S h Ls pc2 (.long (x * y) :: st)) : J p l e R s m args below meth c n Z A0 cells slots Q S h Ls pc (.long y :: .long x :: st) := by
  subst hp; exact fun H locs ls hP hS hl => lv_lmul X.1 X.2.1 hdg (k H locs ls hP hS hl)
theorem j_lrem (X : JX p s m args meth c cc n own Z A0) {x y : Int64} (hdg : decode cc pc = .ok (.lrem, 1)) (hp : pc + 1 = pc2) (hne : ¬ y = 0) (k : J p l e R s m args below meth c n Z A0 cells slots Q S h Ls pc2 (.long (x - x / y * y) :: st)) : J p l e R s m args below meth c n Z A0 cells slots Q S h Ls pc (.long y :: .long x :: st) := by
  subst hp; exact fun H locs ls hP hS hl => lv_lrem X.1 X.2.1 hdg hne (k H locs ls hP hS hl)
theorem j_lcmp (X : JX p s m args meth c cc n own Z A0) {x y : Int64} (hdg : decode cc pc = .ok (.lcmp, 1)) (hp : pc + 1 = pc2)  (k : J p l e R s m args below meth c n Z A0 cells slots Q S h Ls pc2 (.int (lg_cmp x y) :: st)) : J p l e R s m args below meth c n Z A0 cells slots Q S h Ls pc (.long y :: .long x :: st) := by
  subst hp; exact fun H locs ls hP hS hl => W.lcmp X.1 X.2.1 hdg (k H locs ls hP hS hl)
theorem j_dup (X : JX p s m args meth c cc n own Z A0) {va : Value} (hdg : decode cc pc = .ok (.dup, 1)) (hp : pc + 1 = pc2) (hva : va.category = 1) (k : J p l e R s m args below meth c n Z A0 cells slots Q S h Ls pc2 (va :: va :: st)) : J p l e R s m args below meth c n Z A0 cells slots Q S h Ls pc (va :: st) := by
  subst hp; exact fun H locs ls hP hS hl => lv_dup X.1 X.2.1 hdg hva (k H locs ls hP hS hl)
theorem j_pop (X : JX p s m args meth c cc n own Z A0) {va : Value} (hdg : decode cc pc = .ok (.pop, 1)) (hp : pc + 1 = pc2) (hva : va.category = 1) (k : J p l e R s m args below meth c n Z A0 cells slots Q S h Ls pc2 st) : J p l e R s m args below meth c n Z A0 cells slots Q S h Ls pc (va :: st) := by
  subst hp; exact fun H locs ls hP hS hl => lv_pop X.1 X.2.1 hdg hva (k H locs ls hP hS hl)
theorem j_dup2 (X : JX p s m args meth c cc n own Z A0) {va vb : Value} (hdg : decode cc pc = .ok (.dup2, 1)) (hp : pc + 1 = pc2) (hva : va.category = 1) (hvb : vb.category = 1) (k : J p l e R s m args below meth c n Z A0 cells slots Q S h Ls pc2 (va :: vb :: va :: vb :: st)) : J p l e R s m args below meth c n Z A0 cells slots Q S h Ls pc (va :: vb :: st) := by
  subst hp; exact fun H locs ls hP hS hl => lv_dup2_11 X.1 X.2.1 hdg hva hvb (k H locs ls hP hS hl)
theorem j_goto (X : JX p s m args meth c cc n own Z A0) {off : Int} {tgt : Nat} (hdg : decode cc pc = .ok (.goto off, 3)) (ht : (pc : Int) + off = (tgt : Int)) (k : J p l e R s m args below meth c n Z A0 cells slots Q S h Ls tgt st) : J p l e R s m args below meth c n Z A0 cells slots Q S h Ls pc st := fun H locs ls hP hS hl => lv_goto X.1 X.2.1 hdg ht (k H locs ls hP hS hl)
theorem j_if_eq (X : JX p s m args meth c cc n own Z A0) {x : Int32} {off : Int} {tgt : Nat} (hdg : decode cc pc = .ok (.ifCond .eq off, 3)) (hp : pc + 3 = pc2) (ht : (pc : Int) + off = (tgt : Int)) (kt : x = 0 → J p l e R s m args below meth c n Z A0 cells slots Q S h Ls tgt st) (kf : ¬ x = 0 → J p l e R s m args below meth c n Z A0 cells slots Q S h Ls pc2 st) : J p l e R s m args below meth c n Z A0 cells slots Q S h Ls pc (.int x :: st) := by
  subst hp; exact fun H locs ls hP hS hl => lv_if_eq X.1 X.2.1 hdg ht (fun q => kt q H locs ls hP hS hl) (fun q => kf q H locs ls hP hS hl)
theorem j_if_eq_t (X : JX p s m args meth c cc n own Z A0) {x : Int32} {off : Int} {tgt : Nat} (hdg : decode cc pc = .ok (.ifCond .eq off, 3)) (ht : (pc : Int) + off = (tgt : Int)) (hc : x = 0) (kt : J p l e R s m args below meth c n Z A0 cells slots Q S h Ls tgt st) : J p l e R s m args below meth c n Z A0 cells slots Q S h Ls pc (.int x :: st) :=
  fun H locs ls hP hS hl => lv_if_eq X.1 X.2.1 hdg ht (fun q => kt H locs ls hP hS hl) (fun q => absurd q (by simpa using hc))
theorem j_if_eq_f (X : JX p s m args meth c cc n own Z A0) {x : Int32} {off : Int} {tgt : Nat} (hdg : decode cc pc = .ok (.ifCond .eq off, 3)) (hp : pc + 3 = pc2) (ht : (pc : Int) + off = (tgt : Int)) (hc : ¬ x = 0) (kf : J p l e R s m args below meth c n Z A0 cells slots Q S h Ls pc2 st) : J p l e R s m args below meth c n Z A0 cells slots Q S h Ls pc (.int x :: st) := by
  subst hp; exact fun H locs ls hP hS hl => lv_if_eq X.1 X.2.1 hdg ht (fun q => absurd q (by simpa using hc)) (fun q => kf H locs ls hP hS hl)
theorem j_if_ne (X : JX p s m args meth c cc n own Z A0) {x : Int32} {off : Int} {tgt : Nat} (hdg : decode cc pc = .ok (.ifCond .ne off, 3)) (hp : pc + 3 = pc2) (ht : (pc : Int) + off = (tgt : Int)) (kt : ¬ x = 0 → J p l e R s m args below meth c n Z A0 cells slots Q S h Ls tgt st) (kf : x = 0 → J p l e R s m args below meth c n Z A0 cells slots Q S h Ls pc2 st) : J p l e R s m args below meth c n Z A0 cells slots Q S h Ls pc (.int x :: st) := by
  subst hp; exact fun H locs ls hP hS hl => lv_if_ne X.1 X.2.1 hdg ht (fun q => kt q H locs ls hP hS hl) (fun q => kf q H locs ls hP hS hl)
theorem j_if_ne_t (X : JX p s m args meth c cc n own Z A0) {x : Int32} {off : Int} {tgt : Nat} (hdg : decode cc pc = .ok (.ifCond .ne off, 3)) (ht : (pc : Int) + off = (tgt : Int)) (hc : ¬ x = 0) (kt : J p l e R s m args below meth c n Z A0 cells slots Q S h Ls tgt st) : J p l e R s m args below meth c n Z A0 cells slots Q S h Ls pc (.int x :: st) :=
  fun H locs ls hP hS hl => lv_if_ne X.1 X.2.1 hdg ht (fun q => kt H locs ls hP hS hl) (fun q => absurd q (by simpa using hc))
theorem j_if_ne_f (X : JX p s m args meth c cc n own Z A0) {x : Int32} {off : Int} {tgt : Nat} (hdg : decode cc pc = .ok (.ifCond .ne off, 3)) (hp : pc + 3 = pc2) (ht : (pc : Int) + off = (tgt : Int)) (hc : x = 0) (kf : J p l e R s m args below meth c n Z A0 cells slots Q S h Ls pc2 st) : J p l e R s m args below meth c n Z A0 cells slots Q S h Ls pc (.int x :: st) := by
  subst hp; exact fun H locs ls hP hS hl => lv_if_ne X.1 X.2.1 hdg ht (fun q => absurd q (by simpa using hc)) (fun q => kf H locs ls hP hS hl)
theorem j_if_lt (X : JX p s m args meth c cc n own Z A0) {x : Int32} {off : Int} {tgt : Nat} (hdg : decode cc pc = .ok (.ifCond .lt off, 3)) (hp : pc + 3 = pc2) (ht : (pc : Int) + off = (tgt : Int)) (kt : x < 0 → J p l e R s m args below meth c n Z A0 cells slots Q S h Ls tgt st) (kf : ¬ x < 0 → J p l e R s m args below meth c n Z A0 cells slots Q S h Ls pc2 st) : J p l e R s m args below meth c n Z A0 cells slots Q S h Ls pc (.int x :: st) := by
  subst hp; exact fun H locs ls hP hS hl => lv_if_lt X.1 X.2.1 hdg ht (fun q => kt q H locs ls hP hS hl) (fun q => kf q H locs ls hP hS hl)
theorem j_if_lt_t (X : JX p s m args meth c cc n own Z A0) {x : Int32} {off : Int} {tgt : Nat} (hdg : decode cc pc = .ok (.ifCond .lt off, 3)) (ht : (pc : Int) + off = (tgt : Int)) (hc : x < 0) (kt : J p l e R s m args below meth c n Z A0 cells slots Q S h Ls tgt st) : J p l e R s m args below meth c n Z A0 cells slots Q S h Ls pc (.int x :: st) :=
  fun H locs ls hP hS hl => lv_if_lt X.1 X.2.1 hdg ht (fun q => kt H locs ls hP hS hl) (fun q => absurd q (by simpa using hc))
theorem j_if_lt_f (X : JX p s m args meth c cc n own Z A0) {x : Int32} {off : Int} {tgt : Nat} (hdg : decode cc pc = .ok (.ifCond .lt off, 3)) (hp : pc + 3 = pc2) (ht : (pc : Int) + off = (tgt : Int)) (hc : ¬ x < 0) (kf : J p l e R s m args below meth c n Z A0 cells slots Q S h Ls pc2 st) : J p l e R s m args below meth c n Z A0 cells slots Q S h Ls pc (.int x :: st) := by
  subst hp; exact fun H locs ls hP hS hl => lv_if_lt X.1 X.2.1 hdg ht (fun q => absurd q (by simpa using hc)) (fun q => kf H locs ls hP hS hl)
theorem j_if_ge (X : JX p s m args meth c cc n own Z A0) {x : Int32} {off : Int} {tgt : Nat} (hdg : decode cc pc = .ok (.ifCond .ge off, 3)) (hp : pc + 3 = pc2) (ht : (pc : Int) + off = (tgt : Int)) (kt : 0 ≤ x → J p l e R s m args below meth c n Z A0 cells slots Q S h Ls tgt st) (kf : ¬ 0 ≤ x → J p l e R s m args below meth c n Z A0 cells slots Q S h Ls pc2 st) : J p l e R s m args below meth c n Z A0 cells slots Q S h Ls pc (.int x :: st) := by
  subst hp; exact fun H locs ls hP hS hl => lv_if_ge X.1 X.2.1 hdg ht (fun q => kt q H locs ls hP hS hl) (fun q => kf q H locs ls hP hS hl)
theorem j_if_ge_t (X : JX p s m args meth c cc n own Z A0) {x : Int32} {off : Int} {tgt : Nat} (hdg : decode cc pc = .ok (.ifCond .ge off, 3)) (ht : (pc : Int) + off = (tgt : Int)) (hc : 0 ≤ x) (kt : J p l e R s m args below meth c n Z A0 cells slots Q S h Ls tgt st) : J p l e R s m args below meth c n Z A0 cells slots Q S h Ls pc (.int x :: st) :=
  fun H locs ls hP hS hl => lv_if_ge X.1 X.2.1 hdg ht (fun q => kt H locs ls hP hS hl) (fun q => absurd q (by simpa using hc))
theorem j_if_ge_f (X : JX p s m args meth c cc n own Z A0) {x : Int32} {off : Int} {tgt : Nat} (hdg : decode cc pc = .ok (.ifCond .ge off, 3)) (hp : pc + 3 = pc2) (ht : (pc : Int) + off = (tgt : Int)) (hc : ¬ 0 ≤ x) (kf : J p l e R s m args below meth c n Z A0 cells slots Q S h Ls pc2 st) : J p l e R s m args below meth c n Z A0 cells slots Q S h Ls pc (.int x :: st) := by
  subst hp; exact fun H locs ls hP hS hl => lv_if_ge X.1 X.2.1 hdg ht (fun q => absurd q (by simpa using hc)) (fun q => kf H locs ls hP hS hl)
theorem j_if_gt (X : JX p s m args meth c cc n own Z A0) {x : Int32} {off : Int} {tgt : Nat} (hdg : decode cc pc = .ok (.ifCond .gt off, 3)) (hp : pc + 3 = pc2) (ht : (pc : Int) + off = (tgt : Int)) (kt : 0 < x → J p l e R s m args below meth c n Z A0 cells slots Q S h Ls tgt st) (kf : ¬ 0 < x → J p l e R s m args below meth c n Z A0 cells slots Q S h Ls pc2 st) : J p l e R s m args below meth c n Z A0 cells slots Q S h Ls pc (.int x :: st) := by
  subst hp; exact fun H locs ls hP hS hl => lv_if_gt X.1 X.2.1 hdg ht (fun q => kt q H locs ls hP hS hl) (fun q => kf q H locs ls hP hS hl)
theorem j_if_gt_t (X : JX p s m args meth c cc n own Z A0) {x : Int32} {off : Int} {tgt : Nat} (hdg : decode cc pc = .ok (.ifCond .gt off, 3)) (ht : (pc : Int) + off = (tgt : Int)) (hc : 0 < x) (kt : J p l e R s m args below meth c n Z A0 cells slots Q S h Ls tgt st) : J p l e R s m args below meth c n Z A0 cells slots Q S h Ls pc (.int x :: st) :=
  fun H locs ls hP hS hl => lv_if_gt X.1 X.2.1 hdg ht (fun q => kt H locs ls hP hS hl) (fun q => absurd q (by simpa using hc))
theorem j_if_gt_f (X : JX p s m args meth c cc n own Z A0) {x : Int32} {off : Int} {tgt : Nat} (hdg : decode cc pc = .ok (.ifCond .gt off, 3)) (hp : pc + 3 = pc2) (ht : (pc : Int) + off = (tgt : Int)) (hc : ¬ 0 < x) (kf : J p l e R s m args below meth c n Z A0 cells slots Q S h Ls pc2 st) : J p l e R s m args below meth c n Z A0 cells slots Q S h Ls pc (.int x :: st) := by
  subst hp; exact fun H locs ls hP hS hl => lv_if_gt X.1 X.2.1 hdg ht (fun q => absurd q (by simpa using hc)) (fun q => kf H locs ls hP hS hl)
theorem j_if_le (X : JX p s m args meth c cc n own Z A0) {x : Int32} {off : Int} {tgt : Nat} (hdg : decode cc pc = .ok (.ifCond .le off, 3)) (hp : pc + 3 = pc2) (ht : (pc : Int) + off = (tgt : Int)) (kt : x ≤ 0 → J p l e R s m args below meth c n Z A0 cells slots Q S h Ls tgt st) (kf : ¬ x ≤ 0 → J p l e R s m args below meth c n Z A0 cells slots Q S h Ls pc2 st) : J p l e R s m args below meth c n Z A0 cells slots Q S h Ls pc (.int x :: st) := by
  subst hp; exact fun H locs ls hP hS hl => lv_if_le X.1 X.2.1 hdg ht (fun q => kt q H locs ls hP hS hl) (fun q => kf q H locs ls hP hS hl)
theorem j_if_le_t (X : JX p s m args meth c cc n own Z A0) {x : Int32} {off : Int} {tgt : Nat} (hdg : decode cc pc = .ok (.ifCond .le off, 3)) (ht : (pc : Int) + off = (tgt : Int)) (hc : x ≤ 0) (kt : J p l e R s m args below meth c n Z A0 cells slots Q S h Ls tgt st) : J p l e R s m args below meth c n Z A0 cells slots Q S h Ls pc (.int x :: st) :=
  fun H locs ls hP hS hl => lv_if_le X.1 X.2.1 hdg ht (fun q => kt H locs ls hP hS hl) (fun q => absurd q (by simpa using hc))
theorem j_if_le_f (X : JX p s m args meth c cc n own Z A0) {x : Int32} {off : Int} {tgt : Nat} (hdg : decode cc pc = .ok (.ifCond .le off, 3)) (hp : pc + 3 = pc2) (ht : (pc : Int) + off = (tgt : Int)) (hc : ¬ x ≤ 0) (kf : J p l e R s m args below meth c n Z A0 cells slots Q S h Ls pc2 st) : J p l e R s m args below meth c n Z A0 cells slots Q S h Ls pc (.int x :: st) := by
  subst hp; exact fun H locs ls hP hS hl => lv_if_le X.1 X.2.1 hdg ht (fun q => absurd q (by simpa using hc)) (fun q => kf H locs ls hP hS hl)
theorem j_icmp_eq (X : JX p s m args meth c cc n own Z A0) {x y : Int32} {off : Int} {tgt : Nat} (hdg : decode cc pc = .ok (.if_icmp .eq off, 3)) (hp : pc + 3 = pc2) (ht : (pc : Int) + off = (tgt : Int)) (kt : x = y → J p l e R s m args below meth c n Z A0 cells slots Q S h Ls tgt st) (kf : ¬ x = y → J p l e R s m args below meth c n Z A0 cells slots Q S h Ls pc2 st) : J p l e R s m args below meth c n Z A0 cells slots Q S h Ls pc (.int y :: .int x :: st) := by
  subst hp; exact fun H locs ls hP hS hl => lv_icmp_eq X.1 X.2.1 hdg ht (fun q => kt q H locs ls hP hS hl) (fun q => kf q H locs ls hP hS hl)
theorem j_icmp_eq_t (X : JX p s m args meth c cc n own Z A0) {x y : Int32} {off : Int} {tgt : Nat} (hdg : decode cc pc = .ok (.if_icmp .eq off, 3)) (ht : (pc : Int) + off = (tgt : Int)) (hc : x = y) (kt : J p l e R s m args below meth c n Z A0 cells slots Q S h Ls tgt st) : J p l e R s m args below meth c n Z A0 cells slots Q S h Ls pc (.int y :: .int x :: st) :=
  fun H locs ls hP hS hl => lv_icmp_eq X.1 X.2.1 hdg ht (fun q => kt H locs ls hP hS hl) (fun q => absurd q (by simpa using hc))
theorem j_icmp_eq_f (X : JX p s m args meth c cc n own Z A0) {x y : Int32} {off : Int} {tgt : Nat} (hdg : decode cc pc = .ok (.if_icmp .eq off, 3)) (hp : pc + 3 = pc2) (ht : (pc : Int) + off = (tgt : Int)) (hc : ¬ x = y) (kf : J p l e R s m args below meth c n Z A0 cells slots Q S h Ls pc2 st) : J p l e R s m args below meth c n Z A0 cells slots Q S h Ls pc (.int y :: .int x :: st) := by
  subst hp; exact fun H locs ls hP hS hl => lv_icmp_eq X.1 X.2.1 hdg ht (fun q => absurd q (by simpa using hc)) (fun q => kf H locs ls hP hS hl)
theorem j_icmp_ne (X : JX p s m args meth c cc n own Z A0) {x y : Int32} {off : Int} {tgt : Nat} (hdg : decode cc pc = .ok (.if_icmp .ne off, 3)) (hp : pc + 3 = pc2) (ht : (pc : Int) + off = (tgt : Int)) (kt : ¬ x = y → J p l e R s m args below meth c n Z A0 cells slots Q S h Ls tgt st) (kf : x = y → J p l e R s m args below meth c n Z A0 cells slots Q S h Ls pc2 st) : J p l e R s m args below meth c n Z A0 cells slots Q S h Ls pc (.int y :: .int x :: st) := by
  subst hp; exact fun H locs ls hP hS hl => lv_icmp_ne X.1 X.2.1 hdg ht (fun q => kt q H locs ls hP hS hl) (fun q => kf q H locs ls hP hS hl)
theorem j_icmp_ne_t (X : JX p s m args meth c cc n own Z A0) {x y : Int32} {off : Int} {tgt : Nat} (hdg : decode cc pc = .ok (.if_icmp .ne off, 3)) (ht : (pc : Int) + off = (tgt : Int)) (hc : ¬ x = y) (kt : J p l e R s m args below meth c n Z A0 cells slots Q S h Ls tgt st) : J p l e R s m args below meth c n Z A0 cells slots Q S h Ls pc (.int y :: .int x :: st) :=
  fun H locs ls hP hS hl => lv_icmp_ne X.1 X.2.1 hdg ht (fun q => kt H locs ls hP hS hl) (fun q => absurd q (by simpa using hc))
theorem j_icmp_ne_f (X : JX p s m args meth c cc n own Z A0) {x y : Int32} {off : Int} {tgt : Nat} (hdg : decode cc pc = .ok (.if_icmp .ne off, 3)) (hp : pc + 3 = pc2) (ht : (pc : Int) + off = (tgt : Int)) (hc : x = y) (kf : J p l e R s m args below meth c n Z A0 cells slots Q S h Ls pc2 st) : J p l e R s m args below meth c n Z A0 cells slots Q S h Ls pc (.int y :: .int x :: st) := by
  subst hp; exact fun H locs ls hP hS hl => lv_icmp_ne X.1 X.2.1 hdg ht (fun q => absurd q (by simpa using hc)) (fun q => kf H locs ls hP hS hl)
theorem j_icmp_lt (X : JX p s m args meth c cc n own Z A0) {x y : Int32} {off : Int} {tgt : Nat} (hdg : decode cc pc = .ok (.if_icmp .lt off, 3)) (hp : pc + 3 = pc2) (ht : (pc : Int) + off = (tgt : Int)) (kt : x < y → J p l e R s m args below meth c n Z A0 cells slots Q S h Ls tgt st) (kf : ¬ x < y → J p l e R s m args below meth c n Z A0 cells slots Q S h Ls pc2 st) : J p l e R s m args below meth c n Z A0 cells slots Q S h Ls pc (.int y :: .int x :: st) := by
  subst hp; exact fun H locs ls hP hS hl => lv_icmp_lt X.1 X.2.1 hdg ht (fun q => kt q H locs ls hP hS hl) (fun q => kf q H locs ls hP hS hl)
theorem j_icmp_lt_t (X : JX p s m args meth c cc n own Z A0) {x y : Int32} {off : Int} {tgt : Nat} (hdg : decode cc pc = .ok (.if_icmp .lt off, 3)) (ht : (pc : Int) + off = (tgt : Int)) (hc : x < y) (kt : J p l e R s m args below meth c n Z A0 cells slots Q S h Ls tgt st) : J p l e R s m args below meth c n Z A0 cells slots Q S h Ls pc (.int y :: .int x :: st) :=
  fun H locs ls hP hS hl => lv_icmp_lt X.1 X.2.1 hdg ht (fun q => kt H locs ls hP hS hl) (fun q => absurd q (by simpa using hc))
theorem j_icmp_lt_f (X : JX p s m args meth c cc n own Z A0) {x y : Int32} {off : Int} {tgt : Nat} (hdg : decode cc pc = .ok (.if_icmp .lt off, 3)) (hp : pc + 3 = pc2) (ht : (pc : Int) + off = (tgt : Int)) (hc : ¬ x < y) (kf : J p l e R s m args below meth c n Z A0 cells slots Q S h Ls pc2 st) : J p l e R s m args below meth c n Z A0 cells slots Q S h Ls pc (.int y :: .int x :: st) := by
  subst hp; exact fun H locs ls hP hS hl => lv_icmp_lt X.1 X.2.1 hdg ht (fun q => absurd q (by simpa using hc)) (fun q => kf H locs ls hP hS hl)
theorem j_icmp_ge (X : JX p s m args meth c cc n own Z A0) {x y : Int32} {off : Int} {tgt : Nat} (hdg : decode cc pc = .ok (.if_icmp .ge off, 3)) (hp : pc + 3 = pc2) (ht : (pc : Int) + off = (tgt : Int)) (kt : y ≤ x → J p l e R s m args below meth c n Z A0 cells slots Q S h Ls tgt st) (kf : ¬ y ≤ x → J p l e R s m args below meth c n Z A0 cells slots Q S h Ls pc2 st) : J p l e R s m args below meth c n Z A0 cells slots Q S h Ls pc (.int y :: .int x :: st) := by
  subst hp; exact fun H locs ls hP hS hl => lv_icmp_ge X.1 X.2.1 hdg ht (fun q => kt q H locs ls hP hS hl) (fun q => kf q H locs ls hP hS hl)
theorem j_icmp_ge_t (X : JX p s m args meth c cc n own Z A0) {x y : Int32} {off : Int} {tgt : Nat} (hdg : decode cc pc = .ok (.if_icmp .ge off, 3)) (ht : (pc : Int) + off = (tgt : Int)) (hc : y ≤ x) (kt : J p l e R s m args below meth c n Z A0 cells slots Q S h Ls tgt st) : J p l e R s m args below meth c n Z A0 cells slots Q S h Ls pc (.int y :: .int x :: st) :=
  fun H locs ls hP hS hl => lv_icmp_ge X.1 X.2.1 hdg ht (fun q => kt H locs ls hP hS hl) (fun q => absurd q (by simpa using hc))
theorem j_icmp_ge_f (X : JX p s m args meth c cc n own Z A0) {x y : Int32} {off : Int} {tgt : Nat} (hdg : decode cc pc = .ok (.if_icmp .ge off, 3)) (hp : pc + 3 = pc2) (ht : (pc : Int) + off = (tgt : Int)) (hc : ¬ y ≤ x) (kf : J p l e R s m args below meth c n Z A0 cells slots Q S h Ls pc2 st) : J p l e R s m args below meth c n Z A0 cells slots Q S h Ls pc (.int y :: .int x :: st) := by
  subst hp; exact fun H locs ls hP hS hl => lv_icmp_ge X.1 X.2.1 hdg ht (fun q => absurd q (by simpa using hc)) (fun q => kf H locs ls hP hS hl)
theorem j_icmp_gt (X : JX p s m args meth c cc n own Z A0) {x y : Int32} {off : Int} {tgt : Nat} (hdg : decode cc pc = .ok (.if_icmp .gt off, 3)) (hp : pc + 3 = pc2) (ht : (pc : Int) + off = (tgt : Int)) (kt : y < x → J p l e R s m args below meth c n Z A0 cells slots Q S h Ls tgt st) (kf : ¬ y < x → J p l e R s m args below meth c n Z A0 cells slots Q S h Ls pc2 st) : J p l e R s m args below meth c n Z A0 cells slots Q S h Ls pc (.int y :: .int x :: st) := by
  subst hp; exact fun H locs ls hP hS hl => lv_icmp_gt X.1 X.2.1 hdg ht (fun q => kt q H locs ls hP hS hl) (fun q => kf q H locs ls hP hS hl)
theorem j_icmp_gt_t (X : JX p s m args meth c cc n own Z A0) {x y : Int32} {off : Int} {tgt : Nat} (hdg : decode cc pc = .ok (.if_icmp .gt off, 3)) (ht : (pc : Int) + off = (tgt : Int)) (hc : y < x) (kt : J p l e R s m args below meth c n Z A0 cells slots Q S h Ls tgt st) : J p l e R s m args below meth c n Z A0 cells slots Q S h Ls pc (.int y :: .int x :: st) :=
  fun H locs ls hP hS hl => lv_icmp_gt X.1 X.2.1 hdg ht (fun q => kt H locs ls hP hS hl) (fun q => absurd q (by simpa using hc))
theorem j_icmp_gt_f (X : JX p s m args meth c cc n own Z A0) {x y : Int32} {off : Int} {tgt : Nat} (hdg : decode cc pc = .ok (.if_icmp .gt off, 3)) (hp : pc + 3 = pc2) (ht : (pc : Int) + off = (tgt : Int)) (hc : ¬ y < x) (kf : J p l e R s m args below meth c n Z A0 cells slots Q S h Ls pc2 st) : J p l e R s m args below meth c n Z A0 cells slots Q S h Ls pc (.int y :: .int x :: st) := by
  subst hp; exact fun H locs ls hP hS hl => lv_icmp_gt X.1 X.2.1 hdg ht (fun q => absurd q (by simpa using hc)) (fun q => kf H locs ls hP hS hl)
theorem j_icmp_le (X : JX p s m args meth c cc n own Z A0) {x y : Int32} {off : Int} {tgt : Nat} (hdg : decode cc pc = .ok (.if_icmp .le off, 3)) (hp : pc + 3 = pc2) (ht : (pc : Int) + off = (tgt : Int)) (kt : x ≤ y → J p l e R s m args below meth c n Z A0 cells slots Q S h Ls tgt st) (kf : ¬ x ≤ y → J p l e R s m args below meth c n Z A0 cells slots Q S h Ls pc2 st) : J p l e R s m args below meth c n Z A0 cells slots Q S h Ls pc (.int y :: .int x :: st) := by
  subst hp; exact fun H locs ls hP hS hl => lv_icmp_le X.1 X.2.1 hdg ht (fun q => kt q H locs ls hP hS hl) (fun q => kf q H locs ls hP hS hl)
theorem j_icmp_le_t (X : JX p s m args meth c cc n own Z A0) {x y : Int32} {off : Int} {tgt : Nat} (hdg : decode cc pc = .ok (.if_icmp .le off, 3)) (ht : (pc : Int) + off = (tgt : Int)) (hc : x ≤ y) (kt : J p l e R s m args below meth c n Z A0 cells slots Q S h Ls tgt st) : J p l e R s m args below meth c n Z A0 cells slots Q S h Ls pc (.int y :: .int x :: st) :=
  fun H locs ls hP hS hl => lv_icmp_le X.1 X.2.1 hdg ht (fun q => kt H locs ls hP hS hl) (fun q => absurd q (by simpa using hc))
theorem j_icmp_le_f (X : JX p s m args meth c cc n own Z A0) {x y : Int32} {off : Int} {tgt : Nat} (hdg : decode cc pc = .ok (.if_icmp .le off, 3)) (hp : pc + 3 = pc2) (ht : (pc : Int) + off = (tgt : Int)) (hc : ¬ x ≤ y) (kf : J p l e R s m args below meth c n Z A0 cells slots Q S h Ls pc2 st) : J p l e R s m args below meth c n Z A0 cells slots Q S h Ls pc (.int y :: .int x :: st) := by
  subst hp; exact fun H locs ls hP hS hl => lv_icmp_le X.1 X.2.1 hdg ht (fun q => absurd q (by simpa using hc)) (fun q => kf H locs ls hP hS hl)
theorem j_tableIn (X : JX p s m args meth c cc n own Z A0) {dflt lo hi : Int} {offs : Array Int} {len : Nat} {x : Int32} {off : Int} {tgt : Nat} (hdg : decode cc pc = .ok (.tableswitch dflt lo hi offs, len)) (h1 : ¬ x.toInt < lo) (h2 : ¬ hi < x.toInt) (ho : offs[(x.toInt - lo).toNat]? = some off) (ht : (pc : Int) + off = (tgt : Int)) (k : J p l e R s m args below meth c n Z A0 cells slots Q S h Ls tgt st) : J p l e R s m args below meth c n Z A0 cells slots Q S h Ls pc (.int x :: st) := fun H locs ls hP hS hl => lv_tableIn X.1 X.2.1 hdg h1 h2 ho ht (k H locs ls hP hS hl)
theorem j_tableOut (X : JX p s m args meth c cc n own Z A0) {dflt lo hi : Int} {offs : Array Int} {len : Nat} {x : Int32} {tgt : Nat} (hdg : decode cc pc = .ok (.tableswitch dflt lo hi offs, len)) (h1 : x.toInt < lo ∨ hi < x.toInt) (ht : (pc : Int) + dflt = (tgt : Int)) (k : J p l e R s m args below meth c n Z A0 cells slots Q S h Ls tgt st) : J p l e R s m args below meth c n Z A0 cells slots Q S h Ls pc (.int x :: st) := fun H locs ls hP hS hl => lv_tableOut X.1 X.2.1 hdg h1 ht (k H locs ls hP hS hl)
theorem j_lookup (X : JX p s m args meth c cc n own Z A0) {dflt : Int} {ps : Array (Int × Int)} {len : Nat} {x : Int32} {off : Int} {tgt : Nat} (hdg : decode cc pc = .ok (.lookupswitch dflt ps, len)) (hp : (ps.toList.zip (ps.toList.drop 1)).all (fun (a, next) => a.1 < next.1) = true) (ho : Op.lookupswitch.offset ps.toList dflt x.toInt = off) (ht : (pc : Int) + off = (tgt : Int)) (k : J p l e R s m args below meth c n Z A0 cells slots Q S h Ls tgt st) : J p l e R s m args below meth c n Z A0 cells slots Q S h Ls pc (.int x :: st) := fun H locs ls hP hS hl => lv_lookup X.1 X.2.1 hdg hp ho ht (k H locs ls hP hS hl)
/-- fewer locals -/
theorem j_sub (ks : List Nat) (hl2 : lv_pick Ls ks = Ls2) (k : J p l e R s m args below meth c n Z A0 cells slots Q S h Ls2 pc st) : J p l e R s m args below meth c n Z A0 cells slots Q S h Ls pc st := fun H locs ls hP hS hl => k H locs ls hP hS (lv_sub hl ks hl2)
theorem j_top {x : Int32} (k : ∀ y : Int32, y = x → J p l e R s m args below meth c n Z A0 cells slots Q S h Ls pc (.int y :: st)) : J p l e R s m args below meth c n Z A0 cells slots Q S h Ls pc (.int x :: st) := k x rfl
/-! the cells -/
theorem j_get (X : JX p s m args meth c cc n own Z A0) {mm g i : Nat} {fs : List Value} {ref C : String} {T : u_T} {N ci index : Nat} (hq : (mm, g, i) ∈ wPl Z) (he : wE Z h mm g i (S mm g i) = .inr (ci, fs)) (hc : vwCl[ci]? = some (C, T, N)) (hin : ∀ w ∈ u_ws C T N, w ∈ wsL_law) (k : Nat) (hk : k < N) (hlink : Cond.fieldLink own index ref (T k).2.1 (T k).2.2.1 ∈ wsL_law) (href : ref = (T k).1) {v : Value} (hv : fs[k]? = some v) (hdg : decode cc pc = .ok (.getfield index, 3)) (hp : pc + 3 = pc2) (kk : J p l e R s m args below meth c n Z A0 cells slots Q S h Ls pc2 (v :: st)) : J p l e R s m args below meth c n Z A0 cells slots Q S h Ls pc (.ref (zA Z mm g i) :: st) := by
  subst hp; subst href
  intro H locs ls hP hS hl
  obtain ⟨q0, -, hw⟩ := ws_at Z S h hq
  rw [he] at hw
  exact va_get X.1 X.2.1 X.2.2.2.2.1 hin X.2.2.2.1 X.2.2.2.2.2.2.1 hP q0 hw hc k hk (X.2.2.2.2.1 _ hlink) (fun _ h9 => h9) hv hdg (kk H locs ls hP hS hl)
theorem j_getN (X : JX p s m args meth c cc n own Z A0) {mm g i : Nat} {fs : List Value} {ref C host : String} {T : u_T} {N ci index : Nat} (hq : (mm, g, i) ∈ wPl Z) (he : wE Z h mm g i (S mm g i) = .inr (ci, fs)) (hc : vwCl[ci]? = some (C, T, N)) (hin : ∀ w ∈ u_ws C T N, w ∈ wsL_law) (k : Nat) (hk : k < N) (hlink : Cond.fieldLinkNest own index ref (T k).2.1 (T k).2.2.1 host ∈ NWs) (href : ref = (T k).1) {v : Value} (hv : fs[k]? = some v) (hdg : decode cc pc = .ok (.getfield index, 3)) (hp : pc + 3 = pc2) (kk : J p l e R s m args below meth c n Z A0 cells slots Q S h Ls pc2 (v :: st)) : J p l e R s m args below meth c n Z A0 cells slots Q S h Ls pc (.ref (zA Z mm g i) :: st) := by
  subst hp; subst href
  intro H locs ls hP hS hl
  obtain ⟨q0, -, hw⟩ := ws_at Z S h hq
  rw [he] at hw
  exact va_getN X.1 X.2.1 X.2.2.2.2.1 hin X.2.2.2.1 X.2.2.2.2.2.2.1 hP q0 hw hc k hk (va_Nw.use rfl (X.2.2.2.2.2.1 _ hlink)) (fun _ h9 => h9) hv hdg (kk H locs ls hP hS hl)
theorem j_put (X : JX p s m args meth c cc n own Z A0) {mm g i : Nat} {fs : List Value} {ref C : String} {T : u_T} {N ci index : Nat} (ty0 : Nat → FieldType) (hq : (mm, g, i) ∈ wPl Z) (he : wE Z h mm g i (S mm g i) = .inr (ci, fs)) (hc : vwCl[ci]? = some (C, T, N)) (hin : ∀ w ∈ u_ws C T N, w ∈ wsL_law) (hty : ∀ k, k < N → parseFieldDescriptor (T k).2.2.1 = some (ty0 k)) (hnm : ∀ a, a < N → ∀ b, b < N → a ≠ b → (T a).2.1 ≠ (T b).2.1) (k : Nat) (hk : k < N) (hlink : Cond.fieldLink own index ref (T k).2.1 (T k).2.2.1 ∈ wsL_law) (href : ref = (T k).1) (hfin : (T k).2.2.2 = false) {ty : FieldType} {v : Value} {r : Nat → Int32} (hd : parseFieldDescriptor (T k).2.2.1 = some ty) (hn : narrow ty v = v) (hfit : fits ty v = true) (hl0 : k < fs.length) (he2 : wE Z h mm g i r = .inr (ci, fs.set k v)) (hdg : decode cc pc = .ok (.putfield index, 3)) (hp : pc + 3 = pc2) (kk : J p l e R s m args below meth c n Z A0 cells slots Q (upR S mm g i r) h Ls pc2 st) : J p l e R s m args below meth c n Z A0 cells slots Q S h Ls pc (v :: .ref (zA Z mm g i) :: st) := by
  subst hp; subst href
  intro H locs ls hP hS hl
  obtain ⟨q0, hw0, hw⟩ := ws_at Z S h hq
  rw [he] at hw
  refine va_put X.1 X.2.1 X.2.2.2.2.1 hin ty0 hty hnm X.2.2.2.1 X.2.2.2.2.2.2.1 hP (X.2.2.2.2.2.2.2.1 S h) hS q0 hw hc k hk (X.2.2.2.2.1 _ hlink) (fun _ h9 => h9) hfin hd hn hfit hl0 hdg (fun H1 locs1 hP1 _ hS1 => ?_)
  rw [ws_set Z S h hw0 he2] at hP1
  exact kk H1 locs1 ls hP1 hS1 hl
theorem j_putN (X : JX p s m args meth c cc n own Z A0) {mm g i : Nat} {fs : List Value} {ref C host : String} {T : u_T} {N ci index : Nat} (ty0 : Nat → FieldType) (hq : (mm, g, i) ∈ wPl Z) (he : wE Z h mm g i (S mm g i) = .inr (ci, fs)) (hc : vwCl[ci]? = some (C, T, N)) (hin : ∀ w ∈ u_ws C T N, w ∈ wsL_law) (hty : ∀ k, k < N → parseFieldDescriptor (T k).2.2.1 = some (ty0 k)) (hnm : ∀ a, a < N → ∀ b, b < N → a ≠ b → (T a).2.1 ≠ (T b).2.1) (k : Nat) (hk : k < N) (hlink : Cond.fieldLinkNest own index ref (T k).2.1 (T k).2.2.1 host ∈ NWs) (href : ref = (T k).1) (hfin : (T k).2.2.2 = false) {ty : FieldType} {v : Value} {r : Nat → Int32} (hd : parseFieldDescriptor (T k).2.2.1 = some ty) (hn : narrow ty v = v) (hfit : fits ty v = true) (hl0 : k < fs.length) (he2 : wE Z h mm g i r = .inr (ci, fs.set k v)) (hdg : decode cc pc = .ok (.putfield index, 3)) (hp : pc + 3 = pc2) (kk : J p l e R s m args below meth c n Z A0 cells slots Q (upR S mm g i r) h Ls pc2 st) : J p l e R s m args below meth c n Z A0 cells slots Q S h Ls pc (v :: .ref (zA Z mm g i) :: st) := by
  subst hp; subst href
  intro H locs ls hP hS hl
  obtain ⟨q0, hw0, hw⟩ := ws_at Z S h hq
  rw [he] at hw
  refine va_putN X.1 X.2.1 X.2.2.2.2.1 hin ty0 hty hnm X.2.2.2.1 X.2.2.2.2.2.2.1 hP (X.2.2.2.2.2.2.2.1 S h) hS q0 hw hc k hk (va_Nw.use rfl (X.2.2.2.2.2.1 _ hlink)) (fun _ h9 => h9) hfin hd hn hfit hl0 hdg (fun H1 locs1 hP1 _ hS1 => ?_)
  rw [ws_set Z S h hw0 he2] at hP1
  exact kk H1 locs1 ls hP1 hS1 hl
theorem j_iald (X : JX p s m args meth c cc n own Z A0) {mm g i N : Nat} {x : Int32} (hq : (mm, g, i) ∈ wPl Z) (he : wE Z h mm g i (S mm g i) = eI Z N (S mm g i)) (hin : vp_in x N) (hdg : decode cc pc = .ok (.iaload, 1)) (hp : pc + 1 = pc2) (kk : J p l e R s m args below meth c n Z A0 cells slots Q S h Ls pc2 (.int (S mm g i x.toNatClampNeg) :: st)) : J p l e R s m args below meth c n Z A0 cells slots Q S h Ls pc (.int x :: .ref (zA Z mm g i) :: st) := by
  subst hp
  intro H locs ls hP hS hl
  obtain ⟨q0, -, hw⟩ := ws_at Z S h hq
  rw [he] at hw
  exact va_iald X.1 X.2.1 X.2.2.2.2.2.2.1 hP q0 0 hw rfl hin hdg (kk H locs ls hP hS hl)
theorem j_iast (X : JX p s m args meth c cc n own Z A0) {mm g i N : Nat} {x y : Int32} (hq : (mm, g, i) ∈ wPl Z) (he : ∀ r, wE Z h mm g i r = eI Z N r) (hin : vp_in x N) (hdg : decode cc pc = .ok (.iastore, 1)) (hp : pc + 1 = pc2) (kk : J p l e R s m args below meth c n Z A0 cells slots Q (upR S mm g i (upd (S mm g i) x.toNatClampNeg y)) h Ls pc2 st) : J p l e R s m args below meth c n Z A0 cells slots Q S h Ls pc (.int y :: .int x :: .ref (zA Z mm g i) :: st) := by
  subst hp
  intro H locs ls hP hS hl
  obtain ⟨q0, hw0, hw⟩ := ws_at Z S h hq
  rw [he] at hw
  refine va_iast X.1 X.2.1 X.2.2.2.2.2.2.1 hP (X.2.2.2.2.2.2.2.1 S h) hS q0 0 hw rfl hin hdg (fun H1 locs1 hP1 _ hS1 => ?_)
  rw [ws_set Z S h hw0 (he _)] at hP1
  exact kk H1 locs1 ls hP1 hS1 hl
theorem j_alen (X : JX p s m args meth c cc n own Z A0) {mm g i N : Nat} (hq : (mm, g, i) ∈ wPl Z) (he : wE Z h mm g i (S mm g i) = eI Z N (S mm g i)) (hdg : decode cc pc = .ok (.arraylength, 1)) (hp : pc + 1 = pc2) (kk : J p l e R s m args below meth c n Z A0 cells slots Q S h Ls pc2 (.int (nI N) :: st)) : J p l e R s m args below meth c n Z A0 cells slots Q S h Ls pc (.ref (zA Z mm g i) :: st) := by
  subst hp
  intro H locs ls hP hS hl
  obtain ⟨q0, -, hw⟩ := ws_at Z S h hq
  rw [he] at hw
  exact va_alen X.1 X.2.1 X.2.2.2.2.2.2.1 hP q0 0 hw rfl rfl hdg (kk H locs ls hP hS hl)
/-- a core by its number -/
theorem j_aldC (X : JX p s m args meth c cc n own Z A0) {mm : Nat} {x : Int32} (hm : mm < 6) (hin : vp_in x 4) (hdg : decode cc pc = .ok (.aaload, 1)) (hp : pc + 1 = pc2) (kk : J p l e R s m args below meth c n Z A0 cells slots Q S h Ls pc2 (.ref (zA Z mm x.toNatClampNeg 0) :: st)) : J p l e R s m args below meth c n Z A0 cells slots Q S h Ls pc (.int x :: .ref (zA Z mm 4 1) :: st) := by
  subst hp
  intro H locs ls hP hS hl
  obtain ⟨q0, -, hw⟩ := ws_at Z S h (wm_mach hm (show 1 < 11 by decide))
  rw [wE_mach hm] at hw
  exact va_aldq X.1 X.2.1 X.2.2.2.2.2.2.1 hP q0 1 hw rfl hin hdg (kk H locs ls hP hS hl)
/-- a saved machine by its number -/
theorem j_aldM (X : JX p s m args meth c cc n own Z A0) {x : Int32} (hin : vp_in x 4) (hdg : decode cc pc = .ok (.aaload, 1)) (hp : pc + 1 = pc2) (kk : J p l e R s m args below meth c n Z A0 cells slots Q S h Ls pc2 (.ref (zA Z (x.toNatClampNeg + 2) 4 0) :: st)) : J p l e R s m args below meth c n Z A0 cells slots Q S h Ls pc (.int x :: .ref (zA Z 6 0 6) :: st) := by
  subst hp
  intro H locs ls hP hS hl
  obtain ⟨q0, -, hw⟩ := ws_at Z S h (wm_top (show 6 < 8 by decide))
  exact va_aldq X.1 X.2.1 X.2.2.2.2.2.2.1 hP q0 2 hw rfl hin hdg (kk H locs ls hP hS hl)
end JR
