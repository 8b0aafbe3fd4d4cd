theorem wL_76 : Cond.methodLink RL 76 y8_init ∈ tbl := tb_of 22 (by decide +kernel) rfl
theorem w8_1 : Cond.methodLink R8 1 ⟨"java/lang/Object", "<init>", "()V"⟩ ∈ tbl := tb_of 25 (by decide +kernel) rfl
theorem w8_15 : Cond.methodLinkNest R8 15 y4_init "StackForge" ∈ tbl := tb_of 31 (by decide +kernel) rfl
theorem w4_3 : Cond.methodLink R4 3 ⟨"java/lang/Object", "<init>", "()V"⟩ ∈ tbl := tb_of 34 (by decide +kernel) rfl
theorem w4_9 : Cond.fieldLink R4 9 "StackForge$Function" "kinds" "[I" ∈ tbl := tb_of 35 (by decide +kernel) rfl
theorem w4_15 : Cond.fieldLink R4 15 "StackForge$Function" "bytes" "[I" ∈ tbl := tb_of 36 (by decide +kernel) rfl
theorem w4_18 : Cond.fieldLink R4 18 "StackForge$Function" "behindElse" "[I" ∈ tbl := tb_of 37 (by decide +kernel) rfl
theorem w4_21 : Cond.fieldLink R4 21 "StackForge$Function" "behindEnd" "[I" ∈ tbl := tb_of 38 (by decide +kernel) rfl
theorem w4_32 : Cond.fieldLink R4 32 "StackForge$Function" "parameterCount" "I" ∈ tbl := tb_of 39 (by decide +kernel) rfl
theorem w4_24 : Cond.fieldLink R4 24 "StackForge$Function" "variableCount" "I" ∈ tbl := tb_of 40 (by decide +kernel) rfl
theorem w4_35 : Cond.fieldLink R4 35 "StackForge$Function" "outcome" "I" ∈ tbl := tb_of 41 (by decide +kernel) rfl
theorem w4_38 : Cond.fieldLink R4 38 "StackForge$Function" "length" "I" ∈ tbl := tb_of 42 (by decide +kernel) rfl
theorem w8_25 : Cond.methodLink R8 25 y2_init ∈ tbl := tb_of 63 (by decide +kernel) rfl
theorem w2_3 : Cond.methodLink R2 3 ⟨"java/lang/Object", "<init>", "()V"⟩ ∈ tbl := tb_of 66 (by decide +kernel) rfl
theorem w2_25 : Cond.methodLinkNest R2 25 y3_init "StackForge" ∈ tbl := tb_of 70 (by decide +kernel) rfl
theorem w3_3 : Cond.methodLink R3 3 ⟨"java/lang/Object", "<init>", "()V"⟩ ∈ tbl := tb_of 73 (by decide +kernel) rfl
theorem w3_9 : Cond.fieldLink R3 9 "StackForge$Frame" "begin" "I" ∈ tbl := tb_of 74 (by decide +kernel) rfl
theorem w2_119 : Cond.fieldLinkNest R2 119 "StackForge$Frame" "begin" "I" "StackForge" ∈ tbl := tb_of 75 (by decide +kernel) rfl
theorem w3_15 : Cond.fieldLink R3 15 "StackForge$Frame" "opener" "I" ∈ tbl := tb_of 76 (by decide +kernel) rfl
theorem w3_18 : Cond.fieldLink R3 18 "StackForge$Frame" "base" "I" ∈ tbl := tb_of 77 (by decide +kernel) rfl
theorem w2_130 : Cond.fieldLinkNest R2 130 "StackForge$Frame" "base" "I" "StackForge" ∈ tbl := tb_of 78 (by decide +kernel) rfl
theorem w3_21 : Cond.fieldLink R3 21 "StackForge$Frame" "outcome" "I" ∈ tbl := tb_of 79 (by decide +kernel) rfl
theorem w2_122 : Cond.fieldLinkNest R2 122 "StackForge$Frame" "outcome" "I" "StackForge" ∈ tbl := tb_of 80 (by decide +kernel) rfl
theorem w3_24 : Cond.fieldLink R3 24 "StackForge$Frame" "dead" "Z" ∈ tbl := tb_of 81 (by decide +kernel) rfl
theorem w2_113 : Cond.fieldLinkNest R2 113 "StackForge$Frame" "dead" "Z" "StackForge" ∈ tbl := tb_of 82 (by decide +kernel) rfl
theorem w3_28 : Cond.fieldLink R3 28 "StackForge$Frame" "hasElse" "Z" ∈ tbl := tb_of 83 (by decide +kernel) rfl
theorem w2_116 : Cond.fieldLinkNest R2 116 "StackForge$Frame" "hasElse" "Z" "StackForge" ∈ tbl := tb_of 84 (by decide +kernel) rfl
theorem w2_21 : Cond.fieldLink R2 21 "StackForge$Checker" "functions" "[LStackForge$Function;" ∈ tbl := tb_of 98 (by decide +kernel) rfl
theorem w2_9 : Cond.fieldLink R2 9 "StackForge$Checker" "stack" "[I" ∈ tbl := tb_of 99 (by decide +kernel) rfl
theorem w2_17 : Cond.fieldLink R2 17 "StackForge$Checker" "rows" "[LStackForge$Frame;" ∈ tbl := tb_of 100 (by decide +kernel) rfl
theorem w2_26 : Cond.fieldLink R2 26 "StackForge$Checker" "function" "LStackForge$Function;" ∈ tbl := tb_of 101 (by decide +kernel) rfl
theorem w2_30 : Cond.fieldLink R2 30 "StackForge$Checker" "inner" "LStackForge$Frame;" ∈ tbl := tb_of 102 (by decide +kernel) rfl
theorem w2_34 : Cond.fieldLink R2 34 "StackForge$Checker" "height" "I" ∈ tbl := tb_of 103 (by decide +kernel) rfl
theorem w2_38 : Cond.fieldLink R2 38 "StackForge$Checker" "frames" "I" ∈ tbl := tb_of 104 (by decide +kernel) rfl
theorem w2_41 : Cond.fieldLink R2 41 "StackForge$Checker" "bad" "Z" ∈ tbl := tb_of 105 (by decide +kernel) rfl
theorem w8_34 : Cond.methodLink R8 34 y6_init ∈ tbl := tb_of 125 (by decide +kernel) rfl
theorem w6_3 : Cond.methodLink R6 3 ⟨"java/lang/Object", "<init>", "()V"⟩ ∈ tbl := tb_of 128 (by decide +kernel) rfl
theorem w6_19 : Cond.methodLinkNest R6 19 y7_init "StackForge" ∈ tbl := tb_of 133 (by decide +kernel) rfl
theorem w7_1 : Cond.methodLink R7 1 ⟨"java/lang/Object", "<init>", "()V"⟩ ∈ tbl := tb_of 136 (by decide +kernel) rfl
theorem w7_9 : Cond.fieldLink R7 9 "StackForge$Memory" "bytes" "[I" ∈ tbl := tb_of 137 (by decide +kernel) rfl
theorem w6_26 : Cond.methodLink R6 26 y1_init ∈ tbl := tb_of 143 (by decide +kernel) rfl
theorem w1_1 : Cond.methodLink R1 1 ⟨"java/lang/Object", "<init>", "()V"⟩ ∈ tbl := tb_of 146 (by decide +kernel) rfl
theorem w1_7 : Cond.fieldLink R1 7 "StackForge$Cells" "numbers" "[J" ∈ tbl := tb_of 147 (by decide +kernel) rfl
theorem w1_13 : Cond.fieldLink R1 13 "StackForge$Cells" "reals" "[D" ∈ tbl := tb_of 148 (by decide +kernel) rfl
theorem w1_21 : Cond.fieldLink R1 21 "StackForge$Cells" "height" "I" ∈ tbl := tb_of 149 (by decide +kernel) rfl
theorem w6_44 : Cond.methodLink R6 44 y0_init ∈ tbl := tb_of 160 (by decide +kernel) rfl
theorem w0_3 : Cond.methodLink R0 3 ⟨"java/lang/Object", "<init>", "()V"⟩ ∈ tbl := tb_of 163 (by decide +kernel) rfl
theorem w0_11 : Cond.methodLink R0 11 y1_init ∈ tbl := tb_of 165 (by decide +kernel) rfl
theorem w0_14 : Cond.fieldLink R0 14 "StackForge$Call" "stack" "LStackForge$Cells;" ∈ tbl := tb_of 166 (by decide +kernel) rfl
theorem w6_105 : Cond.fieldLinkNest R6 105 "StackForge$Call" "stack" "LStackForge$Cells;" "StackForge" ∈ tbl := tb_of 167 (by decide +kernel) rfl
theorem w0_20 : Cond.fieldLink R0 20 "StackForge$Call" "variables" "LStackForge$Cells;" ∈ tbl := tb_of 168 (by decide +kernel) rfl
theorem w6_182 : Cond.fieldLinkNest R6 182 "StackForge$Call" "variables" "LStackForge$Cells;" "StackForge" ∈ tbl := tb_of 169 (by decide +kernel) rfl
theorem w0_23 : Cond.fieldLink R0 23 "StackForge$Call" "begins" "[I" ∈ tbl := tb_of 170 (by decide +kernel) rfl
theorem w0_27 : Cond.fieldLink R0 27 "StackForge$Call" "bases" "[I" ∈ tbl := tb_of 171 (by decide +kernel) rfl
theorem w0_30 : Cond.fieldLink R0 30 "StackForge$Call" "function" "LStackForge$Function;" ∈ tbl := tb_of 172 (by decide +kernel) rfl
theorem w6_78 : Cond.fieldLinkNest R6 78 "StackForge$Call" "function" "LStackForge$Function;" "StackForge" ∈ tbl := tb_of 173 (by decide +kernel) rfl
theorem w0_34 : Cond.fieldLink R0 34 "StackForge$Call" "place" "I" ∈ tbl := tb_of 174 (by decide +kernel) rfl
theorem w6_75 : Cond.fieldLinkNest R6 75 "StackForge$Call" "place" "I" "StackForge" ∈ tbl := tb_of 175 (by decide +kernel) rfl
theorem w0_38 : Cond.fieldLink R0 38 "StackForge$Call" "frames" "I" ∈ tbl := tb_of 176 (by decide +kernel) rfl
theorem w6_124 : Cond.fieldLinkNest R6 124 "StackForge$Call" "frames" "I" "StackForge" ∈ tbl := tb_of 177 (by decide +kernel) rfl
theorem w6_36 : Cond.fieldLink R6 36 "StackForge$Machine" "functions" "[LStackForge$Function;" ∈ tbl := tb_of 193 (by decide +kernel) rfl
theorem w6_40 : Cond.fieldLink R6 40 "StackForge$Machine" "places" "[I" ∈ tbl := tb_of 194 (by decide +kernel) rfl
theorem w6_11 : Cond.fieldLink R6 11 "StackForge$Machine" "calls" "[LStackForge$Call;" ∈ tbl := tb_of 195 (by decide +kernel) rfl
theorem w6_20 : Cond.fieldLink R6 20 "StackForge$Machine" "bytes" "LStackForge$Memory;" ∈ tbl := tb_of 196 (by decide +kernel) rfl
theorem w8_143 : Cond.fieldLinkNest R8 143 "StackForge$Machine" "bytes" "LStackForge$Memory;" "StackForge" ∈ tbl := tb_of 197 (by decide +kernel) rfl
theorem w6_29 : Cond.fieldLink R6 29 "StackForge$Machine" "globals" "LStackForge$Cells;" ∈ tbl := tb_of 198 (by decide +kernel) rfl
theorem w8_127 : Cond.fieldLinkNest R8 127 "StackForge$Machine" "globals" "LStackForge$Cells;" "StackForge" ∈ tbl := tb_of 199 (by decide +kernel) rfl
theorem w6_33 : Cond.fieldLink R6 33 "StackForge$Machine" "outcome" "LStackForge$Cells;" ∈ tbl := tb_of 200 (by decide +kernel) rfl
theorem w6_51 : Cond.fieldLink R6 51 "StackForge$Machine" "outcomeKind" "I" ∈ tbl := tb_of 201 (by decide +kernel) rfl
theorem w6_47 : Cond.fieldLink R6 47 "StackForge$Machine" "depth" "I" ∈ tbl := tb_of 202 (by decide +kernel) rfl
theorem w8_11 : Cond.fieldLink R8 11 "StackForge" "functions" "[LStackForge$Function;" ∈ tbl := tb_of 220 (by decide +kernel) rfl
theorem w8_16 : Cond.fieldLink R8 16 "StackForge" "places" "[I" ∈ tbl := tb_of 221 (by decide +kernel) rfl
theorem w8_20 : Cond.fieldLink R8 20 "StackForge" "arguments" "[I" ∈ tbl := tb_of 222 (by decide +kernel) rfl
theorem w8_28 : Cond.fieldLink R8 28 "StackForge" "checker" "LStackForge$Checker;" ∈ tbl := tb_of 223 (by decide +kernel) rfl
theorem w8_37 : Cond.fieldLink R8 37 "StackForge" "machine" "LStackForge$Machine;" ∈ tbl := tb_of 224 (by decide +kernel) rfl
theorem w8_87 : Cond.fieldLink R8 87 "StackForge" "argumentCount" "I" ∈ tbl := tb_of 225 (by decide +kernel) rfl
theorem w8_58 : Cond.fieldLink R8 58 "StackForge" "checked" "Z" ∈ tbl := tb_of 226 (by decide +kernel) rfl
theorem w8_51 : Cond.fieldLink R8 51 "StackForge" "phase" "I" ∈ tbl := tb_of 227 (by decide +kernel) rfl
theorem w8_97 : Cond.fieldLink R8 97 "StackForge" "steps" "I" ∈ tbl := tb_of 228 (by decide +kernel) rfl
theorem w8_107 : Cond.fieldLink R8 107 "StackForge" "latestTrap" "I" ∈ tbl := tb_of 229 (by decide +kernel) rfl
theorem wL_129 : Cond.methodLink RL 129 y8_realGlobal ∈ tbl := tb_of 251 (by decide +kernel) rfl
theorem w8_137 : Cond.methodLink R8 137 y1_realAt ∈ tbl := tb_of 255 (by decide +kernel) rfl
theorem wL_80 : Cond.methodLink RL 80 yL_shape ∈ tbl := tb_of 259 (by decide +kernel) rfl
theorem wL_7 : Cond.methodLink RL 7 y8_shape ∈ tbl := tb_of 264 (by decide +kernel) rfl
theorem w8_41 : Cond.methodLink R8 41 y8_isFunction ∈ tbl := tb_of 268 (by decide +kernel) rfl
theorem w8_45 : Cond.methodLink R8 45 y8_isKindRow ∈ tbl := tb_of 271 (by decide +kernel) rfl
theorem w8_50 : Cond.methodLink R8 50 ⟨"java/lang/IllegalArgumentException", "<init>", "()V"⟩ ∈ tbl := tb_of 319 (by decide +kernel) rfl
theorem w8_57 : Cond.methodLink R8 57 ⟨"java/lang/IllegalStateException", "<init>", "()V"⟩ ∈ tbl := tb_of 350 (by decide +kernel) rfl
theorem w8_62 : Cond.methodLink R8 62 y4_reshape ∈ tbl := tb_of 356 (by decide +kernel) rfl
theorem w4_28 : Cond.methodLink R4 28 y4_addVariables ∈ tbl := tb_of 360 (by decide +kernel) rfl
theorem w4_41 : Cond.methodLink R4 41 y4_addVariable ∈ tbl := tb_of 364 (by decide +kernel) rfl
theorem w8_66 : Cond.methodLink R8 66 y4_variableCount ∈ tbl := tb_of 368 (by decide +kernel) rfl
theorem wL_91 : Cond.methodLink RL 91 yL_code ∈ tbl := tb_of 372 (by decide +kernel) rfl
theorem wL_17 : Cond.methodLink RL 17 y8_code ∈ tbl := tb_of 376 (by decide +kernel) rfl
theorem w8_70 : Cond.methodLink R8 70 y4_length ∈ tbl := tb_of 380 (by decide +kernel) rfl
theorem w8_75 : Cond.methodLink R8 75 ⟨"java/lang/IndexOutOfBoundsException", "<init>", "()V"⟩ ∈ tbl := tb_of 393 (by decide +kernel) rfl
theorem w8_76 : Cond.methodLink R8 76 y4_append ∈ tbl := tb_of 399 (by decide +kernel) rfl
theorem wL_95 : Cond.methodLink RL 95 yL_table ∈ tbl := tb_of 403 (by decide +kernel) rfl
theorem wL_23 : Cond.methodLink RL 23 y8_table ∈ tbl := tb_of 406 (by decide +kernel) rfl
theorem wL_99 : Cond.methodLink RL 99 yL_check ∈ tbl := tb_of 410 (by decide +kernel) rfl
theorem wL_27 : Cond.methodLink RL 27 y8_check ∈ tbl := tb_of 414 (by decide +kernel) rfl
theorem w8_80 : Cond.methodLink R8 80 y2_faultIn ∈ tbl := tb_of 418 (by decide +kernel) rfl
theorem w2_47 : Cond.methodLink R2 47 y4_outcome ∈ tbl := tb_of 422 (by decide +kernel) rfl
theorem w2_53 : Cond.methodLink R2 53 y2_beginFrame ∈ tbl := tb_of 426 (by decide +kernel) rfl
theorem w2_99 : Cond.methodLink R2 99 y3_open ∈ tbl := tb_of 430 (by decide +kernel) rfl
theorem w2_103 : Cond.methodLink R2 103 y4_noteElse ∈ tbl := tb_of 434 (by decide +kernel) rfl
theorem w2_57 : Cond.methodLink R2 57 y4_length ∈ tbl := tb_of 438 (by decide +kernel) rfl
theorem w2_60 : Cond.methodLink R2 60 y4_sizeAt ∈ tbl := tb_of 439 (by decide +kernel) rfl
theorem w4_48 : Cond.methodLink R4 48 y4_byteAt ∈ tbl := tb_of 443 (by decide +kernel) rfl
theorem w4_51 : Cond.methodLink R4 51 y5_isKnown ∈ tbl := tb_of 447 (by decide +kernel) rfl
theorem w5_9 : Cond.methodLink R5 9 y5_signature ∈ tbl := tb_of 450 (by decide +kernel) rfl
theorem w4_57 : Cond.methodLink R4 57 y5_hasOperand ∈ tbl := tb_of 453 (by decide +kernel) rfl
theorem w2_64 : Cond.methodLink R2 64 y2_goOver ∈ tbl := tb_of 456 (by decide +kernel) rfl
theorem w2_68 : Cond.methodLink R2 68 y4_byteAt ∈ tbl := tb_of 460 (by decide +kernel) rfl
theorem w2_71 : Cond.methodLink R2 71 y2_goOverFrames ∈ tbl := tb_of 461 (by decide +kernel) rfl
theorem w2_87 : Cond.methodLink R2 87 y2_die ∈ tbl := tb_of 465 (by decide +kernel) rfl
theorem w2_90 : Cond.methodLink R2 90 y2_take ∈ tbl := tb_of 469 (by decide +kernel) rfl
theorem w2_93 : Cond.methodLink R2 93 y2_turnToElse ∈ tbl := tb_of 473 (by decide +kernel) rfl
theorem w2_106 : Cond.methodLink R2 106 y3_lacksElse ∈ tbl := tb_of 477 (by decide +kernel) rfl
theorem w2_110 : Cond.methodLink R2 110 y2_takeAllOfFrame ∈ tbl := tb_of 481 (by decide +kernel) rfl
theorem w2_96 : Cond.methodLink R2 96 y2_endFrame ∈ tbl := tb_of 485 (by decide +kernel) rfl
theorem w2_124 : Cond.methodLink R2 124 y2_put ∈ tbl := tb_of 489 (by decide +kernel) rfl
theorem w2_127 : Cond.methodLink R2 127 y4_noteEnd ∈ tbl := tb_of 493 (by decide +kernel) rfl
theorem w2_74 : Cond.methodLink R2 74 y2_goOverJumps ∈ tbl := tb_of 497 (by decide +kernel) rfl
theorem w2_133 : Cond.methodLink R2 133 y2_kindOfJump ∈ tbl := tb_of 501 (by decide +kernel) rfl
theorem w2_140 : Cond.methodLink R2 140 y3_kindOfJump ∈ tbl := tb_of 505 (by decide +kernel) rfl
theorem w2_136 : Cond.methodLink R2 136 y2_kindOfJumps ∈ tbl := tb_of 509 (by decide +kernel) rfl
theorem w2_77 : Cond.methodLink R2 77 y2_goOverValues ∈ tbl := tb_of 513 (by decide +kernel) rfl
theorem w2_142 : Cond.methodLink R2 142 y2_goOverCall ∈ tbl := tb_of 517 (by decide +kernel) rfl
theorem w2_158 : Cond.methodLinkNest R2 158 y8_isFunction "StackForge" ∈ tbl := tb_of 521 (by decide +kernel) rfl
theorem w2_162 : Cond.methodLink R2 162 y4_parameterCount ∈ tbl := tb_of 522 (by decide +kernel) rfl
theorem w2_152 : Cond.methodLink R2 152 y4_kindOf ∈ tbl := tb_of 526 (by decide +kernel) rfl
theorem w2_146 : Cond.methodLink R2 146 y2_goOverSelect ∈ tbl := tb_of 530 (by decide +kernel) rfl
theorem w2_149 : Cond.methodLink R2 149 y2_goOverGlobal ∈ tbl := tb_of 534 (by decide +kernel) rfl
theorem w2_155 : Cond.methodLink R2 155 y2_goOverVariable ∈ tbl := tb_of 538 (by decide +kernel) rfl
theorem w2_81 : Cond.methodLink R2 81 y5_signature ∈ tbl := tb_of 542 (by decide +kernel) rfl
theorem w2_84 : Cond.methodLink R2 84 y2_goOverSignature ∈ tbl := tb_of 543 (by decide +kernel) rfl
theorem w8_86 : Cond.methodLink R8 86 ⟨"java/lang/UnsupportedOperationException", "<init>", "()V"⟩ ∈ tbl := tb_of 556 (by decide +kernel) rfl
theorem wL_103 : Cond.methodLink RL 103 yL_fault ∈ tbl := tb_of 562 (by decide +kernel) rfl
theorem wL_33 : Cond.methodLink RL 33 y8_fault ∈ tbl := tb_of 565 (by decide +kernel) rfl
theorem wL_107 : Cond.methodLink RL 107 yL_argue ∈ tbl := tb_of 569 (by decide +kernel) rfl
theorem wL_37 : Cond.methodLink RL 37 y8_argue ∈ tbl := tb_of 572 (by decide +kernel) rfl
theorem wL_110 : Cond.methodLink RL 110 yL_start ∈ tbl := tb_of 576 (by decide +kernel) rfl
theorem wL_40 : Cond.methodLink RL 40 y8_start ∈ tbl := tb_of 579 (by decide +kernel) rfl
theorem w8_90 : Cond.methodLink R8 90 y4_parameterCount ∈ tbl := tb_of 583 (by decide +kernel) rfl
theorem w8_93 : Cond.methodLink R8 93 y6_begin ∈ tbl := tb_of 584 (by decide +kernel) rfl
theorem w6_62 : Cond.methodLink R6 62 y0_begin ∈ tbl := tb_of 588 (by decide +kernel) rfl
theorem w0_41 : Cond.methodLink R0 41 y1_clear ∈ tbl := tb_of 592 (by decide +kernel) rfl
theorem w1_17 : Cond.methodLink R1 17 y1_set ∈ tbl := tb_of 596 (by decide +kernel) rfl
theorem w6_65 : Cond.methodLink R6 65 y4_parameterCount ∈ tbl := tb_of 600 (by decide +kernel) rfl
theorem w6_71 : Cond.methodLink R6 71 y0_setParameter ∈ tbl := tb_of 601 (by decide +kernel) rfl
theorem w0_44 : Cond.methodLink R0 44 y4_kindOf ∈ tbl := tb_of 605 (by decide +kernel) rfl
theorem w0_50 : Cond.constantDouble R0 50 (4593671619917905920 : UInt64) ∈ tbl := tb_of 606 (by decide +kernel) rfl
theorem w0_52 : Cond.methodLink R0 52 y1_set ∈ tbl := tb_of 607 (by decide +kernel) rfl
theorem wL_113 : Cond.methodLink RL 113 yL_run ∈ tbl := tb_of 608 (by decide +kernel) rfl
theorem wL_43 : Cond.methodLink RL 43 y8_run ∈ tbl := tb_of 614 (by decide +kernel) rfl
theorem w8_100 : Cond.methodLink R8 100 y6_step ∈ tbl := tb_of 618 (by decide +kernel) rfl
theorem w6_82 : Cond.methodLink R6 82 y4_byteAt ∈ tbl := tb_of 622 (by decide +kernel) rfl
theorem w6_86 : Cond.methodLink R6 86 y4_sizeAt ∈ tbl := tb_of 623 (by decide +kernel) rfl
theorem w6_91 : Cond.methodLink R6 91 y6_stepFrames ∈ tbl := tb_of 624 (by decide +kernel) rfl
theorem w6_112 : Cond.methodLink R6 112 y0_beginFrame ∈ tbl := tb_of 628 (by decide +kernel) rfl
theorem w0_56 : Cond.methodLink R0 56 y1_height ∈ tbl := tb_of 632 (by decide +kernel) rfl
theorem w6_115 : Cond.methodLink R6 115 y0_beginIf ∈ tbl := tb_of 636 (by decide +kernel) rfl
theorem w0_70 : Cond.methodLink R0 70 y1_takeInt ∈ tbl := tb_of 640 (by decide +kernel) rfl
theorem w1_40 : Cond.methodLink R1 40 y1_takeNumber ∈ tbl := tb_of 644 (by decide +kernel) rfl
theorem w1_37 : Cond.methodLink R1 37 y1_drop ∈ tbl := tb_of 648 (by decide +kernel) rfl
theorem w1_25 : Cond.methodLink R1 25 y1_numberAt ∈ tbl := tb_of 652 (by decide +kernel) rfl
theorem w0_73 : Cond.methodLink R0 73 y0_beginFrame ∈ tbl := tb_of 656 (by decide +kernel) rfl
theorem w0_76 : Cond.methodLink R0 76 y4_behindElse ∈ tbl := tb_of 657 (by decide +kernel) rfl
theorem w0_79 : Cond.methodLink R0 79 y4_behindEnd ∈ tbl := tb_of 661 (by decide +kernel) rfl
theorem w6_118 : Cond.methodLink R6 118 y0_goBehindEnd ∈ tbl := tb_of 665 (by decide +kernel) rfl
theorem w6_121 : Cond.methodLink R6 121 y0_endFrame ∈ tbl := tb_of 669 (by decide +kernel) rfl
theorem w6_127 : Cond.methodLink R6 127 y6_leave ∈ tbl := tb_of 673 (by decide +kernel) rfl
theorem w6_145 : Cond.methodLink R6 145 y4_outcome ∈ tbl := tb_of 677 (by decide +kernel) rfl
theorem w6_147 : Cond.methodLink R6 147 y1_height ∈ tbl := tb_of 678 (by decide +kernel) rfl
theorem w6_150 : Cond.methodLink R6 150 y1_setFrom ∈ tbl := tb_of 679 (by decide +kernel) rfl
theorem w1_29 : Cond.methodLink R1 29 y1_realAt ∈ tbl := tb_of 683 (by decide +kernel) rfl
theorem w6_154 : Cond.methodLink R6 154 y1_putFrom ∈ tbl := tb_of 684 (by decide +kernel) rfl
theorem w1_33 : Cond.methodLink R1 33 y1_put ∈ tbl := tb_of 688 (by decide +kernel) rfl
theorem w6_95 : Cond.methodLink R6 95 y6_stepJumps ∈ tbl := tb_of 692 (by decide +kernel) rfl
theorem w6_131 : Cond.methodLink R6 131 y6_jump ∈ tbl := tb_of 696 (by decide +kernel) rfl
theorem w6_141 : Cond.methodLink R6 141 y0_jumpsWithin ∈ tbl := tb_of 700 (by decide +kernel) rfl
theorem w0_82 : Cond.methodLink R0 82 y4_byteAt ∈ tbl := tb_of 704 (by decide +kernel) rfl
theorem w0_67 : Cond.methodLink R0 67 y1_cutTo ∈ tbl := tb_of 705 (by decide +kernel) rfl
theorem w0_87 : Cond.methodLink R0 87 y1_putFrom ∈ tbl := tb_of 709 (by decide +kernel) rfl
theorem w6_135 : Cond.methodLink R6 135 y1_takeInt ∈ tbl := tb_of 710 (by decide +kernel) rfl
theorem w6_138 : Cond.methodLink R6 138 y6_chosenJump ∈ tbl := tb_of 711 (by decide +kernel) rfl
theorem w6_99 : Cond.methodLink R6 99 y6_stepCalls ∈ tbl := tb_of 715 (by decide +kernel) rfl
theorem w6_158 : Cond.methodLinkNest R6 158 y8_isFunction "StackForge" ∈ tbl := tb_of 719 (by decide +kernel) rfl
theorem w6_161 : Cond.methodLink R6 161 y6_enter ∈ tbl := tb_of 720 (by decide +kernel) rfl
theorem w6_172 : Cond.methodLink R6 172 y0_takeParametersFrom ∈ tbl := tb_of 724 (by decide +kernel) rfl
theorem w0_60 : Cond.methodLink R0 60 y4_parameterCount ∈ tbl := tb_of 728 (by decide +kernel) rfl
theorem w0_63 : Cond.methodLink R0 63 y1_setFrom ∈ tbl := tb_of 729 (by decide +kernel) rfl
theorem w6_165 : Cond.methodLink R6 165 y4_length ∈ tbl := tb_of 730 (by decide +kernel) rfl
theorem w6_168 : Cond.methodLink R6 168 y4_isCalledLike ∈ tbl := tb_of 731 (by decide +kernel) rfl
theorem w4_44 : Cond.methodLink R4 44 y4_kindOf ∈ tbl := tb_of 735 (by decide +kernel) rfl
theorem w6_102 : Cond.methodLink R6 102 y6_stepValues ∈ tbl := tb_of 736 (by decide +kernel) rfl
theorem w6_176 : Cond.methodLink R6 176 y1_drop ∈ tbl := tb_of 740 (by decide +kernel) rfl
theorem w6_179 : Cond.methodLink R6 179 y6_select ∈ tbl := tb_of 741 (by decide +kernel) rfl
theorem w6_185 : Cond.constantDouble R6 185 (4593671619917905920 : UInt64) ∈ tbl := tb_of 745 (by decide +kernel) rfl
theorem w6_187 : Cond.methodLink R6 187 y1_putReal ∈ tbl := tb_of 746 (by decide +kernel) rfl
theorem w6_191 : Cond.methodLink R6 191 y1_putNumber ∈ tbl := tb_of 750 (by decide +kernel) rfl
theorem w6_108 : Cond.methodLink R6 108 y6_stepNumbers ∈ tbl := tb_of 754 (by decide +kernel) rfl
theorem w6_195 : Cond.methodLink R6 195 y6_stepMemory ∈ tbl := tb_of 758 (by decide +kernel) rfl
theorem w6_211 : Cond.methodLink R6 211 y1_takeNumber ∈ tbl := tb_of 762 (by decide +kernel) rfl
theorem w6_215 : Cond.methodLink R6 215 y6_sizeInMemory ∈ tbl := tb_of 763 (by decide +kernel) rfl
theorem w6_218 : Cond.methodLink R6 218 y7_holds ∈ tbl := tb_of 766 (by decide +kernel) rfl
theorem w7_13 : Cond.constantLong R7 13 (64 : Int64) ∈ tbl := tb_of 770 (by decide +kernel) rfl
theorem w6_222 : Cond.methodLink R6 222 y7_store ∈ tbl := tb_of 771 (by decide +kernel) rfl
theorem w6_226 : Cond.methodLink R6 226 y7_load ∈ tbl := tb_of 775 (by decide +kernel) rfl
theorem w7_15 : Cond.methodLink R7 15 y7_byteAt ∈ tbl := tb_of 779 (by decide +kernel) rfl
theorem w6_198 : Cond.methodLink R6 198 y6_stepInts ∈ tbl := tb_of 783 (by decide +kernel) rfl
theorem w6_230 : Cond.methodLink R6 230 y1_putTruth ∈ tbl := tb_of 786 (by decide +kernel) rfl
theorem w6_234 : Cond.methodLink R6 234 y6_ofInts ∈ tbl := tb_of 790 (by decide +kernel) rfl
theorem w6_238 : Cond.constantLong R6 238 (4294967295 : Int64) ∈ tbl := tb_of 793 (by decide +kernel) rfl
theorem w6_202 : Cond.methodLink R6 202 y6_stepLongs ∈ tbl := tb_of 794 (by decide +kernel) rfl
theorem w6_240 : Cond.methodLink R6 240 y6_ofLongs ∈ tbl := tb_of 797 (by decide +kernel) rfl
theorem w6_205 : Cond.methodLink R6 205 y6_stepReals ∈ tbl := tb_of 800 (by decide +kernel) rfl
theorem w6_244 : Cond.methodLink R6 244 y1_takeReal ∈ tbl := tb_of 803 (by decide +kernel) rfl
theorem w6_248 : Cond.methodLink R6 248 y6_ofReals ∈ tbl := tb_of 807 (by decide +kernel) rfl
theorem w6_252 : Cond.constantDouble R6 252 (9094988921128908188 : UInt64) ∈ tbl := tb_of 810 (by decide +kernel) rfl
theorem w6_254 : Cond.constantDouble R6 254 (18318360957983683996 : UInt64) ∈ tbl := tb_of 811 (by decide +kernel) rfl
theorem w6_208 : Cond.methodLink R6 208 y6_convert ∈ tbl := tb_of 812 (by decide +kernel) rfl
theorem w6_256 : Cond.methodLink R6 256 y6_cut ∈ tbl := tb_of 815 (by decide +kernel) rfl
theorem w6_260 : Cond.constantDouble R6 260 (4746794007248502784 : UInt64) ∈ tbl := tb_of 818 (by decide +kernel) rfl
theorem w6_262 : Cond.constantDouble R6 262 (13970166044105375744 : UInt64) ∈ tbl := tb_of 819 (by decide +kernel) rfl
theorem w8_103 : Cond.methodLink R8 103 y8_phaseAfter ∈ tbl := tb_of 820 (by decide +kernel) rfl
theorem w8_155 : Cond.methodLink R8 155 y6_depth ∈ tbl := tb_of 824 (by decide +kernel) rfl
theorem w8_110 : Cond.methodLink R8 110 y8_throwTrap ∈ tbl := tb_of 828 (by decide +kernel) rfl
theorem w8_160 : Cond.methodLink R8 160 ⟨"java/lang/ArithmeticException", "<init>", "()V"⟩ ∈ tbl := tb_of 840 (by decide +kernel) rfl
theorem w8_118 : Cond.methodLink R8 118 ⟨"java/util/NoSuchElementException", "<init>", "()V"⟩ ∈ tbl := tb_of 855 (by decide +kernel) rfl
theorem w8_163 : Cond.methodLink R8 163 ⟨"java/lang/RuntimeException", "<init>", "()V"⟩ ∈ tbl := tb_of 870 (by decide +kernel) rfl
theorem wL_116 : Cond.methodLink RL 116 yL_stop ∈ tbl := tb_of 873 (by decide +kernel) rfl
theorem wL_52 : Cond.methodLink RL 52 y8_stop ∈ tbl := tb_of 876 (by decide +kernel) rfl
theorem wL_119 : Cond.methodLink RL 119 yL_result ∈ tbl := tb_of 880 (by decide +kernel) rfl
theorem wL_55 : Cond.methodLink RL 55 y8_result ∈ tbl := tb_of 883 (by decide +kernel) rfl
theorem w8_113 : Cond.methodLink R8 113 y6_outcomeKind ∈ tbl := tb_of 887 (by decide +kernel) rfl
theorem w8_119 : Cond.methodLink R8 119 y6_outcomeNumber ∈ tbl := tb_of 891 (by decide +kernel) rfl
theorem w6_54 : Cond.methodLink R6 54 y1_numberAt ∈ tbl := tb_of 895 (by decide +kernel) rfl
theorem wL_122 : Cond.methodLink RL 122 yL_real ∈ tbl := tb_of 896 (by decide +kernel) rfl
theorem wL_59 : Cond.methodLink RL 59 y8_real ∈ tbl := tb_of 899 (by decide +kernel) rfl
theorem w8_123 : Cond.methodLink R8 123 y6_outcomeReal ∈ tbl := tb_of 903 (by decide +kernel) rfl
theorem w6_58 : Cond.methodLink R6 58 y1_realAt ∈ tbl := tb_of 907 (by decide +kernel) rfl
theorem wL_126 : Cond.methodLink RL 126 yL_global ∈ tbl := tb_of 908 (by decide +kernel) rfl
theorem wL_63 : Cond.methodLink RL 63 y8_global ∈ tbl := tb_of 911 (by decide +kernel) rfl
theorem w8_131 : Cond.methodLink R8 131 y1_numberAt ∈ tbl := tb_of 915 (by decide +kernel) rfl
theorem wL_133 : Cond.methodLink RL 133 yL_memory ∈ tbl := tb_of 916 (by decide +kernel) rfl
theorem wL_67 : Cond.methodLink RL 67 y8_memory ∈ tbl := tb_of 919 (by decide +kernel) rfl
theorem w8_147 : Cond.methodLink R8 147 y7_byteAt ∈ tbl := tb_of 923 (by decide +kernel) rfl
theorem wL_136 : Cond.methodLink RL 136 yL_wipe ∈ tbl := tb_of 924 (by decide +kernel) rfl
theorem wL_70 : Cond.methodLink RL 70 y8_wipe ∈ tbl := tb_of 927 (by decide +kernel) rfl
theorem w8_150 : Cond.methodLink R8 150 y1_clear ∈ tbl := tb_of 931 (by decide +kernel) rfl
theorem w8_153 : Cond.methodLink R8 153 y7_clear ∈ tbl := tb_of 932 (by decide +kernel) rfl
theorem wL_139 : Cond.methodLink RL 139 yL_count ∈ tbl := tb_of 936 (by decide +kernel) rfl
theorem wL_73 : Cond.methodLink RL 73 y8_count ∈ tbl := tb_of 939 (by decide +kernel) rfl
theorem wL_79 : Cond.methodLink RL 79 y9_init ∈ tbl := tb_of 945 (by decide +kernel) rfl
theorem w9_1 : Cond.methodLink R9 1 ⟨"java/lang/Object", "<init>", "()V"⟩ ∈ tbl := tb_of 948 (by decide +kernel) rfl
theorem w9_7 : Cond.fieldLink R9 7 "StackForgeModel" "kinds" "[I" ∈ tbl := tb_of 949 (by decide +kernel) rfl
theorem w9_13 : Cond.fieldLink R9 13 "StackForgeModel" "parameters" "[I" ∈ tbl := tb_of 950 (by decide +kernel) rfl
theorem w9_16 : Cond.fieldLink R9 16 "StackForgeModel" "variables" "[I" ∈ tbl := tb_of 951 (by decide +kernel) rfl
theorem w9_19 : Cond.fieldLink R9 19 "StackForgeModel" "result" "[I" ∈ tbl := tb_of 952 (by decide +kernel) rfl
theorem w9_22 : Cond.fieldLink R9 22 "StackForgeModel" "codes" "[I" ∈ tbl := tb_of 953 (by decide +kernel) rfl
theorem w9_25 : Cond.fieldLink R9 25 "StackForgeModel" "length" "[I" ∈ tbl := tb_of 954 (by decide +kernel) rfl
theorem w9_28 : Cond.fieldLink R9 28 "StackForgeModel" "table" "[I" ∈ tbl := tb_of 955 (by decide +kernel) rfl
theorem w9_31 : Cond.fieldLink R9 31 "StackForgeModel" "memory" "[I" ∈ tbl := tb_of 956 (by decide +kernel) rfl
theorem w9_34 : Cond.fieldLink R9 34 "StackForgeModel" "wholes" "[J" ∈ tbl := tb_of 957 (by decide +kernel) rfl
theorem w9_236 : Cond.fieldLink R9 236 "StackForgeModel" "real" "D" ∈ tbl := tb_of 958 (by decide +kernel) rfl
theorem w9_38 : Cond.fieldLink R9 38 "StackForgeModel" "arguments" "[I" ∈ tbl := tb_of 959 (by decide +kernel) rfl
theorem w9_187 : Cond.fieldLink R9 187 "StackForgeModel" "argued" "I" ∈ tbl := tb_of 960 (by decide +kernel) rfl
theorem w9_111 : Cond.fieldLink R9 111 "StackForgeModel" "checked" "Z" ∈ tbl := tb_of 961 (by decide +kernel) rfl
theorem w9_41 : Cond.fieldLink R9 41 "StackForgeModel" "kind" "[I" ∈ tbl := tb_of 962 (by decide +kernel) rfl
theorem w9_122 : Cond.fieldLink R9 122 "StackForgeModel" "height" "I" ∈ tbl := tb_of 963 (by decide +kernel) rfl
theorem w9_44 : Cond.fieldLink R9 44 "StackForgeModel" "frameOp" "[I" ∈ tbl := tb_of 964 (by decide +kernel) rfl
theorem w9_47 : Cond.fieldLink R9 47 "StackForgeModel" "frameKind" "[I" ∈ tbl := tb_of 965 (by decide +kernel) rfl
theorem w9_50 : Cond.fieldLink R9 50 "StackForgeModel" "frameBase" "[I" ∈ tbl := tb_of 966 (by decide +kernel) rfl
theorem w9_53 : Cond.fieldLink R9 53 "StackForgeModel" "frameDead" "[Z" ∈ tbl := tb_of 967 (by decide +kernel) rfl
theorem w9_57 : Cond.fieldLink R9 57 "StackForgeModel" "frameElse" "[Z" ∈ tbl := tb_of 968 (by decide +kernel) rfl
theorem w9_128 : Cond.fieldLink R9 128 "StackForgeModel" "frames" "I" ∈ tbl := tb_of 969 (by decide +kernel) rfl
theorem w9_125 : Cond.fieldLink R9 125 "StackForgeModel" "bad" "Z" ∈ tbl := tb_of 970 (by decide +kernel) rfl
theorem w9_60 : Cond.fieldLink R9 60 "StackForgeModel" "whole" "[J" ∈ tbl := tb_of 971 (by decide +kernel) rfl
theorem w9_63 : Cond.fieldLink R9 63 "StackForgeModel" "reals" "[D" ∈ tbl := tb_of 972 (by decide +kernel) rfl
theorem w9_67 : Cond.fieldLink R9 67 "StackForgeModel" "frameStart" "[I" ∈ tbl := tb_of 973 (by decide +kernel) rfl
theorem w9_70 : Cond.fieldLink R9 70 "StackForgeModel" "varWhole" "[J" ∈ tbl := tb_of 974 (by decide +kernel) rfl
theorem w9_73 : Cond.fieldLink R9 73 "StackForgeModel" "varReal" "[D" ∈ tbl := tb_of 975 (by decide +kernel) rfl
theorem w9_76 : Cond.fieldLink R9 76 "StackForgeModel" "callFunction" "[I" ∈ tbl := tb_of 976 (by decide +kernel) rfl
theorem w9_79 : Cond.fieldLink R9 79 "StackForgeModel" "callBack" "[I" ∈ tbl := tb_of 977 (by decide +kernel) rfl
theorem w9_82 : Cond.fieldLink R9 82 "StackForgeModel" "callFrames" "[I" ∈ tbl := tb_of 978 (by decide +kernel) rfl
theorem w9_190 : Cond.fieldLink R9 190 "StackForgeModel" "calls" "I" ∈ tbl := tb_of 979 (by decide +kernel) rfl
theorem w9_193 : Cond.fieldLink R9 193 "StackForgeModel" "at" "I" ∈ tbl := tb_of 980 (by decide +kernel) rfl
theorem w9_104 : Cond.fieldLink R9 104 "StackForgeModel" "status" "I" ∈ tbl := tb_of 981 (by decide +kernel) rfl
theorem w9_196 : Cond.fieldLink R9 196 "StackForgeModel" "steps" "I" ∈ tbl := tb_of 982 (by decide +kernel) rfl
theorem w9_233 : Cond.fieldLink R9 233 "StackForgeModel" "trap" "I" ∈ tbl := tb_of 983 (by decide +kernel) rfl
theorem w9_291 : Cond.fieldLink R9 291 "StackForgeModel" "latestTrap" "I" ∈ tbl := tb_of 984 (by decide +kernel) rfl
theorem w9_204 : Cond.fieldLink R9 204 "StackForgeModel" "resultKind" "I" ∈ tbl := tb_of 985 (by decide +kernel) rfl
theorem w9_207 : Cond.fieldLink R9 207 "StackForgeModel" "resultWhole" "J" ∈ tbl := tb_of 986 (by decide +kernel) rfl
theorem w9_211 : Cond.fieldLink R9 211 "StackForgeModel" "resultReal" "D" ∈ tbl := tb_of 987 (by decide +kernel) rfl
theorem w9_88 : Cond.fieldLink R9 88 "StackForgeModel" "code" "I" ∈ tbl := tb_of 988 (by decide +kernel) rfl
theorem w9_85 : Cond.fieldLink R9 85 "StackForgeModel" "keep" "[I" ∈ tbl := tb_of 989 (by decide +kernel) rfl
theorem wL_86 : Cond.methodLink RL 86 y9_thrown ∈ tbl := tb_of 1074 (by decide +kernel) rfl
theorem wL_85 : Cond.methodLink RL 85 y9_shape ∈ tbl := tb_of 1078 (by decide +kernel) rfl
theorem w9_96 : Cond.methodLink R9 96 y9_digits ∈ tbl := tb_of 1082 (by decide +kernel) rfl
theorem w9_92 : Cond.methodLink R9 92 y9_in ∈ tbl := tb_of 1085 (by decide +kernel) rfl
theorem w9_100 : Cond.methodLink R9 100 y9_good ∈ tbl := tb_of 1088 (by decide +kernel) rfl
theorem w9_107 : Cond.methodLink R9 107 y9_setKinds ∈ tbl := tb_of 1092 (by decide +kernel) rfl
theorem wL_94 : Cond.methodLink RL 94 y9_code ∈ tbl := tb_of 1096 (by decide +kernel) rfl
theorem wL_98 : Cond.methodLink RL 98 y9_table ∈ tbl := tb_of 1100 (by decide +kernel) rfl
theorem wL_102 : Cond.methodLink RL 102 y9_check ∈ tbl := tb_of 1104 (by decide +kernel) rfl
theorem w9_184 : Cond.methodLink R9 184 y9_find ∈ tbl := tb_of 1108 (by decide +kernel) rfl
theorem w9_154 : Cond.methodLink R9 154 y9_begin ∈ tbl := tb_of 1112 (by decide +kernel) rfl
theorem w9_135 : Cond.methodLink R9 135 y9_take ∈ tbl := tb_of 1116 (by decide +kernel) rfl
theorem w9_131 : Cond.methodLink R9 131 y9_takeAny ∈ tbl := tb_of 1120 (by decide +kernel) rfl
theorem w9_115 : Cond.methodLink R9 115 y9_byteAt ∈ tbl := tb_of 1124 (by decide +kernel) rfl
theorem w9_177 : Cond.methodLink R9 177 y9_isKnown ∈ tbl := tb_of 1128 (by decide +kernel) rfl
theorem w9_119 : Cond.methodLink R9 119 y9_behind ∈ tbl := tb_of 1131 (by decide +kernel) rfl
theorem w9_181 : Cond.methodLink R9 181 y9_checkOne ∈ tbl := tb_of 1135 (by decide +kernel) rfl
theorem w9_151 : Cond.methodLink R9 151 y9_die ∈ tbl := tb_of 1139 (by decide +kernel) rfl
theorem w9_158 : Cond.methodLink R9 158 y9_close ∈ tbl := tb_of 1143 (by decide +kernel) rfl
theorem w9_142 : Cond.methodLink R9 142 y9_takeIf ∈ tbl := tb_of 1147 (by decide +kernel) rfl
theorem w9_145 : Cond.methodLink R9 145 y9_putIf ∈ tbl := tb_of 1151 (by decide +kernel) rfl
theorem w9_139 : Cond.methodLink R9 139 y9_put ∈ tbl := tb_of 1155 (by decide +kernel) rfl
theorem w9_161 : Cond.methodLink R9 161 y9_checkJump ∈ tbl := tb_of 1159 (by decide +kernel) rfl
theorem w9_148 : Cond.methodLink R9 148 y9_label ∈ tbl := tb_of 1163 (by decide +kernel) rfl
theorem w9_165 : Cond.methodLink R9 165 y9_checkCall ∈ tbl := tb_of 1167 (by decide +kernel) rfl
theorem w9_168 : Cond.methodLink R9 168 y9_checkSelect ∈ tbl := tb_of 1171 (by decide +kernel) rfl
theorem w9_171 : Cond.methodLink R9 171 y9_checkVariable ∈ tbl := tb_of 1175 (by decide +kernel) rfl
theorem w9_174 : Cond.methodLink R9 174 y9_checkPlain ∈ tbl := tb_of 1179 (by decide +kernel) rfl
theorem wL_106 : Cond.methodLink RL 106 y9_fault ∈ tbl := tb_of 1183 (by decide +kernel) rfl
theorem wL_109 : Cond.methodLink RL 109 y9_argue ∈ tbl := tb_of 1187 (by decide +kernel) rfl
theorem wL_112 : Cond.methodLink RL 112 y9_start ∈ tbl := tb_of 1191 (by decide +kernel) rfl
theorem w9_199 : Cond.constantDouble R9 199 (4593671619917905920 : UInt64) ∈ tbl := tb_of 1195 (by decide +kernel) rfl
theorem w9_201 : Cond.methodLink R9 201 y9_enter ∈ tbl := tb_of 1196 (by decide +kernel) rfl
theorem wL_115 : Cond.methodLink RL 115 y9_run ∈ tbl := tb_of 1200 (by decide +kernel) rfl
theorem w9_288 : Cond.methodLink R9 288 y9_step ∈ tbl := tb_of 1204 (by decide +kernel) rfl
theorem w9_276 : Cond.methodLink R9 276 y9_moves ∈ tbl := tb_of 1208 (by decide +kernel) rfl
theorem w9_219 : Cond.methodLink R9 219 y9_leave ∈ tbl := tb_of 1212 (by decide +kernel) rfl
theorem w9_215 : Cond.methodLink R9 215 y9_push ∈ tbl := tb_of 1216 (by decide +kernel) rfl
theorem w9_222 : Cond.methodLink R9 222 y9_seek ∈ tbl := tb_of 1220 (by decide +kernel) rfl
theorem w9_267 : Cond.methodLink R9 267 y9_block ∈ tbl := tb_of 1224 (by decide +kernel) rfl
theorem w9_226 : Cond.methodLink R9 226 y9_popInt ∈ tbl := tb_of 1228 (by decide +kernel) rfl
theorem w9_270 : Cond.methodLink R9 270 y9_jump ∈ tbl := tb_of 1232 (by decide +kernel) rfl
theorem w9_273 : Cond.methodLink R9 273 y9_call ∈ tbl := tb_of 1236 (by decide +kernel) rfl
theorem w9_229 : Cond.methodLink R9 229 y9_agree ∈ tbl := tb_of 1240 (by decide +kernel) rfl
theorem w9_279 : Cond.methodLink R9 279 y9_select ∈ tbl := tb_of 1244 (by decide +kernel) rfl
theorem w9_282 : Cond.methodLink R9 282 y9_variable ∈ tbl := tb_of 1248 (by decide +kernel) rfl
theorem w9_285 : Cond.methodLink R9 285 y9_plain ∈ tbl := tb_of 1252 (by decide +kernel) rfl
theorem w9_255 : Cond.methodLink R9 255 y9_access ∈ tbl := tb_of 1256 (by decide +kernel) rfl
theorem w9_239 : Cond.constantLong R9 239 (64 : Int64) ∈ tbl := tb_of 1260 (by decide +kernel) rfl
theorem w9_258 : Cond.methodLink R9 258 y9_turn ∈ tbl := tb_of 1261 (by decide +kernel) rfl
theorem w9_245 : Cond.constantLong R9 245 (4294967295 : Int64) ∈ tbl := tb_of 1265 (by decide +kernel) rfl
theorem w9_251 : Cond.constantDouble R9 251 (13970166044105375744 : UInt64) ∈ tbl := tb_of 1266 (by decide +kernel) rfl
theorem w9_253 : Cond.constantDouble R9 253 (4746794007248502784 : UInt64) ∈ tbl := tb_of 1267 (by decide +kernel) rfl
theorem w9_261 : Cond.methodLink R9 261 y9_calculate ∈ tbl := tb_of 1268 (by decide +kernel) rfl
theorem w9_241 : Cond.methodLink R9 241 y9_bits ∈ tbl := tb_of 1272 (by decide +kernel) rfl
theorem w9_264 : Cond.methodLink R9 264 y9_measure ∈ tbl := tb_of 1275 (by decide +kernel) rfl
theorem w9_247 : Cond.constantDouble R9 247 (9094988921128908188 : UInt64) ∈ tbl := tb_of 1279 (by decide +kernel) rfl
theorem w9_249 : Cond.constantDouble R9 249 (18318360957983683996 : UInt64) ∈ tbl := tb_of 1280 (by decide +kernel) rfl
theorem wL_118 : Cond.methodLink RL 118 y9_stop ∈ tbl := tb_of 1281 (by decide +kernel) rfl
theorem wL_121 : Cond.methodLink RL 121 y9_result ∈ tbl := tb_of 1285 (by decide +kernel) rfl
theorem wL_125 : Cond.methodLink RL 125 y9_real ∈ tbl := tb_of 1289 (by decide +kernel) rfl
theorem wL_128 : Cond.methodLink RL 128 y9_global ∈ tbl := tb_of 1293 (by decide +kernel) rfl
theorem wL_132 : Cond.methodLink RL 132 y9_realGlobal ∈ tbl := tb_of 1297 (by decide +kernel) rfl
theorem wL_135 : Cond.methodLink RL 135 y9_memory ∈ tbl := tb_of 1301 (by decide +kernel) rfl
theorem wL_138 : Cond.methodLink RL 138 y9_wipe ∈ tbl := tb_of 1305 (by decide +kernel) rfl
theorem wL_141 : Cond.methodLink RL 141 y9_count ∈ tbl := tb_of 1309 (by decide +kernel) rfl
theorem wL_89 : Cond.constantLong RL 89 (4294967295 : Int64) ∈ tbl := tb_of 1313 (by decide +kernel) rfl
set_option maxRecDepth 100000 in
theorem mf8_shape : MfV y8_shape b8_shape 5 (some .int) 4 := ⟨tb_of 265 (by decide +kernel) rfl, tb_of 266 (by decide +kernel) rfl, tb_of 1 (by decide +kernel) rfl, tb_of 267 rfl rfl, ⟨by decide +kernel, by decide +kernel, by decide +kernel⟩⟩
set_option maxRecDepth 100000 in
theorem mf8_code : MfV y8_code b8_code 6 (some .int) 3 := ⟨tb_of 377 (by decide +kernel) rfl, tb_of 378 (by decide +kernel) rfl, tb_of 1 (by decide +kernel) rfl, tb_of 379 rfl rfl, ⟨by decide +kernel, by decide +kernel, by decide +kernel⟩⟩
set_option maxRecDepth 100000 in
theorem mf8_table : MfV y8_table b8_table 4 (some .int) 2 := ⟨tb_of 407 (by decide +kernel) rfl, tb_of 408 (by decide +kernel) rfl, tb_of 1 (by decide +kernel) rfl, tb_of 409 rfl rfl, ⟨by decide +kernel, by decide +kernel, by decide +kernel⟩⟩
set_option maxRecDepth 100000 in
theorem mf8_check : MfV y8_check b8_check 3 (some .int) 0 := ⟨tb_of 415 (by decide +kernel) rfl, tb_of 416 (by decide +kernel) rfl, tb_of 1 (by decide +kernel) rfl, tb_of 417 rfl rfl, ⟨by decide +kernel, by decide +kernel, by decide +kernel⟩⟩
set_option maxRecDepth 100000 in
theorem mf8_fault : MfV y8_fault b8_fault 2 (some .int) 1 := ⟨tb_of 566 (by decide +kernel) rfl, tb_of 567 (by decide +kernel) rfl, tb_of 1 (by decide +kernel) rfl, tb_of 568 rfl rfl, ⟨by decide +kernel, by decide +kernel, by decide +kernel⟩⟩
set_option maxRecDepth 100000 in
theorem mf8_argue : MfV y8_argue b8_argue 2 (some .int) 1 := ⟨tb_of 573 (by decide +kernel) rfl, tb_of 574 (by decide +kernel) rfl, tb_of 1 (by decide +kernel) rfl, tb_of 575 rfl rfl, ⟨by decide +kernel, by decide +kernel, by decide +kernel⟩⟩
set_option maxRecDepth 100000 in
theorem mf8_start : MfV y8_start b8_start 3 (some .int) 1 := ⟨tb_of 580 (by decide +kernel) rfl, tb_of 581 (by decide +kernel) rfl, tb_of 1 (by decide +kernel) rfl, tb_of 582 rfl rfl, ⟨by decide +kernel, by decide +kernel, by decide +kernel⟩⟩
set_option maxRecDepth 100000 in
theorem mf8_run : MfV y8_run b8_run 5 (some .int) 1 := ⟨tb_of 615 (by decide +kernel) rfl, tb_of 616 (by decide +kernel) rfl, tb_of 1 (by decide +kernel) rfl, tb_of 617 rfl rfl, ⟨by decide +kernel, by decide +kernel, by decide +kernel⟩⟩
set_option maxRecDepth 100000 in
theorem mf8_stop : MfV y8_stop b8_stop 1 (some .int) 0 := ⟨tb_of 877 (by decide +kernel) rfl, tb_of 878 (by decide +kernel) rfl, tb_of 1 (by decide +kernel) rfl, tb_of 879 rfl rfl, ⟨by decide +kernel, by decide +kernel, by decide +kernel⟩⟩
set_option maxRecDepth 100000 in
theorem mf8_result : MfV y8_result b8_result 1 (some .long) 0 := ⟨tb_of 884 (by decide +kernel) rfl, tb_of 885 (by decide +kernel) rfl, tb_of 1 (by decide +kernel) rfl, tb_of 886 rfl rfl, ⟨by decide +kernel, by decide +kernel, by decide +kernel⟩⟩
set_option maxRecDepth 100000 in
theorem mf8_real : MfV y8_real b8_real 1 (some .double) 0 := ⟨tb_of 900 (by decide +kernel) rfl, tb_of 901 (by decide +kernel) rfl, tb_of 1 (by decide +kernel) rfl, tb_of 902 rfl rfl, ⟨by decide +kernel, by decide +kernel, by decide +kernel⟩⟩
set_option maxRecDepth 100000 in
theorem mf8_global : MfV y8_global b8_global 2 (some .long) 1 := ⟨tb_of 912 (by decide +kernel) rfl, tb_of 913 (by decide +kernel) rfl, tb_of 1 (by decide +kernel) rfl, tb_of 914 rfl rfl, ⟨by decide +kernel, by decide +kernel, by decide +kernel⟩⟩
set_option maxRecDepth 100000 in
theorem mf8_realGlobal : MfV y8_realGlobal b8_realGlobal 1 (some .double) 0 := ⟨tb_of 252 (by decide +kernel) rfl, tb_of 253 (by decide +kernel) rfl, tb_of 1 (by decide +kernel) rfl, tb_of 254 rfl rfl, ⟨by decide +kernel, by decide +kernel, by decide +kernel⟩⟩
set_option maxRecDepth 100000 in
theorem mf8_memory : MfV y8_memory b8_memory 2 (some .int) 1 := ⟨tb_of 920 (by decide +kernel) rfl, tb_of 921 (by decide +kernel) rfl, tb_of 1 (by decide +kernel) rfl, tb_of 922 rfl rfl, ⟨by decide +kernel, by decide +kernel, by decide +kernel⟩⟩
set_option maxRecDepth 100000 in
theorem mf8_wipe : MfV y8_wipe b8_wipe 1 (some .int) 0 := ⟨tb_of 928 (by decide +kernel) rfl, tb_of 929 (by decide +kernel) rfl, tb_of 1 (by decide +kernel) rfl, tb_of 930 rfl rfl, ⟨by decide +kernel, by decide +kernel, by decide +kernel⟩⟩
set_option maxRecDepth 100000 in
theorem mf8_count : MfV y8_count b8_count 2 (some .int) 1 := ⟨tb_of 940 (by decide +kernel) rfl, tb_of 941 (by decide +kernel) rfl, tb_of 1 (by decide +kernel) rfl, tb_of 942 rfl rfl, ⟨by decide +kernel, by decide +kernel, by decide +kernel⟩⟩
set_option maxRecDepth 100000 in
theorem mf8_isFunction : MfS y8_isFunction b8_isFunction 1 (some .boolean) 1 := ⟨tb_of 269 (by decide +kernel) rfl, tb_of 1 (by decide +kernel) rfl, tb_of 270 rfl rfl, ⟨by decide +kernel, by decide +kernel, by decide +kernel⟩⟩
set_option maxRecDepth 100000 in
theorem mf8_isKindRow : MfS y8_isKindRow b8_isKindRow 3 (some .boolean) 1 := ⟨tb_of 272 (by decide +kernel) rfl, tb_of 1 (by decide +kernel) rfl, tb_of 273 rfl rfl, ⟨by decide +kernel, by decide +kernel, by decide +kernel⟩⟩
set_option maxRecDepth 100000 in
theorem mf8_phaseAfter : MfV y8_phaseAfter b8_phaseAfter 2 (some .int) 1 := ⟨tb_of 822 (by decide +kernel) rfl, tb_sel 33 (by decide +kernel) rfl, tb_of 1 (by decide +kernel) rfl, tb_of 823 rfl rfl, ⟨by decide +kernel, by decide +kernel, by decide +kernel⟩⟩
set_option maxRecDepth 100000 in
theorem mf8_throwTrap : MfS y8_throwTrap b8_throwTrap 1 none 1 := ⟨tb_of 829 (by decide +kernel) rfl, tb_of 1 (by decide +kernel) rfl, tb_of 830 rfl rfl, ⟨by decide +kernel, by decide +kernel, by decide +kernel⟩⟩
set_option maxRecDepth 100000 in
theorem mf9_thrown : MfV y9_thrown b9_thrown 1 (some .int) 0 := ⟨tb_of 1075 (by decide +kernel) rfl, tb_of 1076 (by decide +kernel) rfl, tb_of 9 (by decide +kernel) rfl, tb_of 1077 rfl rfl, ⟨by decide +kernel, by decide +kernel, by decide +kernel⟩⟩
set_option maxRecDepth 100000 in
theorem mf9_in : MfS y9_in b9_in 3 (some .boolean) 3 := ⟨tb_of 1086 (by decide +kernel) rfl, tb_of 9 (by decide +kernel) rfl, tb_of 1087 rfl rfl, ⟨by decide +kernel, by decide +kernel, by decide +kernel⟩⟩
set_option maxRecDepth 100000 in
theorem mf9_good : MfV y9_good b9_good 3 (some .boolean) 2 := ⟨tb_of 1090 (by decide +kernel) rfl, tb_sel 34 (by decide +kernel) rfl, tb_of 9 (by decide +kernel) rfl, tb_of 1091 rfl rfl, ⟨by decide +kernel, by decide +kernel, by decide +kernel⟩⟩
set_option maxRecDepth 100000 in
theorem mf9_digits : MfS y9_digits b9_digits 3 (some .int) 1 := ⟨tb_of 1083 (by decide +kernel) rfl, tb_of 9 (by decide +kernel) rfl, tb_of 1084 rfl rfl, ⟨by decide +kernel, by decide +kernel, by decide +kernel⟩⟩
set_option maxRecDepth 100000 in
theorem mf9_setKinds : MfV y9_setKinds b9_setKinds 7 none 4 := ⟨tb_of 1094 (by decide +kernel) rfl, tb_sel 35 (by decide +kernel) rfl, tb_of 9 (by decide +kernel) rfl, tb_of 1095 rfl rfl, ⟨by decide +kernel, by decide +kernel, by decide +kernel⟩⟩
set_option maxRecDepth 100000 in
theorem mf9_shape : MfV y9_shape b9_shape 7 (some .int) 4 := ⟨tb_of 1079 (by decide +kernel) rfl, tb_of 1080 (by decide +kernel) rfl, tb_of 9 (by decide +kernel) rfl, tb_of 1081 rfl rfl, ⟨by decide +kernel, by decide +kernel, by decide +kernel⟩⟩
set_option maxRecDepth 100000 in
theorem mf9_code : MfV y9_code b9_code 6 (some .int) 3 := ⟨tb_of 1097 (by decide +kernel) rfl, tb_of 1098 (by decide +kernel) rfl, tb_of 9 (by decide +kernel) rfl, tb_of 1099 rfl rfl, ⟨by decide +kernel, by decide +kernel, by decide +kernel⟩⟩
set_option maxRecDepth 100000 in
theorem mf9_table : MfV y9_table b9_table 4 (some .int) 2 := ⟨tb_of 1101 (by decide +kernel) rfl, tb_of 1102 (by decide +kernel) rfl, tb_of 9 (by decide +kernel) rfl, tb_of 1103 rfl rfl, ⟨by decide +kernel, by decide +kernel, by decide +kernel⟩⟩
set_option maxRecDepth 100000 in
theorem mf9_isKnown : MfS y9_isKnown b9_isKnown 1 (some .boolean) 1 := ⟨tb_of 1129 (by decide +kernel) rfl, tb_of 9 (by decide +kernel) rfl, tb_of 1130 rfl rfl, ⟨by decide +kernel, by decide +kernel, by decide +kernel⟩⟩
set_option maxRecDepth 100000 in
theorem mf9_byteAt : MfV y9_byteAt b9_byteAt 3 (some .int) 2 := ⟨tb_of 1126 (by decide +kernel) rfl, tb_sel 40 (by decide +kernel) rfl, tb_of 9 (by decide +kernel) rfl, tb_of 1127 rfl rfl, ⟨by decide +kernel, by decide +kernel, by decide +kernel⟩⟩
set_option maxRecDepth 100000 in
theorem mf9_behind : MfV y9_behind b9_behind 4 (some .int) 2 := ⟨tb_of 1133 (by decide +kernel) rfl, tb_sel 41 (by decide +kernel) rfl, tb_of 9 (by decide +kernel) rfl, tb_of 1134 rfl rfl, ⟨by decide +kernel, by decide +kernel, by decide +kernel⟩⟩
set_option maxRecDepth 100000 in
theorem mf9_seek : MfV y9_seek b9_seek 6 (some .int) 3 := ⟨tb_of 1222 (by decide +kernel) rfl, tb_sel 59 (by decide +kernel) rfl, tb_of 9 (by decide +kernel) rfl, tb_of 1223 rfl rfl, ⟨by decide +kernel, by decide +kernel, by decide +kernel⟩⟩
set_option maxRecDepth 100000 in
theorem mf9_put : MfV y9_put b9_put 2 none 1 := ⟨tb_of 1157 (by decide +kernel) rfl, tb_sel 47 (by decide +kernel) rfl, tb_of 9 (by decide +kernel) rfl, tb_of 1158 rfl rfl, ⟨by decide +kernel, by decide +kernel, by decide +kernel⟩⟩
set_option maxRecDepth 100000 in
theorem mf9_takeAny : MfV y9_takeAny b9_takeAny 1 (some .int) 0 := ⟨tb_of 1122 (by decide +kernel) rfl, tb_sel 39 (by decide +kernel) rfl, tb_of 9 (by decide +kernel) rfl, tb_of 1123 rfl rfl, ⟨by decide +kernel, by decide +kernel, by decide +kernel⟩⟩
set_option maxRecDepth 100000 in
theorem mf9_take : MfV y9_take b9_take 3 none 1 := ⟨tb_of 1118 (by decide +kernel) rfl, tb_sel 38 (by decide +kernel) rfl, tb_of 9 (by decide +kernel) rfl, tb_of 1119 rfl rfl, ⟨by decide +kernel, by decide +kernel, by decide +kernel⟩⟩
set_option maxRecDepth 100000 in
theorem mf9_takeIf : MfV y9_takeIf b9_takeIf 2 none 1 := ⟨tb_of 1149 (by decide +kernel) rfl, tb_sel 45 (by decide +kernel) rfl, tb_of 9 (by decide +kernel) rfl, tb_of 1150 rfl rfl, ⟨by decide +kernel, by decide +kernel, by decide +kernel⟩⟩
set_option maxRecDepth 100000 in
theorem mf9_putIf : MfV y9_putIf b9_putIf 2 none 1 := ⟨tb_of 1153 (by decide +kernel) rfl, tb_sel 46 (by decide +kernel) rfl, tb_of 9 (by decide +kernel) rfl, tb_of 1154 rfl rfl, ⟨by decide +kernel, by decide +kernel, by decide +kernel⟩⟩
set_option maxRecDepth 100000 in
theorem mf9_begin : MfV y9_begin b9_begin 3 none 2 := ⟨tb_of 1114 (by decide +kernel) rfl, tb_sel 37 (by decide +kernel) rfl, tb_of 9 (by decide +kernel) rfl, tb_of 1115 rfl rfl, ⟨by decide +kernel, by decide +kernel, by decide +kernel⟩⟩
set_option maxRecDepth 100000 in
theorem mf9_die : MfV y9_die b9_die 1 none 0 := ⟨tb_of 1141 (by decide +kernel) rfl, tb_sel 43 (by decide +kernel) rfl, tb_of 9 (by decide +kernel) rfl, tb_of 1142 rfl rfl, ⟨by decide +kernel, by decide +kernel, by decide +kernel⟩⟩
set_option maxRecDepth 100000 in
theorem mf9_close : MfV y9_close b9_close 3 none 1 := ⟨tb_of 1145 (by decide +kernel) rfl, tb_sel 44 (by decide +kernel) rfl, tb_of 9 (by decide +kernel) rfl, tb_of 1146 rfl rfl, ⟨by decide +kernel, by decide +kernel, by decide +kernel⟩⟩
set_option maxRecDepth 100000 in
theorem mf9_label : MfV y9_label b9_label 3 (some .int) 1 := ⟨tb_of 1165 (by decide +kernel) rfl, tb_sel 49 (by decide +kernel) rfl, tb_of 9 (by decide +kernel) rfl, tb_of 1166 rfl rfl, ⟨by decide +kernel, by decide +kernel, by decide +kernel⟩⟩
set_option maxRecDepth 100000 in
theorem mf9_checkJump : MfV y9_checkJump b9_checkJump 7 none 3 := ⟨tb_of 1161 (by decide +kernel) rfl, tb_sel 48 (by decide +kernel) rfl, tb_of 9 (by decide +kernel) rfl, tb_of 1162 rfl rfl, ⟨by decide +kernel, by decide +kernel, by decide +kernel⟩⟩
set_option maxRecDepth 100000 in
theorem mf9_checkCall : MfV y9_checkCall b9_checkCall 4 none 2 := ⟨tb_of 1169 (by decide +kernel) rfl, tb_sel 50 (by decide +kernel) rfl, tb_of 9 (by decide +kernel) rfl, tb_of 1170 rfl rfl, ⟨by decide +kernel, by decide +kernel, by decide +kernel⟩⟩
set_option maxRecDepth 100000 in
theorem mf9_checkSelect : MfV y9_checkSelect b9_checkSelect 3 none 0 := ⟨tb_of 1173 (by decide +kernel) rfl, tb_sel 51 (by decide +kernel) rfl, tb_of 9 (by decide +kernel) rfl, tb_of 1174 rfl rfl, ⟨by decide +kernel, by decide +kernel, by decide +kernel⟩⟩
set_option maxRecDepth 100000 in
theorem mf9_checkVariable : MfV y9_checkVariable b9_checkVariable 6 none 3 := ⟨tb_of 1177 (by decide +kernel) rfl, tb_sel 52 (by decide +kernel) rfl, tb_of 9 (by decide +kernel) rfl, tb_of 1178 rfl rfl, ⟨by decide +kernel, by decide +kernel, by decide +kernel⟩⟩
set_option maxRecDepth 100000 in
theorem mf9_checkPlain : MfV y9_checkPlain b9_checkPlain 5 none 1 := ⟨tb_of 1181 (by decide +kernel) rfl, tb_sel 53 (by decide +kernel) rfl, tb_of 9 (by decide +kernel) rfl, tb_of 1182 rfl rfl, ⟨by decide +kernel, by decide +kernel, by decide +kernel⟩⟩
set_option maxRecDepth 100000 in
theorem mf9_checkOne : MfV y9_checkOne b9_checkOne 5 none 2 := ⟨tb_of 1137 (by decide +kernel) rfl, tb_sel 42 (by decide +kernel) rfl, tb_of 9 (by decide +kernel) rfl, tb_of 1138 rfl rfl, ⟨by decide +kernel, by decide +kernel, by decide +kernel⟩⟩
set_option maxRecDepth 100000 in
theorem mf9_find : MfV y9_find b9_find 5 (some .int) 1 := ⟨tb_of 1110 (by decide +kernel) rfl, tb_sel 36 (by decide +kernel) rfl, tb_of 9 (by decide +kernel) rfl, tb_of 1111 rfl rfl, ⟨by decide +kernel, by decide +kernel, by decide +kernel⟩⟩
set_option maxRecDepth 100000 in
theorem mf9_check : MfV y9_check b9_check 3 (some .int) 0 := ⟨tb_of 1105 (by decide +kernel) rfl, tb_of 1106 (by decide +kernel) rfl, tb_of 9 (by decide +kernel) rfl, tb_of 1107 rfl rfl, ⟨by decide +kernel, by decide +kernel, by decide +kernel⟩⟩
set_option maxRecDepth 100000 in
theorem mf9_fault : MfV y9_fault b9_fault 6 (some .int) 1 := ⟨tb_of 1184 (by decide +kernel) rfl, tb_of 1185 (by decide +kernel) rfl, tb_of 9 (by decide +kernel) rfl, tb_of 1186 rfl rfl, ⟨by decide +kernel, by decide +kernel, by decide +kernel⟩⟩
set_option maxRecDepth 100000 in
theorem mf9_argue : MfV y9_argue b9_argue 2 (some .int) 1 := ⟨tb_of 1188 (by decide +kernel) rfl, tb_of 1189 (by decide +kernel) rfl, tb_of 9 (by decide +kernel) rfl, tb_of 1190 rfl rfl, ⟨by decide +kernel, by decide +kernel, by decide +kernel⟩⟩
set_option maxRecDepth 100000 in
theorem mf9_enter : MfV y9_enter b9_enter 3 none 2 := ⟨tb_of 1198 (by decide +kernel) rfl, tb_sel 54 (by decide +kernel) rfl, tb_of 9 (by decide +kernel) rfl, tb_of 1199 rfl rfl, ⟨by decide +kernel, by decide +kernel, by decide +kernel⟩⟩
set_option maxRecDepth 100000 in
theorem mf9_start : MfV y9_start b9_start 3 (some .int) 1 := ⟨tb_of 1192 (by decide +kernel) rfl, tb_of 1193 (by decide +kernel) rfl, tb_of 9 (by decide +kernel) rfl, tb_of 1194 rfl rfl, ⟨by decide +kernel, by decide +kernel, by decide +kernel⟩⟩
set_option maxRecDepth 100000 in
theorem mf9_push : MfV y9_push b9_push 5 none 2 := ⟨tb_of 1218 (by decide +kernel) rfl, tb_sel 58 (by decide +kernel) rfl, tb_of 9 (by decide +kernel) rfl, tb_of 1219 rfl rfl, ⟨by decide +kernel, by decide +kernel, by decide +kernel⟩⟩
set_option maxRecDepth 100000 in
theorem mf9_popInt : MfV y9_popInt b9_popInt 1 (some .int) 0 := ⟨tb_of 1230 (by decide +kernel) rfl, tb_sel 61 (by decide +kernel) rfl, tb_of 9 (by decide +kernel) rfl, tb_of 1231 rfl rfl, ⟨by decide +kernel, by decide +kernel, by decide +kernel⟩⟩
set_option maxRecDepth 100000 in
theorem mf9_leave : MfV y9_leave b9_leave 7 none 0 := ⟨tb_of 1214 (by decide +kernel) rfl, tb_sel 57 (by decide +kernel) rfl, tb_of 9 (by decide +kernel) rfl, tb_of 1215 rfl rfl, ⟨by decide +kernel, by decide +kernel, by decide +kernel⟩⟩
set_option maxRecDepth 100000 in
theorem mf9_jump : MfV y9_jump b9_jump 10 none 1 := ⟨tb_of 1234 (by decide +kernel) rfl, tb_sel 62 (by decide +kernel) rfl, tb_of 9 (by decide +kernel) rfl, tb_of 1235 rfl rfl, ⟨by decide +kernel, by decide +kernel, by decide +kernel⟩⟩
set_option maxRecDepth 100000 in
theorem mf9_block : MfV y9_block b9_block 7 none 3 := ⟨tb_of 1226 (by decide +kernel) rfl, tb_sel 60 (by decide +kernel) rfl, tb_of 9 (by decide +kernel) rfl, tb_of 1227 rfl rfl, ⟨by decide +kernel, by decide +kernel, by decide +kernel⟩⟩
set_option maxRecDepth 100000 in
theorem mf9_agree : MfV y9_agree b9_agree 4 (some .boolean) 2 := ⟨tb_of 1242 (by decide +kernel) rfl, tb_sel 64 (by decide +kernel) rfl, tb_of 9 (by decide +kernel) rfl, tb_of 1243 rfl rfl, ⟨by decide +kernel, by decide +kernel, by decide +kernel⟩⟩
set_option maxRecDepth 100000 in
theorem mf9_call : MfV y9_call b9_call 6 none 2 := ⟨tb_of 1238 (by decide +kernel) rfl, tb_sel 63 (by decide +kernel) rfl, tb_of 9 (by decide +kernel) rfl, tb_of 1239 rfl rfl, ⟨by decide +kernel, by decide +kernel, by decide +kernel⟩⟩
set_option maxRecDepth 100000 in
theorem mf9_variable : MfV y9_variable b9_variable 5 none 2 := ⟨tb_of 1250 (by decide +kernel) rfl, tb_sel 66 (by decide +kernel) rfl, tb_of 9 (by decide +kernel) rfl, tb_of 1251 rfl rfl, ⟨by decide +kernel, by decide +kernel, by decide +kernel⟩⟩
set_option maxRecDepth 100000 in
theorem mf9_access : MfV y9_access b9_access 12 none 2 := ⟨tb_of 1258 (by decide +kernel) rfl, tb_sel 68 (by decide +kernel) rfl, tb_of 9 (by decide +kernel) rfl, tb_of 1259 rfl rfl, ⟨by decide +kernel, by decide +kernel, by decide +kernel⟩⟩
set_option maxRecDepth 100000 in
theorem mf9_bits : MfS y9_bits b9_bits 7 (some .long) 4 := ⟨tb_of 1273 (by decide +kernel) rfl, tb_of 9 (by decide +kernel) rfl, tb_of 1274 rfl rfl, ⟨by decide +kernel, by decide +kernel, by decide +kernel⟩⟩
set_option maxRecDepth 100000 in
theorem mf9_calculate : MfV y9_calculate b9_calculate 9 none 2 := ⟨tb_of 1270 (by decide +kernel) rfl, tb_sel 70 (by decide +kernel) rfl, tb_of 9 (by decide +kernel) rfl, tb_of 1271 rfl rfl, ⟨by decide +kernel, by decide +kernel, by decide +kernel⟩⟩
set_option maxRecDepth 100000 in
theorem mf9_measure : MfV y9_measure b9_measure 8 none 1 := ⟨tb_of 1277 (by decide +kernel) rfl, tb_sel 71 (by decide +kernel) rfl, tb_of 9 (by decide +kernel) rfl, tb_of 1278 rfl rfl, ⟨by decide +kernel, by decide +kernel, by decide +kernel⟩⟩
set_option maxRecDepth 100000 in
theorem mf9_turn : MfV y9_turn b9_turn 6 none 1 := ⟨tb_of 1263 (by decide +kernel) rfl, tb_sel 69 (by decide +kernel) rfl, tb_of 9 (by decide +kernel) rfl, tb_of 1264 rfl rfl, ⟨by decide +kernel, by decide +kernel, by decide +kernel⟩⟩
set_option maxRecDepth 100000 in
theorem mf9_plain : MfV y9_plain b9_plain 3 none 2 := ⟨tb_of 1254 (by decide +kernel) rfl, tb_sel 67 (by decide +kernel) rfl, tb_of 9 (by decide +kernel) rfl, tb_of 1255 rfl rfl, ⟨by decide +kernel, by decide +kernel, by decide +kernel⟩⟩
set_option maxRecDepth 100000 in
theorem mf9_select : MfV y9_select b9_select 2 none 0 := ⟨tb_of 1246 (by decide +kernel) rfl, tb_sel 65 (by decide +kernel) rfl, tb_of 9 (by decide +kernel) rfl, tb_of 1247 rfl rfl, ⟨by decide +kernel, by decide +kernel, by decide +kernel⟩⟩
set_option maxRecDepth 100000 in
theorem mf9_moves : MfV y9_moves b9_moves 5 none 3 := ⟨tb_of 1210 (by decide +kernel) rfl, tb_sel 56 (by decide +kernel) rfl, tb_of 9 (by decide +kernel) rfl, tb_of 1211 rfl rfl, ⟨by decide +kernel, by decide +kernel, by decide +kernel⟩⟩
set_option maxRecDepth 100000 in
theorem mf9_step : MfV y9_step b9_step 5 none 0 := ⟨tb_of 1206 (by decide +kernel) rfl, tb_sel 55 (by decide +kernel) rfl, tb_of 9 (by decide +kernel) rfl, tb_of 1207 rfl rfl, ⟨by decide +kernel, by decide +kernel, by decide +kernel⟩⟩
set_option maxRecDepth 100000 in
theorem mf9_run : MfV y9_run b9_run 3 (some .int) 1 := ⟨tb_of 1201 (by decide +kernel) rfl, tb_of 1202 (by decide +kernel) rfl, tb_of 9 (by decide +kernel) rfl, tb_of 1203 rfl rfl, ⟨by decide +kernel, by decide +kernel, by decide +kernel⟩⟩
set_option maxRecDepth 100000 in
theorem mf9_stop : MfV y9_stop b9_stop 1 (some .int) 0 := ⟨tb_of 1282 (by decide +kernel) rfl, tb_of 1283 (by decide +kernel) rfl, tb_of 9 (by decide +kernel) rfl, tb_of 1284 rfl rfl, ⟨by decide +kernel, by decide +kernel, by decide +kernel⟩⟩
set_option maxRecDepth 100000 in
theorem mf9_result : MfV y9_result b9_result 1 (some .long) 0 := ⟨tb_of 1286 (by decide +kernel) rfl, tb_of 1287 (by decide +kernel) rfl, tb_of 9 (by decide +kernel) rfl, tb_of 1288 rfl rfl, ⟨by decide +kernel, by decide +kernel, by decide +kernel⟩⟩
set_option maxRecDepth 100000 in
theorem mf9_real : MfV y9_real b9_real 1 (some .double) 0 := ⟨tb_of 1290 (by decide +kernel) rfl, tb_of 1291 (by decide +kernel) rfl, tb_of 9 (by decide +kernel) rfl, tb_of 1292 rfl rfl, ⟨by decide +kernel, by decide +kernel, by decide +kernel⟩⟩
set_option maxRecDepth 100000 in
theorem mf9_global : MfV y9_global b9_global 2 (some .long) 1 := ⟨tb_of 1294 (by decide +kernel) rfl, tb_of 1295 (by decide +kernel) rfl, tb_of 9 (by decide +kernel) rfl, tb_of 1296 rfl rfl, ⟨by decide +kernel, by decide +kernel, by decide +kernel⟩⟩
set_option maxRecDepth 100000 in
theorem mf9_realGlobal : MfV y9_realGlobal b9_realGlobal 1 (some .double) 0 := ⟨tb_of 1298 (by decide +kernel) rfl, tb_of 1299 (by decide +kernel) rfl, tb_of 9 (by decide +kernel) rfl, tb_of 1300 rfl rfl, ⟨by decide +kernel, by decide +kernel, by decide +kernel⟩⟩
set_option maxRecDepth 100000 in
theorem mf9_memory : MfV y9_memory b9_memory 2 (some .int) 1 := ⟨tb_of 1302 (by decide +kernel) rfl, tb_of 1303 (by decide +kernel) rfl, tb_of 9 (by decide +kernel) rfl, tb_of 1304 rfl rfl, ⟨by decide +kernel, by decide +kernel, by decide +kernel⟩⟩
set_option maxRecDepth 100000 in
theorem mf9_wipe : MfV y9_wipe b9_wipe 3 (some .int) 0 := ⟨tb_of 1306 (by decide +kernel) rfl, tb_of 1307 (by decide +kernel) rfl, tb_of 9 (by decide +kernel) rfl, tb_of 1308 rfl rfl, ⟨by decide +kernel, by decide +kernel, by decide +kernel⟩⟩
set_option maxRecDepth 100000 in
theorem mf9_count : MfV y9_count b9_count 2 (some .int) 1 := ⟨tb_of 1310 (by decide +kernel) rfl, tb_of 1311 (by decide +kernel) rfl, tb_of 9 (by decide +kernel) rfl, tb_of 1312 rfl rfl, ⟨by decide +kernel, by decide +kernel, by decide +kernel⟩⟩
set_option maxRecDepth 100000 in
theorem mf0_begin : MfV y0_begin b0_begin 2 none 1 := ⟨tb_of 589 (by decide +kernel) rfl, tb_of 590 (by decide +kernel) rfl, tb_of 8 (by decide +kernel) rfl, tb_of 591 rfl rfl, ⟨by decide +kernel, by decide +kernel, by decide +kernel⟩⟩
set_option maxRecDepth 100000 in
theorem mf0_setParameter : MfV y0_setParameter b0_setParameter 3 none 2 := ⟨tb_of 602 (by decide +kernel) rfl, tb_of 603 (by decide +kernel) rfl, tb_of 8 (by decide +kernel) rfl, tb_of 604 rfl rfl, ⟨by decide +kernel, by decide +kernel, by decide +kernel⟩⟩
set_option maxRecDepth 100000 in
theorem mf0_takeParametersFrom : MfV y0_takeParametersFrom b0_takeParametersFrom 4 none 1 := ⟨tb_of 725 (by decide +kernel) rfl, tb_of 726 (by decide +kernel) rfl, tb_of 8 (by decide +kernel) rfl, tb_of 727 rfl rfl, ⟨by decide +kernel, by decide +kernel, by decide +kernel⟩⟩
set_option maxRecDepth 100000 in
theorem mf0_beginFrame : MfV y0_beginFrame b0_beginFrame 2 none 1 := ⟨tb_of 629 (by decide +kernel) rfl, tb_of 630 (by decide +kernel) rfl, tb_of 8 (by decide +kernel) rfl, tb_of 631 rfl rfl, ⟨by decide +kernel, by decide +kernel, by decide +kernel⟩⟩
set_option maxRecDepth 100000 in
theorem mf0_beginIf : MfV y0_beginIf b0_beginIf 2 none 1 := ⟨tb_of 637 (by decide +kernel) rfl, tb_of 638 (by decide +kernel) rfl, tb_of 8 (by decide +kernel) rfl, tb_of 639 rfl rfl, ⟨by decide +kernel, by decide +kernel, by decide +kernel⟩⟩
set_option maxRecDepth 100000 in
theorem mf0_endFrame : MfV y0_endFrame b0_endFrame 1 none 0 := ⟨tb_of 670 (by decide +kernel) rfl, tb_of 671 (by decide +kernel) rfl, tb_of 8 (by decide +kernel) rfl, tb_of 672 rfl rfl, ⟨by decide +kernel, by decide +kernel, by decide +kernel⟩⟩
set_option maxRecDepth 100000 in
theorem mf0_goBehindEnd : MfV y0_goBehindEnd b0_goBehindEnd 1 none 0 := ⟨tb_of 666 (by decide +kernel) rfl, tb_of 667 (by decide +kernel) rfl, tb_of 8 (by decide +kernel) rfl, tb_of 668 rfl rfl, ⟨by decide +kernel, by decide +kernel, by decide +kernel⟩⟩
set_option maxRecDepth 100000 in
theorem mf0_jumpsWithin : MfV y0_jumpsWithin b0_jumpsWithin 5 (some .boolean) 1 := ⟨tb_of 701 (by decide +kernel) rfl, tb_of 702 (by decide +kernel) rfl, tb_of 8 (by decide +kernel) rfl, tb_of 703 rfl rfl, ⟨by decide +kernel, by decide +kernel, by decide +kernel⟩⟩
set_option maxRecDepth 100000 in
theorem mf1_clear : MfV y1_clear b1_clear 2 none 0 := ⟨tb_of 593 (by decide +kernel) rfl, tb_of 594 (by decide +kernel) rfl, tb_of 7 (by decide +kernel) rfl, tb_of 595 rfl rfl, ⟨by decide +kernel, by decide +kernel, by decide +kernel⟩⟩
set_option maxRecDepth 100000 in
theorem mf1_height : MfV y1_height b1_height 1 (some .int) 0 := ⟨tb_of 633 (by decide +kernel) rfl, tb_of 634 (by decide +kernel) rfl, tb_of 7 (by decide +kernel) rfl, tb_of 635 rfl rfl, ⟨by decide +kernel, by decide +kernel, by decide +kernel⟩⟩
set_option maxRecDepth 100000 in
theorem mf1_numberAt : MfV y1_numberAt b1_numberAt 2 (some .long) 1 := ⟨tb_of 653 (by decide +kernel) rfl, tb_of 654 (by decide +kernel) rfl, tb_of 7 (by decide +kernel) rfl, tb_of 655 rfl rfl, ⟨by decide +kernel, by decide +kernel, by decide +kernel⟩⟩
set_option maxRecDepth 100000 in
theorem mf1_realAt : MfV y1_realAt b1_realAt 2 (some .double) 1 := ⟨tb_of 256 (by decide +kernel) rfl, tb_of 257 (by decide +kernel) rfl, tb_of 7 (by decide +kernel) rfl, tb_of 258 rfl rfl, ⟨by decide +kernel, by decide +kernel, by decide +kernel⟩⟩
set_option maxRecDepth 100000 in
theorem mf1_set : MfV y1_set b1_set 6 none 3 := ⟨tb_of 597 (by decide +kernel) rfl, tb_of 598 (by decide +kernel) rfl, tb_of 7 (by decide +kernel) rfl, tb_of 599 rfl rfl, ⟨by decide +kernel, by decide +kernel, by decide +kernel⟩⟩
set_option maxRecDepth 100000 in
theorem mf1_setFrom : MfV y1_setFrom b1_setFrom 4 none 3 := ⟨tb_of 680 (by decide +kernel) rfl, tb_of 681 (by decide +kernel) rfl, tb_of 7 (by decide +kernel) rfl, tb_of 682 rfl rfl, ⟨by decide +kernel, by decide +kernel, by decide +kernel⟩⟩
set_option maxRecDepth 100000 in
theorem mf1_put : MfV y1_put b1_put 5 none 2 := ⟨tb_of 690 (by decide +kernel) rfl, tb_sel 23 (by decide +kernel) rfl, tb_of 7 (by decide +kernel) rfl, tb_of 691 rfl rfl, ⟨by decide +kernel, by decide +kernel, by decide +kernel⟩⟩
set_option maxRecDepth 100000 in
theorem mf1_putNumber : MfV y1_putNumber b1_putNumber 3 none 1 := ⟨tb_of 751 (by decide +kernel) rfl, tb_of 752 (by decide +kernel) rfl, tb_of 7 (by decide +kernel) rfl, tb_of 753 rfl rfl, ⟨by decide +kernel, by decide +kernel, by decide +kernel⟩⟩
set_option maxRecDepth 100000 in
theorem mf1_putReal : MfV y1_putReal b1_putReal 3 none 1 := ⟨tb_of 747 (by decide +kernel) rfl, tb_of 748 (by decide +kernel) rfl, tb_of 7 (by decide +kernel) rfl, tb_of 749 rfl rfl, ⟨by decide +kernel, by decide +kernel, by decide +kernel⟩⟩
set_option maxRecDepth 100000 in
theorem mf1_putTruth : MfV y1_putTruth b1_putTruth 2 none 1 := ⟨tb_of 787 (by decide +kernel) rfl, tb_of 788 (by decide +kernel) rfl, tb_of 7 (by decide +kernel) rfl, tb_of 789 rfl rfl, ⟨by decide +kernel, by decide +kernel, by decide +kernel⟩⟩
set_option maxRecDepth 100000 in
theorem mf1_putFrom : MfV y1_putFrom b1_putFrom 3 none 2 := ⟨tb_of 685 (by decide +kernel) rfl, tb_of 686 (by decide +kernel) rfl, tb_of 7 (by decide +kernel) rfl, tb_of 687 rfl rfl, ⟨by decide +kernel, by decide +kernel, by decide +kernel⟩⟩
set_option maxRecDepth 100000 in
theorem mf1_takeNumber : MfV y1_takeNumber b1_takeNumber 1 (some .long) 0 := ⟨tb_of 645 (by decide +kernel) rfl, tb_of 646 (by decide +kernel) rfl, tb_of 7 (by decide +kernel) rfl, tb_of 647 rfl rfl, ⟨by decide +kernel, by decide +kernel, by decide +kernel⟩⟩
set_option maxRecDepth 100000 in
theorem mf1_takeInt : MfV y1_takeInt b1_takeInt 1 (some .int) 0 := ⟨tb_of 641 (by decide +kernel) rfl, tb_of 642 (by decide +kernel) rfl, tb_of 7 (by decide +kernel) rfl, tb_of 643 rfl rfl, ⟨by decide +kernel, by decide +kernel, by decide +kernel⟩⟩
set_option maxRecDepth 100000 in
theorem mf1_takeReal : MfV y1_takeReal b1_takeReal 1 (some .double) 0 := ⟨tb_of 804 (by decide +kernel) rfl, tb_of 805 (by decide +kernel) rfl, tb_of 7 (by decide +kernel) rfl, tb_of 806 rfl rfl, ⟨by decide +kernel, by decide +kernel, by decide +kernel⟩⟩
set_option maxRecDepth 100000 in
theorem mf1_drop : MfV y1_drop b1_drop 1 none 0 := ⟨tb_of 649 (by decide +kernel) rfl, tb_of 650 (by decide +kernel) rfl, tb_of 7 (by decide +kernel) rfl, tb_of 651 rfl rfl, ⟨by decide +kernel, by decide +kernel, by decide +kernel⟩⟩
set_option maxRecDepth 100000 in
theorem mf1_cutTo : MfV y1_cutTo b1_cutTo 2 none 1 := ⟨tb_of 706 (by decide +kernel) rfl, tb_of 707 (by decide +kernel) rfl, tb_of 7 (by decide +kernel) rfl, tb_of 708 rfl rfl, ⟨by decide +kernel, by decide +kernel, by decide +kernel⟩⟩
set_option maxRecDepth 100000 in
theorem mf2_faultIn : MfV y2_faultIn b2_faultIn 5 (some .int) 1 := ⟨tb_of 419 (by decide +kernel) rfl, tb_of 420 (by decide +kernel) rfl, tb_of 3 (by decide +kernel) rfl, tb_of 421 rfl rfl, ⟨by decide +kernel, by decide +kernel, by decide +kernel⟩⟩
set_option maxRecDepth 100000 in
theorem mf2_goOver : MfV y2_goOver b2_goOver 4 none 1 := ⟨tb_of 458 (by decide +kernel) rfl, tb_sel 4 (by decide +kernel) rfl, tb_of 3 (by decide +kernel) rfl, tb_of 459 rfl rfl, ⟨by decide +kernel, by decide +kernel, by decide +kernel⟩⟩
set_option maxRecDepth 100000 in
theorem mf2_goOverFrames : MfV y2_goOverFrames b2_goOverFrames 4 none 3 := ⟨tb_of 463 (by decide +kernel) rfl, tb_sel 5 (by decide +kernel) rfl, tb_of 3 (by decide +kernel) rfl, tb_of 464 rfl rfl, ⟨by decide +kernel, by decide +kernel, by decide +kernel⟩⟩
set_option maxRecDepth 100000 in
theorem mf2_beginFrame : MfV y2_beginFrame b2_beginFrame 4 none 3 := ⟨tb_of 428 (by decide +kernel) rfl, tb_sel 3 (by decide +kernel) rfl, tb_of 3 (by decide +kernel) rfl, tb_of 429 rfl rfl, ⟨by decide +kernel, by decide +kernel, by decide +kernel⟩⟩
set_option maxRecDepth 100000 in
theorem mf2_turnToElse : MfV y2_turnToElse b2_turnToElse 2 none 1 := ⟨tb_of 475 (by decide +kernel) rfl, tb_sel 8 (by decide +kernel) rfl, tb_of 3 (by decide +kernel) rfl, tb_of 476 rfl rfl, ⟨by decide +kernel, by decide +kernel, by decide +kernel⟩⟩
set_option maxRecDepth 100000 in
theorem mf2_endFrame : MfV y2_endFrame b2_endFrame 2 none 1 := ⟨tb_of 487 (by decide +kernel) rfl, tb_sel 10 (by decide +kernel) rfl, tb_of 3 (by decide +kernel) rfl, tb_of 488 rfl rfl, ⟨by decide +kernel, by decide +kernel, by decide +kernel⟩⟩
set_option maxRecDepth 100000 in
theorem mf2_takeAllOfFrame : MfV y2_takeAllOfFrame b2_takeAllOfFrame 1 none 0 := ⟨tb_of 483 (by decide +kernel) rfl, tb_sel 9 (by decide +kernel) rfl, tb_of 3 (by decide +kernel) rfl, tb_of 484 rfl rfl, ⟨by decide +kernel, by decide +kernel, by decide +kernel⟩⟩
set_option maxRecDepth 100000 in
theorem mf2_goOverJumps : MfV y2_goOverJumps b2_goOverJumps 4 none 3 := ⟨tb_of 499 (by decide +kernel) rfl, tb_sel 12 (by decide +kernel) rfl, tb_of 3 (by decide +kernel) rfl, tb_of 500 rfl rfl, ⟨by decide +kernel, by decide +kernel, by decide +kernel⟩⟩
set_option maxRecDepth 100000 in
theorem mf2_kindOfJumps : MfV y2_kindOfJumps b2_kindOfJumps 5 (some .int) 2 := ⟨tb_of 511 (by decide +kernel) rfl, tb_sel 14 (by decide +kernel) rfl, tb_of 3 (by decide +kernel) rfl, tb_of 512 rfl rfl, ⟨by decide +kernel, by decide +kernel, by decide +kernel⟩⟩
set_option maxRecDepth 100000 in
theorem mf2_kindOfJump : MfV y2_kindOfJump b2_kindOfJump 3 (some .int) 1 := ⟨tb_of 503 (by decide +kernel) rfl, tb_sel 13 (by decide +kernel) rfl, tb_of 3 (by decide +kernel) rfl, tb_of 504 rfl rfl, ⟨by decide +kernel, by decide +kernel, by decide +kernel⟩⟩
set_option maxRecDepth 100000 in
theorem mf2_goOverValues : MfV y2_goOverValues b2_goOverValues 3 none 2 := ⟨tb_of 515 (by decide +kernel) rfl, tb_sel 15 (by decide +kernel) rfl, tb_of 3 (by decide +kernel) rfl, tb_of 516 rfl rfl, ⟨by decide +kernel, by decide +kernel, by decide +kernel⟩⟩
set_option maxRecDepth 100000 in
theorem mf2_goOverCall : MfV y2_goOverCall b2_goOverCall 4 none 2 := ⟨tb_of 519 (by decide +kernel) rfl, tb_sel 16 (by decide +kernel) rfl, tb_of 3 (by decide +kernel) rfl, tb_of 520 rfl rfl, ⟨by decide +kernel, by decide +kernel, by decide +kernel⟩⟩
set_option maxRecDepth 100000 in
theorem mf2_goOverSelect : MfV y2_goOverSelect b2_goOverSelect 3 none 0 := ⟨tb_of 532 (by decide +kernel) rfl, tb_sel 17 (by decide +kernel) rfl, tb_of 3 (by decide +kernel) rfl, tb_of 533 rfl rfl, ⟨by decide +kernel, by decide +kernel, by decide +kernel⟩⟩
set_option maxRecDepth 100000 in
theorem mf2_goOverGlobal : MfV y2_goOverGlobal b2_goOverGlobal 4 none 2 := ⟨tb_of 536 (by decide +kernel) rfl, tb_sel 18 (by decide +kernel) rfl, tb_of 3 (by decide +kernel) rfl, tb_of 537 rfl rfl, ⟨by decide +kernel, by decide +kernel, by decide +kernel⟩⟩
set_option maxRecDepth 100000 in
theorem mf2_goOverVariable : MfV y2_goOverVariable b2_goOverVariable 3 none 2 := ⟨tb_of 540 (by decide +kernel) rfl, tb_sel 19 (by decide +kernel) rfl, tb_of 3 (by decide +kernel) rfl, tb_of 541 rfl rfl, ⟨by decide +kernel, by decide +kernel, by decide +kernel⟩⟩
set_option maxRecDepth 100000 in
theorem mf2_goOverSignature : MfV y2_goOverSignature b2_goOverSignature 2 none 1 := ⟨tb_of 545 (by decide +kernel) rfl, tb_sel 20 (by decide +kernel) rfl, tb_of 3 (by decide +kernel) rfl, tb_of 546 rfl rfl, ⟨by decide +kernel, by decide +kernel, by decide +kernel⟩⟩
set_option maxRecDepth 100000 in
theorem mf2_take : MfV y2_take b2_take 3 (some .int) 1 := ⟨tb_of 471 (by decide +kernel) rfl, tb_sel 7 (by decide +kernel) rfl, tb_of 3 (by decide +kernel) rfl, tb_of 472 rfl rfl, ⟨by decide +kernel, by decide +kernel, by decide +kernel⟩⟩
set_option maxRecDepth 100000 in
theorem mf2_put : MfV y2_put b2_put 2 none 1 := ⟨tb_of 491 (by decide +kernel) rfl, tb_sel 11 (by decide +kernel) rfl, tb_of 3 (by decide +kernel) rfl, tb_of 492 rfl rfl, ⟨by decide +kernel, by decide +kernel, by decide +kernel⟩⟩
set_option maxRecDepth 100000 in
theorem mf2_die : MfV y2_die b2_die 1 none 0 := ⟨tb_of 467 (by decide +kernel) rfl, tb_sel 6 (by decide +kernel) rfl, tb_of 3 (by decide +kernel) rfl, tb_of 468 rfl rfl, ⟨by decide +kernel, by decide +kernel, by decide +kernel⟩⟩
set_option maxRecDepth 100000 in
theorem mf3_open : MfV y3_open b3_open 5 none 4 := ⟨tb_of 431 (by decide +kernel) rfl, tb_of 432 (by decide +kernel) rfl, tb_of 4 (by decide +kernel) rfl, tb_of 433 rfl rfl, ⟨by decide +kernel, by decide +kernel, by decide +kernel⟩⟩
set_option maxRecDepth 100000 in
theorem mf3_kindOfJump : MfV y3_kindOfJump b3_kindOfJump 1 (some .int) 0 := ⟨tb_of 506 (by decide +kernel) rfl, tb_of 507 (by decide +kernel) rfl, tb_of 4 (by decide +kernel) rfl, tb_of 508 rfl rfl, ⟨by decide +kernel, by decide +kernel, by decide +kernel⟩⟩
set_option maxRecDepth 100000 in
theorem mf3_lacksElse : MfV y3_lacksElse b3_lacksElse 1 (some .boolean) 0 := ⟨tb_of 478 (by decide +kernel) rfl, tb_of 479 (by decide +kernel) rfl, tb_of 4 (by decide +kernel) rfl, tb_of 480 rfl rfl, ⟨by decide +kernel, by decide +kernel, by decide +kernel⟩⟩
set_option maxRecDepth 100000 in
theorem mf4_reshape : MfV y4_reshape b4_reshape 4 none 3 := ⟨tb_of 357 (by decide +kernel) rfl, tb_of 358 (by decide +kernel) rfl, tb_of 2 (by decide +kernel) rfl, tb_of 359 rfl rfl, ⟨by decide +kernel, by decide +kernel, by decide +kernel⟩⟩
set_option maxRecDepth 100000 in
theorem mf4_addVariables : MfV y4_addVariables b4_addVariables 2 none 1 := ⟨tb_of 362 (by decide +kernel) rfl, tb_sel 1 (by decide +kernel) rfl, tb_of 2 (by decide +kernel) rfl, tb_of 363 rfl rfl, ⟨by decide +kernel, by decide +kernel, by decide +kernel⟩⟩
set_option maxRecDepth 100000 in
theorem mf4_addVariable : MfV y4_addVariable b4_addVariable 2 none 1 := ⟨tb_of 366 (by decide +kernel) rfl, tb_sel 2 (by decide +kernel) rfl, tb_of 2 (by decide +kernel) rfl, tb_of 367 rfl rfl, ⟨by decide +kernel, by decide +kernel, by decide +kernel⟩⟩
set_option maxRecDepth 100000 in
theorem mf4_parameterCount : MfV y4_parameterCount b4_parameterCount 1 (some .int) 0 := ⟨tb_of 523 (by decide +kernel) rfl, tb_of 524 (by decide +kernel) rfl, tb_of 2 (by decide +kernel) rfl, tb_of 525 rfl rfl, ⟨by decide +kernel, by decide +kernel, by decide +kernel⟩⟩
set_option maxRecDepth 100000 in
theorem mf4_variableCount : MfV y4_variableCount b4_variableCount 1 (some .int) 0 := ⟨tb_of 369 (by decide +kernel) rfl, tb_of 370 (by decide +kernel) rfl, tb_of 2 (by decide +kernel) rfl, tb_of 371 rfl rfl, ⟨by decide +kernel, by decide +kernel, by decide +kernel⟩⟩
set_option maxRecDepth 100000 in
theorem mf4_outcome : MfV y4_outcome b4_outcome 1 (some .int) 0 := ⟨tb_of 423 (by decide +kernel) rfl, tb_of 424 (by decide +kernel) rfl, tb_of 2 (by decide +kernel) rfl, tb_of 425 rfl rfl, ⟨by decide +kernel, by decide +kernel, by decide +kernel⟩⟩
set_option maxRecDepth 100000 in
theorem mf4_length : MfV y4_length b4_length 1 (some .int) 0 := ⟨tb_of 381 (by decide +kernel) rfl, tb_of 382 (by decide +kernel) rfl, tb_of 2 (by decide +kernel) rfl, tb_of 383 rfl rfl, ⟨by decide +kernel, by decide +kernel, by decide +kernel⟩⟩
set_option maxRecDepth 100000 in
theorem mf4_kindOf : MfV y4_kindOf b4_kindOf 2 (some .int) 1 := ⟨tb_of 527 (by decide +kernel) rfl, tb_of 528 (by decide +kernel) rfl, tb_of 2 (by decide +kernel) rfl, tb_of 529 rfl rfl, ⟨by decide +kernel, by decide +kernel, by decide +kernel⟩⟩
set_option maxRecDepth 100000 in
theorem mf4_isCalledLike : MfV y4_isCalledLike b4_isCalledLike 3 (some .boolean) 1 := ⟨tb_of 732 (by decide +kernel) rfl, tb_of 733 (by decide +kernel) rfl, tb_of 2 (by decide +kernel) rfl, tb_of 734 rfl rfl, ⟨by decide +kernel, by decide +kernel, by decide +kernel⟩⟩
set_option maxRecDepth 100000 in
theorem mf4_append : MfV y4_append b4_append 2 none 1 := ⟨tb_of 400 (by decide +kernel) rfl, tb_of 401 (by decide +kernel) rfl, tb_of 2 (by decide +kernel) rfl, tb_of 402 rfl rfl, ⟨by decide +kernel, by decide +kernel, by decide +kernel⟩⟩
set_option maxRecDepth 100000 in
theorem mf4_byteAt : MfV y4_byteAt b4_byteAt 2 (some .int) 1 := ⟨tb_of 444 (by decide +kernel) rfl, tb_of 445 (by decide +kernel) rfl, tb_of 2 (by decide +kernel) rfl, tb_of 446 rfl rfl, ⟨by decide +kernel, by decide +kernel, by decide +kernel⟩⟩
set_option maxRecDepth 100000 in
theorem mf4_sizeAt : MfV y4_sizeAt b4_sizeAt 4 (some .int) 1 := ⟨tb_of 440 (by decide +kernel) rfl, tb_of 441 (by decide +kernel) rfl, tb_of 2 (by decide +kernel) rfl, tb_of 442 rfl rfl, ⟨by decide +kernel, by decide +kernel, by decide +kernel⟩⟩
set_option maxRecDepth 100000 in
theorem mf4_noteElse : MfV y4_noteElse b4_noteElse 3 none 2 := ⟨tb_of 435 (by decide +kernel) rfl, tb_of 436 (by decide +kernel) rfl, tb_of 2 (by decide +kernel) rfl, tb_of 437 rfl rfl, ⟨by decide +kernel, by decide +kernel, by decide +kernel⟩⟩
set_option maxRecDepth 100000 in
theorem mf4_noteEnd : MfV y4_noteEnd b4_noteEnd 3 none 2 := ⟨tb_of 494 (by decide +kernel) rfl, tb_of 495 (by decide +kernel) rfl, tb_of 2 (by decide +kernel) rfl, tb_of 496 rfl rfl, ⟨by decide +kernel, by decide +kernel, by decide +kernel⟩⟩
set_option maxRecDepth 100000 in
theorem mf4_behindElse : MfV y4_behindElse b4_behindElse 2 (some .int) 1 := ⟨tb_of 658 (by decide +kernel) rfl, tb_of 659 (by decide +kernel) rfl, tb_of 2 (by decide +kernel) rfl, tb_of 660 rfl rfl, ⟨by decide +kernel, by decide +kernel, by decide +kernel⟩⟩
set_option maxRecDepth 100000 in
theorem mf4_behindEnd : MfV y4_behindEnd b4_behindEnd 2 (some .int) 1 := ⟨tb_of 662 (by decide +kernel) rfl, tb_of 663 (by decide +kernel) rfl, tb_of 2 (by decide +kernel) rfl, tb_of 664 rfl rfl, ⟨by decide +kernel, by decide +kernel, by decide +kernel⟩⟩
set_option maxRecDepth 100000 in
theorem mf5_signature : MfS y5_signature b5_signature 1 (some .int) 1 := ⟨tb_of 451 (by decide +kernel) rfl, tb_of 16 (by decide +kernel) rfl, tb_of 452 rfl rfl, ⟨by decide +kernel, by decide +kernel, by decide +kernel⟩⟩
set_option maxRecDepth 100000 in
theorem mf5_isKnown : MfS y5_isKnown b5_isKnown 1 (some .boolean) 1 := ⟨tb_of 448 (by decide +kernel) rfl, tb_of 16 (by decide +kernel) rfl, tb_of 449 rfl rfl, ⟨by decide +kernel, by decide +kernel, by decide +kernel⟩⟩
set_option maxRecDepth 100000 in
theorem mf5_hasOperand : MfS y5_hasOperand b5_hasOperand 1 (some .boolean) 1 := ⟨tb_of 454 (by decide +kernel) rfl, tb_of 16 (by decide +kernel) rfl, tb_of 455 rfl rfl, ⟨by decide +kernel, by decide +kernel, by decide +kernel⟩⟩
set_option maxRecDepth 100000 in
theorem mf6_depth : MfV y6_depth b6_depth 1 (some .int) 0 := ⟨tb_of 825 (by decide +kernel) rfl, tb_of 826 (by decide +kernel) rfl, tb_of 5 (by decide +kernel) rfl, tb_of 827 rfl rfl, ⟨by decide +kernel, by decide +kernel, by decide +kernel⟩⟩
set_option maxRecDepth 100000 in
theorem mf6_outcomeKind : MfV y6_outcomeKind b6_outcomeKind 1 (some .int) 0 := ⟨tb_of 888 (by decide +kernel) rfl, tb_of 889 (by decide +kernel) rfl, tb_of 5 (by decide +kernel) rfl, tb_of 890 rfl rfl, ⟨by decide +kernel, by decide +kernel, by decide +kernel⟩⟩
set_option maxRecDepth 100000 in
theorem mf6_outcomeNumber : MfV y6_outcomeNumber b6_outcomeNumber 1 (some .long) 0 := ⟨tb_of 892 (by decide +kernel) rfl, tb_of 893 (by decide +kernel) rfl, tb_of 5 (by decide +kernel) rfl, tb_of 894 rfl rfl, ⟨by decide +kernel, by decide +kernel, by decide +kernel⟩⟩
set_option maxRecDepth 100000 in
theorem mf6_outcomeReal : MfV y6_outcomeReal b6_outcomeReal 1 (some .double) 0 := ⟨tb_of 904 (by decide +kernel) rfl, tb_of 905 (by decide +kernel) rfl, tb_of 5 (by decide +kernel) rfl, tb_of 906 rfl rfl, ⟨by decide +kernel, by decide +kernel, by decide +kernel⟩⟩
set_option maxRecDepth 100000 in
theorem mf6_begin : MfV y6_begin b6_begin 4 none 2 := ⟨tb_of 585 (by decide +kernel) rfl, tb_of 586 (by decide +kernel) rfl, tb_of 5 (by decide +kernel) rfl, tb_of 587 rfl rfl, ⟨by decide +kernel, by decide +kernel, by decide +kernel⟩⟩
set_option maxRecDepth 100000 in
theorem mf6_step : MfV y6_step b6_step 5 (some .int) 0 := ⟨tb_of 619 (by decide +kernel) rfl, tb_of 620 (by decide +kernel) rfl, tb_of 5 (by decide +kernel) rfl, tb_of 621 rfl rfl, ⟨by decide +kernel, by decide +kernel, by decide +kernel⟩⟩
set_option maxRecDepth 100000 in
theorem mf6_stepFrames : MfV y6_stepFrames b6_stepFrames 4 (some .int) 3 := ⟨tb_of 626 (by decide +kernel) rfl, tb_sel 21 (by decide +kernel) rfl, tb_of 5 (by decide +kernel) rfl, tb_of 627 rfl rfl, ⟨by decide +kernel, by decide +kernel, by decide +kernel⟩⟩
set_option maxRecDepth 100000 in
theorem mf6_stepJumps : MfV y6_stepJumps b6_stepJumps 5 (some .int) 4 := ⟨tb_of 694 (by decide +kernel) rfl, tb_sel 24 (by decide +kernel) rfl, tb_of 5 (by decide +kernel) rfl, tb_of 695 rfl rfl, ⟨by decide +kernel, by decide +kernel, by decide +kernel⟩⟩
set_option maxRecDepth 100000 in
theorem mf6_jump : MfV y6_jump b6_jump 3 none 2 := ⟨tb_of 698 (by decide +kernel) rfl, tb_sel 25 (by decide +kernel) rfl, tb_of 5 (by decide +kernel) rfl, tb_of 699 rfl rfl, ⟨by decide +kernel, by decide +kernel, by decide +kernel⟩⟩
set_option maxRecDepth 100000 in
theorem mf6_chosenJump : MfV y6_chosenJump b6_chosenJump 6 (some .int) 3 := ⟨tb_of 713 (by decide +kernel) rfl, tb_sel 26 (by decide +kernel) rfl, tb_of 5 (by decide +kernel) rfl, tb_of 714 rfl rfl, ⟨by decide +kernel, by decide +kernel, by decide +kernel⟩⟩
set_option maxRecDepth 100000 in
theorem mf6_leave : MfV y6_leave b6_leave 4 none 1 := ⟨tb_of 675 (by decide +kernel) rfl, tb_sel 22 (by decide +kernel) rfl, tb_of 5 (by decide +kernel) rfl, tb_of 676 rfl rfl, ⟨by decide +kernel, by decide +kernel, by decide +kernel⟩⟩
set_option maxRecDepth 100000 in
theorem mf6_stepCalls : MfV y6_stepCalls b6_stepCalls 6 (some .int) 3 := ⟨tb_of 717 (by decide +kernel) rfl, tb_sel 27 (by decide +kernel) rfl, tb_of 5 (by decide +kernel) rfl, tb_of 718 rfl rfl, ⟨by decide +kernel, by decide +kernel, by decide +kernel⟩⟩
set_option maxRecDepth 100000 in
theorem mf6_enter : MfV y6_enter b6_enter 3 (some .int) 2 := ⟨tb_of 722 (by decide +kernel) rfl, tb_sel 28 (by decide +kernel) rfl, tb_of 5 (by decide +kernel) rfl, tb_of 723 rfl rfl, ⟨by decide +kernel, by decide +kernel, by decide +kernel⟩⟩
set_option maxRecDepth 100000 in
theorem mf6_stepValues : MfV y6_stepValues b6_stepValues 6 (some .int) 3 := ⟨tb_of 738 (by decide +kernel) rfl, tb_sel 29 (by decide +kernel) rfl, tb_of 5 (by decide +kernel) rfl, tb_of 739 rfl rfl, ⟨by decide +kernel, by decide +kernel, by decide +kernel⟩⟩
set_option maxRecDepth 100000 in
theorem mf6_select : MfV y6_select b6_select 4 none 1 := ⟨tb_of 743 (by decide +kernel) rfl, tb_sel 30 (by decide +kernel) rfl, tb_of 5 (by decide +kernel) rfl, tb_of 744 rfl rfl, ⟨by decide +kernel, by decide +kernel, by decide +kernel⟩⟩
set_option maxRecDepth 100000 in
theorem mf6_stepNumbers : MfV y6_stepNumbers b6_stepNumbers 4 (some .int) 3 := ⟨tb_of 756 (by decide +kernel) rfl, tb_sel 31 (by decide +kernel) rfl, tb_of 5 (by decide +kernel) rfl, tb_of 757 rfl rfl, ⟨by decide +kernel, by decide +kernel, by decide +kernel⟩⟩
set_option maxRecDepth 100000 in
theorem mf6_stepMemory : MfV y6_stepMemory b6_stepMemory 10 (some .int) 3 := ⟨tb_of 760 (by decide +kernel) rfl, tb_sel 32 (by decide +kernel) rfl, tb_of 5 (by decide +kernel) rfl, tb_of 761 rfl rfl, ⟨by decide +kernel, by decide +kernel, by decide +kernel⟩⟩
set_option maxRecDepth 100000 in
theorem mf6_sizeInMemory : MfS y6_sizeInMemory b6_sizeInMemory 1 (some .int) 1 := ⟨tb_of 764 (by decide +kernel) rfl, tb_of 5 (by decide +kernel) rfl, tb_of 765 rfl rfl, ⟨by decide +kernel, by decide +kernel, by decide +kernel⟩⟩
set_option maxRecDepth 100000 in
theorem mf6_stepInts : MfS y6_stepInts b6_stepInts 4 (some .int) 2 := ⟨tb_of 784 (by decide +kernel) rfl, tb_of 5 (by decide +kernel) rfl, tb_of 785 rfl rfl, ⟨by decide +kernel, by decide +kernel, by decide +kernel⟩⟩
set_option maxRecDepth 100000 in
theorem mf6_ofInts : MfS y6_ofInts b6_ofInts 3 (some .int) 3 := ⟨tb_of 791 (by decide +kernel) rfl, tb_of 5 (by decide +kernel) rfl, tb_of 792 rfl rfl, ⟨by decide +kernel, by decide +kernel, by decide +kernel⟩⟩
set_option maxRecDepth 100000 in
theorem mf6_stepLongs : MfS y6_stepLongs b6_stepLongs 6 (some .int) 2 := ⟨tb_of 795 (by decide +kernel) rfl, tb_of 5 (by decide +kernel) rfl, tb_of 796 rfl rfl, ⟨by decide +kernel, by decide +kernel, by decide +kernel⟩⟩
set_option maxRecDepth 100000 in
theorem mf6_ofLongs : MfS y6_ofLongs b6_ofLongs 5 (some .long) 3 := ⟨tb_of 798 (by decide +kernel) rfl, tb_of 5 (by decide +kernel) rfl, tb_of 799 rfl rfl, ⟨by decide +kernel, by decide +kernel, by decide +kernel⟩⟩
set_option maxRecDepth 100000 in
theorem mf6_stepReals : MfS y6_stepReals b6_stepReals 8 (some .int) 2 := ⟨tb_of 801 (by decide +kernel) rfl, tb_of 5 (by decide +kernel) rfl, tb_of 802 rfl rfl, ⟨by decide +kernel, by decide +kernel, by decide +kernel⟩⟩
set_option maxRecDepth 100000 in
theorem mf6_ofReals : MfS y6_ofReals b6_ofReals 5 (some .double) 3 := ⟨tb_of 808 (by decide +kernel) rfl, tb_of 5 (by decide +kernel) rfl, tb_of 809 rfl rfl, ⟨by decide +kernel, by decide +kernel, by decide +kernel⟩⟩
set_option maxRecDepth 100000 in
theorem mf6_convert : MfS y6_convert b6_convert 2 (some .int) 2 := ⟨tb_of 813 (by decide +kernel) rfl, tb_of 5 (by decide +kernel) rfl, tb_of 814 rfl rfl, ⟨by decide +kernel, by decide +kernel, by decide +kernel⟩⟩
set_option maxRecDepth 100000 in
theorem mf6_cut : MfS y6_cut b6_cut 3 (some .int) 1 := ⟨tb_of 816 (by decide +kernel) rfl, tb_of 5 (by decide +kernel) rfl, tb_of 817 rfl rfl, ⟨by decide +kernel, by decide +kernel, by decide +kernel⟩⟩
set_option maxRecDepth 100000 in
theorem mf7_byteAt : MfV y7_byteAt b7_byteAt 2 (some .int) 1 := ⟨tb_of 780 (by decide +kernel) rfl, tb_of 781 (by decide +kernel) rfl, tb_of 6 (by decide +kernel) rfl, tb_of 782 rfl rfl, ⟨by decide +kernel, by decide +kernel, by decide +kernel⟩⟩
set_option maxRecDepth 100000 in
theorem mf7_clear : MfV y7_clear b7_clear 3 (some .int) 0 := ⟨tb_of 933 (by decide +kernel) rfl, tb_of 934 (by decide +kernel) rfl, tb_of 6 (by decide +kernel) rfl, tb_of 935 rfl rfl, ⟨by decide +kernel, by decide +kernel, by decide +kernel⟩⟩
set_option maxRecDepth 100000 in
theorem mf7_holds : MfV y7_holds b7_holds 4 (some .boolean) 2 := ⟨tb_of 767 (by decide +kernel) rfl, tb_of 768 (by decide +kernel) rfl, tb_of 6 (by decide +kernel) rfl, tb_of 769 rfl rfl, ⟨by decide +kernel, by decide +kernel, by decide +kernel⟩⟩
set_option maxRecDepth 100000 in
theorem mf7_load : MfV y7_load b7_load 6 (some .long) 2 := ⟨tb_of 776 (by decide +kernel) rfl, tb_of 777 (by decide +kernel) rfl, tb_of 6 (by decide +kernel) rfl, tb_of 778 rfl rfl, ⟨by decide +kernel, by decide +kernel, by decide +kernel⟩⟩
set_option maxRecDepth 100000 in
theorem mf7_store : MfV y7_store b7_store 6 none 3 := ⟨tb_of 772 (by decide +kernel) rfl, tb_of 773 (by decide +kernel) rfl, tb_of 6 (by decide +kernel) rfl, tb_of 774 rfl rfl, ⟨by decide +kernel, by decide +kernel, by decide +kernel⟩⟩
