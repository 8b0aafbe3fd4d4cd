theorem d9_jump_0 : decode b9_jump 0 = .ok (.aload_n 0, 1) := by decide +kernel
theorem d9_jump_1 : decode b9_jump 1 = .ok (.getfield 128, 3) := by decide +kernel
theorem d9_jump_4 : decode b9_jump 4 = .ok (.iconst 1, 1) := by decide +kernel
theorem d9_jump_5 : decode b9_jump 5 = .ok (.isub, 1) := by decide +kernel
theorem d9_jump_6 : decode b9_jump 6 = .ok (.iload_n 1, 1) := by decide +kernel
theorem d9_jump_7 : decode b9_jump 7 = .ok (.isub, 1) := by decide +kernel
theorem d9_jump_8 : decode b9_jump 8 = .ok (.istore_n 2, 1) := by decide +kernel
theorem d9_jump_9 : decode b9_jump 9 = .ok (.aload_n 0, 1) := by decide +kernel
theorem d9_jump_10 : decode b9_jump 10 = .ok (.getfield 76, 3) := by decide +kernel
theorem d9_jump_13 : decode b9_jump 13 = .ok (.aload_n 0, 1) := by decide +kernel
theorem d9_jump_14 : decode b9_jump 14 = .ok (.getfield 190, 3) := by decide +kernel
theorem d9_jump_17 : decode b9_jump 17 = .ok (.iconst 1, 1) := by decide +kernel
theorem d9_jump_18 : decode b9_jump 18 = .ok (.isub, 1) := by decide +kernel
theorem d9_jump_19 : decode b9_jump 19 = .ok (.iaload, 1) := by decide +kernel
theorem d9_jump_20 : decode b9_jump 20 = .ok (.istore_n 3, 1) := by decide +kernel
theorem d9_jump_21 : decode b9_jump 21 = .ok (.iload_n 2, 1) := by decide +kernel
theorem d9_jump_22 : decode b9_jump 22 = .ok (.aload_n 0, 1) := by decide +kernel
theorem d9_jump_23 : decode b9_jump 23 = .ok (.getfield 82, 3) := by decide +kernel
theorem d9_jump_26 : decode b9_jump 26 = .ok (.aload_n 0, 1) := by decide +kernel
theorem d9_jump_27 : decode b9_jump 27 = .ok (.getfield 190, 3) := by decide +kernel
theorem d9_jump_30 : decode b9_jump 30 = .ok (.iconst 1, 1) := by decide +kernel
theorem d9_jump_31 : decode b9_jump 31 = .ok (.isub, 1) := by decide +kernel
theorem d9_jump_32 : decode b9_jump 32 = .ok (.iaload, 1) := by decide +kernel
theorem d9_jump_33 : decode b9_jump 33 = .ok (.if_icmp .ne 8, 3) := by decide +kernel
theorem d9_jump_36 : decode b9_jump 36 = .ok (.aload_n 0, 1) := by decide +kernel
theorem d9_jump_37 : decode b9_jump 37 = .ok (.invokevirtual 219, 3) := by decide +kernel
theorem d9_jump_40 : decode b9_jump 40 = .ok (.return_, 1) := by decide +kernel
theorem d9_jump_41 : decode b9_jump 41 = .ok (.aload_n 0, 1) := by decide +kernel
theorem d9_jump_42 : decode b9_jump 42 = .ok (.getfield 44, 3) := by decide +kernel
theorem d9_jump_45 : decode b9_jump 45 = .ok (.iload_n 2, 1) := by decide +kernel
theorem d9_jump_46 : decode b9_jump 46 = .ok (.iaload, 1) := by decide +kernel
theorem d9_jump_47 : decode b9_jump 47 = .ok (.iconst 3, 1) := by decide +kernel
theorem d9_jump_48 : decode b9_jump 48 = .ok (.if_icmp .ne 7, 3) := by decide +kernel
theorem d9_jump_51 : decode b9_jump 51 = .ok (.iconst 1, 1) := by decide +kernel
theorem d9_jump_52 : decode b9_jump 52 = .ok (.goto 4, 3) := by decide +kernel
theorem d9_jump_55 : decode b9_jump 55 = .ok (.iconst 0, 1) := by decide +kernel
theorem d9_jump_56 : decode b9_jump 56 = .ok (.istore 4, 2) := by decide +kernel
theorem d9_jump_58 : decode b9_jump 58 = .ok (.iload 4, 2) := by decide +kernel
theorem d9_jump_60 : decode b9_jump 60 = .ok (.ifCond .ne 16, 3) := by decide +kernel
theorem d9_jump_63 : decode b9_jump 63 = .ok (.aload_n 0, 1) := by decide +kernel
theorem d9_jump_64 : decode b9_jump 64 = .ok (.getfield 47, 3) := by decide +kernel
theorem d9_jump_67 : decode b9_jump 67 = .ok (.iload_n 2, 1) := by decide +kernel
theorem d9_jump_68 : decode b9_jump 68 = .ok (.iaload, 1) := by decide +kernel
theorem d9_jump_69 : decode b9_jump 69 = .ok (.ifCond .eq 7, 3) := by decide +kernel
theorem d9_jump_72 : decode b9_jump 72 = .ok (.iconst 1, 1) := by decide +kernel
theorem d9_jump_73 : decode b9_jump 73 = .ok (.goto 4, 3) := by decide +kernel
theorem d9_jump_76 : decode b9_jump 76 = .ok (.iconst 0, 1) := by decide +kernel
theorem d9_jump_77 : decode b9_jump 77 = .ok (.istore 5, 2) := by decide +kernel
theorem d9_jump_79 : decode b9_jump 79 = .ok (.iload 5, 2) := by decide +kernel
theorem d9_jump_81 : decode b9_jump 81 = .ok (.ifCond .eq 17, 3) := by decide +kernel
theorem d9_jump_84 : decode b9_jump 84 = .ok (.aload_n 0, 1) := by decide +kernel
theorem d9_jump_85 : decode b9_jump 85 = .ok (.getfield 60, 3) := by decide +kernel
theorem d9_jump_88 : decode b9_jump 88 = .ok (.aload_n 0, 1) := by decide +kernel
theorem d9_jump_89 : decode b9_jump 89 = .ok (.getfield 122, 3) := by decide +kernel
theorem d9_jump_92 : decode b9_jump 92 = .ok (.iconst 1, 1) := by decide +kernel
theorem d9_jump_93 : decode b9_jump 93 = .ok (.isub, 1) := by decide +kernel
theorem d9_jump_94 : decode b9_jump 94 = .ok (.laload, 1) := by decide +kernel
theorem d9_jump_95 : decode b9_jump 95 = .ok (.goto 4, 3) := by decide +kernel
theorem d9_jump_98 : decode b9_jump 98 = .ok (.lconst 0, 1) := by decide +kernel
theorem d9_jump_99 : decode b9_jump 99 = .ok (.lstore 6, 2) := by decide +kernel
theorem d9_jump_101 : decode b9_jump 101 = .ok (.iload 5, 2) := by decide +kernel
theorem d9_jump_103 : decode b9_jump 103 = .ok (.ifCond .eq 17, 3) := by decide +kernel
theorem d9_jump_106 : decode b9_jump 106 = .ok (.aload_n 0, 1) := by decide +kernel
theorem d9_jump_107 : decode b9_jump 107 = .ok (.getfield 63, 3) := by decide +kernel
theorem d9_jump_110 : decode b9_jump 110 = .ok (.aload_n 0, 1) := by decide +kernel
theorem d9_jump_111 : decode b9_jump 111 = .ok (.getfield 122, 3) := by decide +kernel
theorem d9_jump_114 : decode b9_jump 114 = .ok (.iconst 1, 1) := by decide +kernel
theorem d9_jump_115 : decode b9_jump 115 = .ok (.isub, 1) := by decide +kernel
theorem d9_jump_116 : decode b9_jump 116 = .ok (.daload, 1) := by decide +kernel
theorem d9_jump_117 : decode b9_jump 117 = .ok (.goto 4, 3) := by decide +kernel
theorem d9_jump_120 : decode b9_jump 120 = .ok (.dconst 0, 1) := by decide +kernel
theorem d9_jump_121 : decode b9_jump 121 = .ok (.dstore 8, 2) := by decide +kernel
theorem d9_jump_123 : decode b9_jump 123 = .ok (.aload_n 0, 1) := by decide +kernel
theorem d9_jump_124 : decode b9_jump 124 = .ok (.aload_n 0, 1) := by decide +kernel
theorem d9_jump_125 : decode b9_jump 125 = .ok (.getfield 50, 3) := by decide +kernel
theorem d9_jump_128 : decode b9_jump 128 = .ok (.iload_n 2, 1) := by decide +kernel
theorem d9_jump_129 : decode b9_jump 129 = .ok (.iaload, 1) := by decide +kernel
theorem d9_jump_130 : decode b9_jump 130 = .ok (.putfield 122, 3) := by decide +kernel
theorem d9_jump_133 : decode b9_jump 133 = .ok (.iload 5, 2) := by decide +kernel
theorem d9_jump_135 : decode b9_jump 135 = .ok (.ifCond .eq 11, 3) := by decide +kernel
theorem d9_jump_138 : decode b9_jump 138 = .ok (.aload_n 0, 1) := by decide +kernel
theorem d9_jump_139 : decode b9_jump 139 = .ok (.lload 6, 2) := by decide +kernel
theorem d9_jump_141 : decode b9_jump 141 = .ok (.dload 8, 2) := by decide +kernel
theorem d9_jump_143 : decode b9_jump 143 = .ok (.invokevirtual 215, 3) := by decide +kernel
theorem d9_jump_146 : decode b9_jump 146 = .ok (.aload_n 0, 1) := by decide +kernel
theorem d9_jump_147 : decode b9_jump 147 = .ok (.iload 4, 2) := by decide +kernel
theorem d9_jump_149 : decode b9_jump 149 = .ok (.ifCond .eq 9, 3) := by decide +kernel
theorem d9_jump_152 : decode b9_jump 152 = .ok (.iload_n 2, 1) := by decide +kernel
theorem d9_jump_153 : decode b9_jump 153 = .ok (.iconst 1, 1) := by decide +kernel
theorem d9_jump_154 : decode b9_jump 154 = .ok (.iadd, 1) := by decide +kernel
theorem d9_jump_155 : decode b9_jump 155 = .ok (.goto 4, 3) := by decide +kernel
theorem d9_jump_158 : decode b9_jump 158 = .ok (.iload_n 2, 1) := by decide +kernel
theorem d9_jump_159 : decode b9_jump 159 = .ok (.putfield 128, 3) := by decide +kernel
theorem d9_jump_162 : decode b9_jump 162 = .ok (.aload_n 0, 1) := by decide +kernel
theorem d9_jump_163 : decode b9_jump 163 = .ok (.iload 4, 2) := by decide +kernel
theorem d9_jump_165 : decode b9_jump 165 = .ok (.ifCond .eq 12, 3) := by decide +kernel
theorem d9_jump_168 : decode b9_jump 168 = .ok (.aload_n 0, 1) := by decide +kernel
theorem d9_jump_169 : decode b9_jump 169 = .ok (.getfield 67, 3) := by decide +kernel
theorem d9_jump_172 : decode b9_jump 172 = .ok (.iload_n 2, 1) := by decide +kernel
theorem d9_jump_173 : decode b9_jump 173 = .ok (.iaload, 1) := by decide +kernel
theorem d9_jump_174 : decode b9_jump 174 = .ok (.goto 17, 3) := by decide +kernel
theorem d9_jump_177 : decode b9_jump 177 = .ok (.aload_n 0, 1) := by decide +kernel
theorem d9_jump_178 : decode b9_jump 178 = .ok (.iload_n 3, 1) := by decide +kernel
theorem d9_jump_179 : decode b9_jump 179 = .ok (.aload_n 0, 1) := by decide +kernel
theorem d9_jump_180 : decode b9_jump 180 = .ok (.getfield 67, 3) := by decide +kernel
theorem d9_jump_183 : decode b9_jump 183 = .ok (.iload_n 2, 1) := by decide +kernel
theorem d9_jump_184 : decode b9_jump 184 = .ok (.iaload, 1) := by decide +kernel
theorem d9_jump_185 : decode b9_jump 185 = .ok (.iconst 0, 1) := by decide +kernel
theorem d9_jump_186 : decode b9_jump 186 = .ok (.invokevirtual 222, 3) := by decide +kernel
theorem d9_jump_189 : decode b9_jump 189 = .ok (.iconst 1, 1) := by decide +kernel
theorem d9_jump_190 : decode b9_jump 190 = .ok (.iadd, 1) := by decide +kernel
theorem d9_jump_191 : decode b9_jump 191 = .ok (.putfield 193, 3) := by decide +kernel
theorem d9_jump_194 : decode b9_jump 194 = .ok (.return_, 1) := by decide +kernel
theorem d9_block_0 : decode b9_block 0 = .ok (.iload_n 2, 1) := by decide +kernel
theorem d9_block_1 : decode b9_block 1 = .ok (.iconst 4, 1) := by decide +kernel
theorem d9_block_2 : decode b9_block 2 = .ok (.if_icmp .ne 14, 3) := by decide +kernel
theorem d9_block_5 : decode b9_block 5 = .ok (.aload_n 0, 1) := by decide +kernel
theorem d9_block_6 : decode b9_block 6 = .ok (.invokevirtual 226, 3) := by decide +kernel
theorem d9_block_9 : decode b9_block 9 = .ok (.ifCond .ne 7, 3) := by decide +kernel
theorem d9_block_12 : decode b9_block 12 = .ok (.iconst 1, 1) := by decide +kernel
theorem d9_block_13 : decode b9_block 13 = .ok (.goto 4, 3) := by decide +kernel
theorem d9_block_16 : decode b9_block 16 = .ok (.iconst 0, 1) := by decide +kernel
theorem d9_block_17 : decode b9_block 17 = .ok (.istore 4, 2) := by decide +kernel
theorem d9_block_19 : decode b9_block 19 = .ok (.aload_n 0, 1) := by decide +kernel
theorem d9_block_20 : decode b9_block 20 = .ok (.getfield 193, 3) := by decide +kernel
theorem d9_block_23 : decode b9_block 23 = .ok (.iconst 2, 1) := by decide +kernel
theorem d9_block_24 : decode b9_block 24 = .ok (.iadd, 1) := by decide +kernel
theorem d9_block_25 : decode b9_block 25 = .ok (.istore 5, 2) := by decide +kernel
theorem d9_block_27 : decode b9_block 27 = .ok (.iload 4, 2) := by decide +kernel
theorem d9_block_29 : decode b9_block 29 = .ok (.ifCond .eq 14, 3) := by decide +kernel
theorem d9_block_32 : decode b9_block 32 = .ok (.aload_n 0, 1) := by decide +kernel
theorem d9_block_33 : decode b9_block 33 = .ok (.iload_n 1, 1) := by decide +kernel
theorem d9_block_34 : decode b9_block 34 = .ok (.iload 5, 2) := by decide +kernel
theorem d9_block_36 : decode b9_block 36 = .ok (.iconst 1, 1) := by decide +kernel
theorem d9_block_37 : decode b9_block 37 = .ok (.invokevirtual 222, 3) := by decide +kernel
theorem d9_block_40 : decode b9_block 40 = .ok (.goto 5, 3) := by decide +kernel
theorem d9_block_43 : decode b9_block 43 = .ok (.iload 5, 2) := by decide +kernel
theorem d9_block_45 : decode b9_block 45 = .ok (.istore 6, 2) := by decide +kernel
theorem d9_block_47 : decode b9_block 47 = .ok (.iload 4, 2) := by decide +kernel
theorem d9_block_49 : decode b9_block 49 = .ok (.ifCond .eq 24, 3) := by decide +kernel
theorem d9_block_52 : decode b9_block 52 = .ok (.aload_n 0, 1) := by decide +kernel
theorem d9_block_53 : decode b9_block 53 = .ok (.iload_n 1, 1) := by decide +kernel
theorem d9_block_54 : decode b9_block 54 = .ok (.iload 6, 2) := by decide +kernel
theorem d9_block_56 : decode b9_block 56 = .ok (.invokevirtual 115, 3) := by decide +kernel
theorem d9_block_59 : decode b9_block 59 = .ok (.bipush 6, 2) := by decide +kernel
theorem d9_block_61 : decode b9_block 61 = .ok (.if_icmp .ne 12, 3) := by decide +kernel
theorem d9_block_64 : decode b9_block 64 = .ok (.aload_n 0, 1) := by decide +kernel
theorem d9_block_65 : decode b9_block 65 = .ok (.iload 6, 2) := by decide +kernel
theorem d9_block_67 : decode b9_block 67 = .ok (.iconst 1, 1) := by decide +kernel
theorem d9_block_68 : decode b9_block 68 = .ok (.iadd, 1) := by decide +kernel
theorem d9_block_69 : decode b9_block 69 = .ok (.putfield 193, 3) := by decide +kernel
theorem d9_block_72 : decode b9_block 72 = .ok (.return_, 1) := by decide +kernel
theorem d9_block_73 : decode b9_block 73 = .ok (.aload_n 0, 1) := by decide +kernel
theorem d9_block_74 : decode b9_block 74 = .ok (.getfield 44, 3) := by decide +kernel
theorem d9_block_77 : decode b9_block 77 = .ok (.aload_n 0, 1) := by decide +kernel
theorem d9_block_78 : decode b9_block 78 = .ok (.getfield 128, 3) := by decide +kernel
theorem d9_block_81 : decode b9_block 81 = .ok (.iload_n 2, 1) := by decide +kernel
theorem d9_block_82 : decode b9_block 82 = .ok (.iastore, 1) := by decide +kernel
theorem d9_block_83 : decode b9_block 83 = .ok (.aload_n 0, 1) := by decide +kernel
theorem d9_block_84 : decode b9_block 84 = .ok (.getfield 47, 3) := by decide +kernel
theorem d9_block_87 : decode b9_block 87 = .ok (.aload_n 0, 1) := by decide +kernel
theorem d9_block_88 : decode b9_block 88 = .ok (.getfield 128, 3) := by decide +kernel
theorem d9_block_91 : decode b9_block 91 = .ok (.iload_n 3, 1) := by decide +kernel
theorem d9_block_92 : decode b9_block 92 = .ok (.iastore, 1) := by decide +kernel
theorem d9_block_93 : decode b9_block 93 = .ok (.aload_n 0, 1) := by decide +kernel
theorem d9_block_94 : decode b9_block 94 = .ok (.getfield 50, 3) := by decide +kernel
theorem d9_block_97 : decode b9_block 97 = .ok (.aload_n 0, 1) := by decide +kernel
theorem d9_block_98 : decode b9_block 98 = .ok (.getfield 128, 3) := by decide +kernel
theorem d9_block_101 : decode b9_block 101 = .ok (.aload_n 0, 1) := by decide +kernel
theorem d9_block_102 : decode b9_block 102 = .ok (.getfield 122, 3) := by decide +kernel
theorem d9_block_105 : decode b9_block 105 = .ok (.iastore, 1) := by decide +kernel
theorem d9_block_106 : decode b9_block 106 = .ok (.aload_n 0, 1) := by decide +kernel
theorem d9_block_107 : decode b9_block 107 = .ok (.getfield 67, 3) := by decide +kernel
theorem d9_block_110 : decode b9_block 110 = .ok (.aload_n 0, 1) := by decide +kernel
theorem d9_block_111 : decode b9_block 111 = .ok (.getfield 128, 3) := by decide +kernel
theorem d9_block_114 : decode b9_block 114 = .ok (.iload 5, 2) := by decide +kernel
theorem d9_block_116 : decode b9_block 116 = .ok (.iastore, 1) := by decide +kernel
theorem d9_block_117 : decode b9_block 117 = .ok (.aload_n 0, 1) := by decide +kernel
theorem d9_block_118 : decode b9_block 118 = .ok (.dup, 1) := by decide +kernel
theorem d9_block_119 : decode b9_block 119 = .ok (.getfield 128, 3) := by decide +kernel
theorem d9_block_122 : decode b9_block 122 = .ok (.iconst 1, 1) := by decide +kernel
theorem d9_block_123 : decode b9_block 123 = .ok (.iadd, 1) := by decide +kernel
theorem d9_block_124 : decode b9_block 124 = .ok (.putfield 128, 3) := by decide +kernel
theorem d9_block_127 : decode b9_block 127 = .ok (.aload_n 0, 1) := by decide +kernel
theorem d9_block_128 : decode b9_block 128 = .ok (.iload 4, 2) := by decide +kernel
theorem d9_block_130 : decode b9_block 130 = .ok (.ifCond .eq 10, 3) := by decide +kernel
theorem d9_block_133 : decode b9_block 133 = .ok (.iload 6, 2) := by decide +kernel
theorem d9_block_135 : decode b9_block 135 = .ok (.iconst 1, 1) := by decide +kernel
theorem d9_block_136 : decode b9_block 136 = .ok (.iadd, 1) := by decide +kernel
theorem d9_block_137 : decode b9_block 137 = .ok (.goto 5, 3) := by decide +kernel
theorem d9_block_140 : decode b9_block 140 = .ok (.iload 5, 2) := by decide +kernel
theorem d9_block_142 : decode b9_block 142 = .ok (.putfield 193, 3) := by decide +kernel
theorem d9_block_145 : decode b9_block 145 = .ok (.return_, 1) := by decide +kernel
theorem d9_agree_0 : decode b9_agree 0 = .ok (.aload_n 0, 1) := by decide +kernel
theorem d9_agree_1 : decode b9_agree 1 = .ok (.getfield 13, 3) := by decide +kernel
theorem d9_agree_4 : decode b9_agree 4 = .ok (.iload_n 1, 1) := by decide +kernel
theorem d9_agree_5 : decode b9_agree 5 = .ok (.iaload, 1) := by decide +kernel
theorem d9_agree_6 : decode b9_agree 6 = .ok (.aload_n 0, 1) := by decide +kernel
theorem d9_agree_7 : decode b9_agree 7 = .ok (.getfield 13, 3) := by decide +kernel
theorem d9_agree_10 : decode b9_agree 10 = .ok (.iload_n 2, 1) := by decide +kernel
theorem d9_agree_11 : decode b9_agree 11 = .ok (.iaload, 1) := by decide +kernel
theorem d9_agree_12 : decode b9_agree 12 = .ok (.if_icmp .ne 18, 3) := by decide +kernel
theorem d9_agree_15 : decode b9_agree 15 = .ok (.aload_n 0, 1) := by decide +kernel
theorem d9_agree_16 : decode b9_agree 16 = .ok (.getfield 19, 3) := by decide +kernel
theorem d9_agree_19 : decode b9_agree 19 = .ok (.iload_n 1, 1) := by decide +kernel
theorem d9_agree_20 : decode b9_agree 20 = .ok (.iaload, 1) := by decide +kernel
theorem d9_agree_21 : decode b9_agree 21 = .ok (.aload_n 0, 1) := by decide +kernel
theorem d9_agree_22 : decode b9_agree 22 = .ok (.getfield 19, 3) := by decide +kernel
theorem d9_agree_25 : decode b9_agree 25 = .ok (.iload_n 2, 1) := by decide +kernel
theorem d9_agree_26 : decode b9_agree 26 = .ok (.iaload, 1) := by decide +kernel
theorem d9_agree_27 : decode b9_agree 27 = .ok (.if_icmp .eq 5, 3) := by decide +kernel
theorem d9_agree_30 : decode b9_agree 30 = .ok (.iconst 0, 1) := by decide +kernel
theorem d9_agree_31 : decode b9_agree 31 = .ok (.ireturn, 1) := by decide +kernel
theorem d9_agree_32 : decode b9_agree 32 = .ok (.iconst 0, 1) := by decide +kernel
theorem d9_agree_33 : decode b9_agree 33 = .ok (.istore_n 3, 1) := by decide +kernel
theorem d9_agree_34 : decode b9_agree 34 = .ok (.iload_n 3, 1) := by decide +kernel
theorem d9_agree_35 : decode b9_agree 35 = .ok (.aload_n 0, 1) := by decide +kernel
theorem d9_agree_36 : decode b9_agree 36 = .ok (.getfield 13, 3) := by decide +kernel
theorem d9_agree_39 : decode b9_agree 39 = .ok (.iload_n 1, 1) := by decide +kernel
theorem d9_agree_40 : decode b9_agree 40 = .ok (.iaload, 1) := by decide +kernel
theorem d9_agree_41 : decode b9_agree 41 = .ok (.if_icmp .ge 36, 3) := by decide +kernel
theorem d9_agree_44 : decode b9_agree 44 = .ok (.aload_n 0, 1) := by decide +kernel
theorem d9_agree_45 : decode b9_agree 45 = .ok (.getfield 7, 3) := by decide +kernel
theorem d9_agree_48 : decode b9_agree 48 = .ok (.bipush 6, 2) := by decide +kernel
theorem d9_agree_50 : decode b9_agree 50 = .ok (.iload_n 1, 1) := by decide +kernel
theorem d9_agree_51 : decode b9_agree 51 = .ok (.imul, 1) := by decide +kernel
theorem d9_agree_52 : decode b9_agree 52 = .ok (.iload_n 3, 1) := by decide +kernel
theorem d9_agree_53 : decode b9_agree 53 = .ok (.iadd, 1) := by decide +kernel
theorem d9_agree_54 : decode b9_agree 54 = .ok (.iaload, 1) := by decide +kernel
theorem d9_agree_55 : decode b9_agree 55 = .ok (.aload_n 0, 1) := by decide +kernel
theorem d9_agree_56 : decode b9_agree 56 = .ok (.getfield 7, 3) := by decide +kernel
theorem d9_agree_59 : decode b9_agree 59 = .ok (.bipush 6, 2) := by decide +kernel
theorem d9_agree_61 : decode b9_agree 61 = .ok (.iload_n 2, 1) := by decide +kernel
theorem d9_agree_62 : decode b9_agree 62 = .ok (.imul, 1) := by decide +kernel
theorem d9_agree_63 : decode b9_agree 63 = .ok (.iload_n 3, 1) := by decide +kernel
theorem d9_agree_64 : decode b9_agree 64 = .ok (.iadd, 1) := by decide +kernel
theorem d9_agree_65 : decode b9_agree 65 = .ok (.iaload, 1) := by decide +kernel
theorem d9_agree_66 : decode b9_agree 66 = .ok (.if_icmp .eq 5, 3) := by decide +kernel
theorem d9_agree_69 : decode b9_agree 69 = .ok (.iconst 0, 1) := by decide +kernel
theorem d9_agree_70 : decode b9_agree 70 = .ok (.ireturn, 1) := by decide +kernel
theorem d9_agree_71 : decode b9_agree 71 = .ok (.iinc 3 1, 3) := by decide +kernel
theorem d9_agree_74 : decode b9_agree 74 = .ok (.goto (-40), 3) := by decide +kernel
theorem d9_agree_77 : decode b9_agree 77 = .ok (.iconst 1, 1) := by decide +kernel
theorem d9_agree_78 : decode b9_agree 78 = .ok (.ireturn, 1) := by decide +kernel
theorem d9_call_0 : decode b9_call 0 = .ok (.iload_n 2, 1) := by decide +kernel
theorem d9_call_1 : decode b9_call 1 = .ok (.istore_n 3, 1) := by decide +kernel
theorem d9_call_2 : decode b9_call 2 = .ok (.iload_n 1, 1) := by decide +kernel
theorem d9_call_3 : decode b9_call 3 = .ok (.bipush 12, 2) := by decide +kernel
theorem d9_call_5 : decode b9_call 5 = .ok (.if_icmp .ne 60, 3) := by decide +kernel
theorem d9_call_8 : decode b9_call 8 = .ok (.aload_n 0, 1) := by decide +kernel
theorem d9_call_9 : decode b9_call 9 = .ok (.invokevirtual 226, 3) := by decide +kernel
theorem d9_call_12 : decode b9_call 12 = .ok (.istore 4, 2) := by decide +kernel
theorem d9_call_14 : decode b9_call 14 = .ok (.iload 4, 2) := by decide +kernel
theorem d9_call_16 : decode b9_call 16 = .ok (.iconst 0, 1) := by decide +kernel
theorem d9_call_17 : decode b9_call 17 = .ok (.bipush 7, 2) := by decide +kernel
theorem d9_call_19 : decode b9_call 19 = .ok (.invokestatic 92, 3) := by decide +kernel
theorem d9_call_22 : decode b9_call 22 = .ok (.ifCond .eq 13, 3) := by decide +kernel
theorem d9_call_25 : decode b9_call 25 = .ok (.aload_n 0, 1) := by decide +kernel
theorem d9_call_26 : decode b9_call 26 = .ok (.getfield 28, 3) := by decide +kernel
theorem d9_call_29 : decode b9_call 29 = .ok (.iload 4, 2) := by decide +kernel
theorem d9_call_31 : decode b9_call 31 = .ok (.iaload, 1) := by decide +kernel
theorem d9_call_32 : decode b9_call 32 = .ok (.goto 4, 3) := by decide +kernel
theorem d9_call_35 : decode b9_call 35 = .ok (.iconst (-1), 1) := by decide +kernel
theorem d9_call_36 : decode b9_call 36 = .ok (.istore_n 3, 1) := by decide +kernel
theorem d9_call_37 : decode b9_call 37 = .ok (.iload_n 3, 1) := by decide +kernel
theorem d9_call_38 : decode b9_call 38 = .ok (.ifCond .lt 21, 3) := by decide +kernel
theorem d9_call_41 : decode b9_call 41 = .ok (.aload_n 0, 1) := by decide +kernel
theorem d9_call_42 : decode b9_call 42 = .ok (.getfield 25, 3) := by decide +kernel
theorem d9_call_45 : decode b9_call 45 = .ok (.iload_n 3, 1) := by decide +kernel
theorem d9_call_46 : decode b9_call 46 = .ok (.iaload, 1) := by decide +kernel
theorem d9_call_47 : decode b9_call 47 = .ok (.ifCond .eq 12, 3) := by decide +kernel
theorem d9_call_50 : decode b9_call 50 = .ok (.aload_n 0, 1) := by decide +kernel
theorem d9_call_51 : decode b9_call 51 = .ok (.iload_n 3, 1) := by decide +kernel
theorem d9_call_52 : decode b9_call 52 = .ok (.iload_n 2, 1) := by decide +kernel
theorem d9_call_53 : decode b9_call 53 = .ok (.invokevirtual 229, 3) := by decide +kernel
theorem d9_call_56 : decode b9_call 56 = .ok (.ifCond .ne 9, 3) := by decide +kernel
theorem d9_call_59 : decode b9_call 59 = .ok (.aload_n 0, 1) := by decide +kernel
theorem d9_call_60 : decode b9_call 60 = .ok (.iconst 4, 1) := by decide +kernel
theorem d9_call_61 : decode b9_call 61 = .ok (.putfield 233, 3) := by decide +kernel
theorem d9_call_64 : decode b9_call 64 = .ok (.return_, 1) := by decide +kernel
theorem d9_call_65 : decode b9_call 65 = .ok (.aload_n 0, 1) := by decide +kernel
theorem d9_call_66 : decode b9_call 66 = .ok (.getfield 13, 3) := by decide +kernel
theorem d9_call_69 : decode b9_call 69 = .ok (.iload_n 3, 1) := by decide +kernel
theorem d9_call_70 : decode b9_call 70 = .ok (.iaload, 1) := by decide +kernel
theorem d9_call_71 : decode b9_call 71 = .ok (.istore 4, 2) := by decide +kernel
theorem d9_call_73 : decode b9_call 73 = .ok (.aload_n 0, 1) := by decide +kernel
theorem d9_call_74 : decode b9_call 74 = .ok (.dup, 1) := by decide +kernel
theorem d9_call_75 : decode b9_call 75 = .ok (.getfield 122, 3) := by decide +kernel
theorem d9_call_78 : decode b9_call 78 = .ok (.iload 4, 2) := by decide +kernel
theorem d9_call_80 : decode b9_call 80 = .ok (.isub, 1) := by decide +kernel
theorem d9_call_81 : decode b9_call 81 = .ok (.putfield 122, 3) := by decide +kernel
theorem d9_call_84 : decode b9_call 84 = .ok (.aload_n 0, 1) := by decide +kernel
theorem d9_call_85 : decode b9_call 85 = .ok (.getfield 190, 3) := by decide +kernel
theorem d9_call_88 : decode b9_call 88 = .ok (.bipush 6, 2) := by decide +kernel
theorem d9_call_90 : decode b9_call 90 = .ok (.if_icmp .ne 9, 3) := by decide +kernel
theorem d9_call_93 : decode b9_call 93 = .ok (.aload_n 0, 1) := by decide +kernel
theorem d9_call_94 : decode b9_call 94 = .ok (.iconst 1, 1) := by decide +kernel
theorem d9_call_95 : decode b9_call 95 = .ok (.putfield 233, 3) := by decide +kernel
theorem d9_call_98 : decode b9_call 98 = .ok (.return_, 1) := by decide +kernel
theorem d9_call_99 : decode b9_call 99 = .ok (.iconst 0, 1) := by decide +kernel
theorem d9_call_100 : decode b9_call 100 = .ok (.istore 5, 2) := by decide +kernel
theorem d9_call_102 : decode b9_call 102 = .ok (.iload 5, 2) := by decide +kernel
theorem d9_call_104 : decode b9_call 104 = .ok (.bipush 6, 2) := by decide +kernel
theorem d9_call_106 : decode b9_call 106 = .ok (.if_icmp .ge 85, 3) := by decide +kernel
theorem d9_call_109 : decode b9_call 109 = .ok (.aload_n 0, 1) := by decide +kernel
theorem d9_call_110 : decode b9_call 110 = .ok (.getfield 70, 3) := by decide +kernel
theorem d9_call_113 : decode b9_call 113 = .ok (.bipush 6, 2) := by decide +kernel
theorem d9_call_115 : decode b9_call 115 = .ok (.aload_n 0, 1) := by decide +kernel
theorem d9_call_116 : decode b9_call 116 = .ok (.getfield 190, 3) := by decide +kernel
theorem d9_call_119 : decode b9_call 119 = .ok (.imul, 1) := by decide +kernel
theorem d9_call_120 : decode b9_call 120 = .ok (.iload 5, 2) := by decide +kernel
theorem d9_call_122 : decode b9_call 122 = .ok (.iadd, 1) := by decide +kernel
theorem d9_call_123 : decode b9_call 123 = .ok (.iload 5, 2) := by decide +kernel
theorem d9_call_125 : decode b9_call 125 = .ok (.iload 4, 2) := by decide +kernel
theorem d9_call_127 : decode b9_call 127 = .ok (.if_icmp .ge 18, 3) := by decide +kernel
theorem d9_call_130 : decode b9_call 130 = .ok (.aload_n 0, 1) := by decide +kernel
theorem d9_call_131 : decode b9_call 131 = .ok (.getfield 60, 3) := by decide +kernel
theorem d9_call_134 : decode b9_call 134 = .ok (.aload_n 0, 1) := by decide +kernel
theorem d9_call_135 : decode b9_call 135 = .ok (.getfield 122, 3) := by decide +kernel
theorem d9_call_138 : decode b9_call 138 = .ok (.iload 5, 2) := by decide +kernel
theorem d9_call_140 : decode b9_call 140 = .ok (.iadd, 1) := by decide +kernel
theorem d9_call_141 : decode b9_call 141 = .ok (.laload, 1) := by decide +kernel
theorem d9_call_142 : decode b9_call 142 = .ok (.goto 4, 3) := by decide +kernel
theorem d9_call_145 : decode b9_call 145 = .ok (.lconst 0, 1) := by decide +kernel
theorem d9_call_146 : decode b9_call 146 = .ok (.lastore, 1) := by decide +kernel
theorem d9_call_147 : decode b9_call 147 = .ok (.aload_n 0, 1) := by decide +kernel
theorem d9_call_148 : decode b9_call 148 = .ok (.getfield 73, 3) := by decide +kernel
theorem d9_call_151 : decode b9_call 151 = .ok (.bipush 6, 2) := by decide +kernel
theorem d9_call_153 : decode b9_call 153 = .ok (.aload_n 0, 1) := by decide +kernel
theorem d9_call_154 : decode b9_call 154 = .ok (.getfield 190, 3) := by decide +kernel
theorem d9_call_157 : decode b9_call 157 = .ok (.imul, 1) := by decide +kernel
theorem d9_call_158 : decode b9_call 158 = .ok (.iload 5, 2) := by decide +kernel
theorem d9_call_160 : decode b9_call 160 = .ok (.iadd, 1) := by decide +kernel
theorem d9_call_161 : decode b9_call 161 = .ok (.iload 5, 2) := by decide +kernel
theorem d9_call_163 : decode b9_call 163 = .ok (.iload 4, 2) := by decide +kernel
theorem d9_call_165 : decode b9_call 165 = .ok (.if_icmp .ge 18, 3) := by decide +kernel
theorem d9_call_168 : decode b9_call 168 = .ok (.aload_n 0, 1) := by decide +kernel
theorem d9_call_169 : decode b9_call 169 = .ok (.getfield 63, 3) := by decide +kernel
theorem d9_call_172 : decode b9_call 172 = .ok (.aload_n 0, 1) := by decide +kernel
theorem d9_call_173 : decode b9_call 173 = .ok (.getfield 122, 3) := by decide +kernel
theorem d9_call_176 : decode b9_call 176 = .ok (.iload 5, 2) := by decide +kernel
theorem d9_call_178 : decode b9_call 178 = .ok (.iadd, 1) := by decide +kernel
theorem d9_call_179 : decode b9_call 179 = .ok (.daload, 1) := by decide +kernel
theorem d9_call_180 : decode b9_call 180 = .ok (.goto 4, 3) := by decide +kernel
theorem d9_call_183 : decode b9_call 183 = .ok (.dconst 0, 1) := by decide +kernel
theorem d9_call_184 : decode b9_call 184 = .ok (.dastore, 1) := by decide +kernel
theorem d9_call_185 : decode b9_call 185 = .ok (.iinc 5 1, 3) := by decide +kernel
theorem d9_call_188 : decode b9_call 188 = .ok (.goto (-86), 3) := by decide +kernel
theorem d9_call_191 : decode b9_call 191 = .ok (.aload_n 0, 1) := by decide +kernel
theorem d9_call_192 : decode b9_call 192 = .ok (.iload_n 3, 1) := by decide +kernel
theorem d9_call_193 : decode b9_call 193 = .ok (.aload_n 0, 1) := by decide +kernel
theorem d9_call_194 : decode b9_call 194 = .ok (.getfield 193, 3) := by decide +kernel
theorem d9_call_197 : decode b9_call 197 = .ok (.iconst 2, 1) := by decide +kernel
theorem d9_call_198 : decode b9_call 198 = .ok (.iadd, 1) := by decide +kernel
theorem d9_call_199 : decode b9_call 199 = .ok (.invokevirtual 201, 3) := by decide +kernel
theorem d9_call_202 : decode b9_call 202 = .ok (.return_, 1) := by decide +kernel
theorem d9_variable_0 : decode b9_variable 0 = .ok (.bipush 6, 2) := by decide +kernel
theorem d9_variable_2 : decode b9_variable 2 = .ok (.aload_n 0, 1) := by decide +kernel
theorem d9_variable_3 : decode b9_variable 3 = .ok (.getfield 190, 3) := by decide +kernel
theorem d9_variable_6 : decode b9_variable 6 = .ok (.iconst 1, 1) := by decide +kernel
theorem d9_variable_7 : decode b9_variable 7 = .ok (.isub, 1) := by decide +kernel
theorem d9_variable_8 : decode b9_variable 8 = .ok (.imul, 1) := by decide +kernel
theorem d9_variable_9 : decode b9_variable 9 = .ok (.iload_n 2, 1) := by decide +kernel
theorem d9_variable_10 : decode b9_variable 10 = .ok (.iadd, 1) := by decide +kernel
theorem d9_variable_11 : decode b9_variable 11 = .ok (.istore_n 3, 1) := by decide +kernel
theorem d9_variable_12 : decode b9_variable 12 = .ok (.iload_n 1, 1) := by decide +kernel
theorem d9_variable_13 : decode b9_variable 13 = .ok (.bipush 15, 2) := by decide +kernel
theorem d9_variable_15 : decode b9_variable 15 = .ok (.if_icmp .ne 22, 3) := by decide +kernel
theorem d9_variable_18 : decode b9_variable 18 = .ok (.aload_n 0, 1) := by decide +kernel
theorem d9_variable_19 : decode b9_variable 19 = .ok (.aload_n 0, 1) := by decide +kernel
theorem d9_variable_20 : decode b9_variable 20 = .ok (.getfield 70, 3) := by decide +kernel
theorem d9_variable_23 : decode b9_variable 23 = .ok (.iload_n 3, 1) := by decide +kernel
theorem d9_variable_24 : decode b9_variable 24 = .ok (.laload, 1) := by decide +kernel
theorem d9_variable_25 : decode b9_variable 25 = .ok (.aload_n 0, 1) := by decide +kernel
theorem d9_variable_26 : decode b9_variable 26 = .ok (.getfield 73, 3) := by decide +kernel
theorem d9_variable_29 : decode b9_variable 29 = .ok (.iload_n 3, 1) := by decide +kernel
theorem d9_variable_30 : decode b9_variable 30 = .ok (.daload, 1) := by decide +kernel
theorem d9_variable_31 : decode b9_variable 31 = .ok (.invokevirtual 215, 3) := by decide +kernel
theorem d9_variable_34 : decode b9_variable 34 = .ok (.goto 136, 3) := by decide +kernel
theorem d9_variable_37 : decode b9_variable 37 = .ok (.iload_n 1, 1) := by decide +kernel
theorem d9_variable_38 : decode b9_variable 38 = .ok (.bipush 18, 2) := by decide +kernel
theorem d9_variable_40 : decode b9_variable 40 = .ok (.if_icmp .ne 20, 3) := by decide +kernel
theorem d9_variable_43 : decode b9_variable 43 = .ok (.aload_n 0, 1) := by decide +kernel
theorem d9_variable_44 : decode b9_variable 44 = .ok (.aload_n 0, 1) := by decide +kernel
theorem d9_variable_45 : decode b9_variable 45 = .ok (.getfield 34, 3) := by decide +kernel
theorem d9_variable_48 : decode b9_variable 48 = .ok (.iload_n 2, 1) := by decide +kernel
theorem d9_variable_49 : decode b9_variable 49 = .ok (.laload, 1) := by decide +kernel
theorem d9_variable_50 : decode b9_variable 50 = .ok (.aload_n 0, 1) := by decide +kernel
theorem d9_variable_51 : decode b9_variable 51 = .ok (.getfield 236, 3) := by decide +kernel
theorem d9_variable_54 : decode b9_variable 54 = .ok (.invokevirtual 215, 3) := by decide +kernel
theorem d9_variable_57 : decode b9_variable 57 = .ok (.goto 113, 3) := by decide +kernel
theorem d9_variable_60 : decode b9_variable 60 = .ok (.iload_n 1, 1) := by decide +kernel
theorem d9_variable_61 : decode b9_variable 61 = .ok (.bipush 17, 2) := by decide +kernel
theorem d9_variable_63 : decode b9_variable 63 = .ok (.if_icmp .eq 13, 3) := by decide +kernel
theorem d9_variable_66 : decode b9_variable 66 = .ok (.aload_n 0, 1) := by decide +kernel
theorem d9_variable_67 : decode b9_variable 67 = .ok (.dup, 1) := by decide +kernel
theorem d9_variable_68 : decode b9_variable 68 = .ok (.getfield 122, 3) := by decide +kernel
theorem d9_variable_71 : decode b9_variable 71 = .ok (.iconst 1, 1) := by decide +kernel
theorem d9_variable_72 : decode b9_variable 72 = .ok (.isub, 1) := by decide +kernel
theorem d9_variable_73 : decode b9_variable 73 = .ok (.putfield 122, 3) := by decide +kernel
theorem d9_variable_76 : decode b9_variable 76 = .ok (.iload_n 1, 1) := by decide +kernel
theorem d9_variable_77 : decode b9_variable 77 = .ok (.bipush 17, 2) := by decide +kernel
theorem d9_variable_79 : decode b9_variable 79 = .ok (.if_icmp .ne 12, 3) := by decide +kernel
theorem d9_variable_82 : decode b9_variable 82 = .ok (.aload_n 0, 1) := by decide +kernel
theorem d9_variable_83 : decode b9_variable 83 = .ok (.getfield 122, 3) := by decide +kernel
theorem d9_variable_86 : decode b9_variable 86 = .ok (.iconst 1, 1) := by decide +kernel
theorem d9_variable_87 : decode b9_variable 87 = .ok (.isub, 1) := by decide +kernel
theorem d9_variable_88 : decode b9_variable 88 = .ok (.goto 7, 3) := by decide +kernel
theorem d9_variable_91 : decode b9_variable 91 = .ok (.aload_n 0, 1) := by decide +kernel
theorem d9_variable_92 : decode b9_variable 92 = .ok (.getfield 122, 3) := by decide +kernel
theorem d9_variable_95 : decode b9_variable 95 = .ok (.istore 4, 2) := by decide +kernel
theorem d9_variable_97 : decode b9_variable 97 = .ok (.iload_n 1, 1) := by decide +kernel
theorem d9_variable_98 : decode b9_variable 98 = .ok (.bipush 19, 2) := by decide +kernel
theorem d9_variable_100 : decode b9_variable 100 = .ok (.if_icmp .ne 22, 3) := by decide +kernel
theorem d9_variable_103 : decode b9_variable 103 = .ok (.iload_n 2, 1) := by decide +kernel
theorem d9_variable_104 : decode b9_variable 104 = .ok (.iconst 2, 1) := by decide +kernel
theorem d9_variable_105 : decode b9_variable 105 = .ok (.if_icmp .ne 17, 3) := by decide +kernel
theorem d9_variable_108 : decode b9_variable 108 = .ok (.aload_n 0, 1) := by decide +kernel
theorem d9_variable_109 : decode b9_variable 109 = .ok (.aload_n 0, 1) := by decide +kernel
theorem d9_variable_110 : decode b9_variable 110 = .ok (.getfield 63, 3) := by decide +kernel
theorem d9_variable_113 : decode b9_variable 113 = .ok (.iload 4, 2) := by decide +kernel
theorem d9_variable_115 : decode b9_variable 115 = .ok (.daload, 1) := by decide +kernel
theorem d9_variable_116 : decode b9_variable 116 = .ok (.putfield 236, 3) := by decide +kernel
theorem d9_variable_119 : decode b9_variable 119 = .ok (.goto 51, 3) := by decide +kernel
theorem d9_variable_122 : decode b9_variable 122 = .ok (.iload_n 1, 1) := by decide +kernel
theorem d9_variable_123 : decode b9_variable 123 = .ok (.bipush 19, 2) := by decide +kernel
theorem d9_variable_125 : decode b9_variable 125 = .ok (.if_icmp .ne 19, 3) := by decide +kernel
theorem d9_variable_128 : decode b9_variable 128 = .ok (.aload_n 0, 1) := by decide +kernel
theorem d9_variable_129 : decode b9_variable 129 = .ok (.getfield 34, 3) := by decide +kernel
theorem d9_variable_132 : decode b9_variable 132 = .ok (.iload_n 2, 1) := by decide +kernel
theorem d9_variable_133 : decode b9_variable 133 = .ok (.aload_n 0, 1) := by decide +kernel
theorem d9_variable_134 : decode b9_variable 134 = .ok (.getfield 60, 3) := by decide +kernel
theorem d9_variable_137 : decode b9_variable 137 = .ok (.iload 4, 2) := by decide +kernel
theorem d9_variable_139 : decode b9_variable 139 = .ok (.laload, 1) := by decide +kernel
theorem d9_variable_140 : decode b9_variable 140 = .ok (.lastore, 1) := by decide +kernel
theorem d9_variable_141 : decode b9_variable 141 = .ok (.goto 29, 3) := by decide +kernel
theorem d9_variable_144 : decode b9_variable 144 = .ok (.aload_n 0, 1) := by decide +kernel
theorem d9_variable_145 : decode b9_variable 145 = .ok (.getfield 70, 3) := by decide +kernel
theorem d9_variable_148 : decode b9_variable 148 = .ok (.iload_n 3, 1) := by decide +kernel
theorem d9_variable_149 : decode b9_variable 149 = .ok (.aload_n 0, 1) := by decide +kernel
theorem d9_variable_150 : decode b9_variable 150 = .ok (.getfield 60, 3) := by decide +kernel
theorem d9_variable_153 : decode b9_variable 153 = .ok (.iload 4, 2) := by decide +kernel
theorem d9_variable_155 : decode b9_variable 155 = .ok (.laload, 1) := by decide +kernel
theorem d9_variable_156 : decode b9_variable 156 = .ok (.lastore, 1) := by decide +kernel
theorem d9_variable_157 : decode b9_variable 157 = .ok (.aload_n 0, 1) := by decide +kernel
theorem d9_variable_158 : decode b9_variable 158 = .ok (.getfield 73, 3) := by decide +kernel
theorem d9_variable_161 : decode b9_variable 161 = .ok (.iload_n 3, 1) := by decide +kernel
theorem d9_variable_162 : decode b9_variable 162 = .ok (.aload_n 0, 1) := by decide +kernel
theorem d9_variable_163 : decode b9_variable 163 = .ok (.getfield 63, 3) := by decide +kernel
theorem d9_variable_166 : decode b9_variable 166 = .ok (.iload 4, 2) := by decide +kernel
theorem d9_variable_168 : decode b9_variable 168 = .ok (.daload, 1) := by decide +kernel
theorem d9_variable_169 : decode b9_variable 169 = .ok (.dastore, 1) := by decide +kernel
theorem d9_variable_170 : decode b9_variable 170 = .ok (.return_, 1) := by decide +kernel
theorem d9_access_0 : decode b9_access 0 = .ok (.iload_n 1, 1) := by decide +kernel
theorem d9_access_1 : decode b9_access 1 = .ok (.bipush 24, 2) := by decide +kernel
theorem d9_access_3 : decode b9_access 3 = .ok (.if_icmp .eq 9, 3) := by decide +kernel
theorem d9_access_6 : decode b9_access 6 = .ok (.iload_n 1, 1) := by decide +kernel
theorem d9_access_7 : decode b9_access 7 = .ok (.bipush 27, 2) := by decide +kernel
theorem d9_access_9 : decode b9_access 9 = .ok (.if_icmp .ne 7, 3) := by decide +kernel
theorem d9_access_12 : decode b9_access 12 = .ok (.iconst 1, 1) := by decide +kernel
theorem d9_access_13 : decode b9_access 13 = .ok (.goto 21, 3) := by decide +kernel
theorem d9_access_16 : decode b9_access 16 = .ok (.iload_n 1, 1) := by decide +kernel
theorem d9_access_17 : decode b9_access 17 = .ok (.bipush 25, 2) := by decide +kernel
theorem d9_access_19 : decode b9_access 19 = .ok (.if_icmp .eq 9, 3) := by decide +kernel
theorem d9_access_22 : decode b9_access 22 = .ok (.iload_n 1, 1) := by decide +kernel
theorem d9_access_23 : decode b9_access 23 = .ok (.bipush 28, 2) := by decide +kernel
theorem d9_access_25 : decode b9_access 25 = .ok (.if_icmp .ne 8, 3) := by decide +kernel
theorem d9_access_28 : decode b9_access 28 = .ok (.bipush 8, 2) := by decide +kernel
theorem d9_access_30 : decode b9_access 30 = .ok (.goto 4, 3) := by decide +kernel
theorem d9_access_33 : decode b9_access 33 = .ok (.iconst 4, 1) := by decide +kernel
theorem d9_access_34 : decode b9_access 34 = .ok (.istore_n 3, 1) := by decide +kernel
theorem d9_access_35 : decode b9_access 35 = .ok (.iload_n 1, 1) := by decide +kernel
theorem d9_access_36 : decode b9_access 36 = .ok (.bipush 26, 2) := by decide +kernel
theorem d9_access_38 : decode b9_access 38 = .ok (.if_icmp .lt 13, 3) := by decide +kernel
theorem d9_access_41 : decode b9_access 41 = .ok (.aload_n 0, 1) := by decide +kernel
theorem d9_access_42 : decode b9_access 42 = .ok (.dup, 1) := by decide +kernel
theorem d9_access_43 : decode b9_access 43 = .ok (.getfield 122, 3) := by decide +kernel
theorem d9_access_46 : decode b9_access 46 = .ok (.iconst 1, 1) := by decide +kernel
theorem d9_access_47 : decode b9_access 47 = .ok (.isub, 1) := by decide +kernel
theorem d9_access_48 : decode b9_access 48 = .ok (.putfield 122, 3) := by decide +kernel
theorem d9_access_51 : decode b9_access 51 = .ok (.aload_n 0, 1) := by decide +kernel
theorem d9_access_52 : decode b9_access 52 = .ok (.getfield 60, 3) := by decide +kernel
theorem d9_access_55 : decode b9_access 55 = .ok (.aload_n 0, 1) := by decide +kernel
theorem d9_access_56 : decode b9_access 56 = .ok (.getfield 122, 3) := by decide +kernel
theorem d9_access_59 : decode b9_access 59 = .ok (.laload, 1) := by decide +kernel
theorem d9_access_60 : decode b9_access 60 = .ok (.lstore 4, 2) := by decide +kernel
theorem d9_access_62 : decode b9_access 62 = .ok (.aload_n 0, 1) := by decide +kernel
theorem d9_access_63 : decode b9_access 63 = .ok (.invokevirtual 226, 3) := by decide +kernel
theorem d9_access_66 : decode b9_access 66 = .ok (.i2l, 1) := by decide +kernel
theorem d9_access_67 : decode b9_access 67 = .ok (.iload_n 2, 1) := by decide +kernel
theorem d9_access_68 : decode b9_access 68 = .ok (.i2l, 1) := by decide +kernel
theorem d9_access_69 : decode b9_access 69 = .ok (.ladd, 1) := by decide +kernel
theorem d9_access_70 : decode b9_access 70 = .ok (.lstore 6, 2) := by decide +kernel
theorem d9_access_72 : decode b9_access 72 = .ok (.lload 6, 2) := by decide +kernel
theorem d9_access_74 : decode b9_access 74 = .ok (.lconst 0, 1) := by decide +kernel
theorem d9_access_75 : decode b9_access 75 = .ok (.lcmp, 1) := by decide +kernel
theorem d9_access_76 : decode b9_access 76 = .ok (.ifCond .lt 15, 3) := by decide +kernel
theorem d9_access_79 : decode b9_access 79 = .ok (.lload 6, 2) := by decide +kernel
theorem d9_access_81 : decode b9_access 81 = .ok (.iload_n 3, 1) := by decide +kernel
theorem d9_access_82 : decode b9_access 82 = .ok (.i2l, 1) := by decide +kernel
theorem d9_access_83 : decode b9_access 83 = .ok (.ladd, 1) := by decide +kernel
theorem d9_access_84 : decode b9_access 84 = .ok (.ldc2_w 239, 3) := by decide +kernel
theorem d9_access_87 : decode b9_access 87 = .ok (.lcmp, 1) := by decide +kernel
theorem d9_access_88 : decode b9_access 88 = .ok (.ifCond .le 9, 3) := by decide +kernel
theorem d9_access_91 : decode b9_access 91 = .ok (.aload_n 0, 1) := by decide +kernel
theorem d9_access_92 : decode b9_access 92 = .ok (.iconst 3, 1) := by decide +kernel
theorem d9_access_93 : decode b9_access 93 = .ok (.putfield 233, 3) := by decide +kernel
theorem d9_access_96 : decode b9_access 96 = .ok (.return_, 1) := by decide +kernel
theorem d9_access_97 : decode b9_access 97 = .ok (.lconst 0, 1) := by decide +kernel
theorem d9_access_98 : decode b9_access 98 = .ok (.lstore 8, 2) := by decide +kernel
theorem d9_access_100 : decode b9_access 100 = .ok (.iload_n 3, 1) := by decide +kernel
theorem d9_access_101 : decode b9_access 101 = .ok (.iconst 1, 1) := by decide +kernel
theorem d9_access_102 : decode b9_access 102 = .ok (.isub, 1) := by decide +kernel
theorem d9_access_103 : decode b9_access 103 = .ok (.istore 10, 2) := by decide +kernel
theorem d9_access_105 : decode b9_access 105 = .ok (.iload 10, 2) := by decide +kernel
theorem d9_access_107 : decode b9_access 107 = .ok (.ifCond .lt 62, 3) := by decide +kernel
theorem d9_access_110 : decode b9_access 110 = .ok (.lload 6, 2) := by decide +kernel
theorem d9_access_112 : decode b9_access 112 = .ok (.l2i, 1) := by decide +kernel
theorem d9_access_113 : decode b9_access 113 = .ok (.iload 10, 2) := by decide +kernel
theorem d9_access_115 : decode b9_access 115 = .ok (.iadd, 1) := by decide +kernel
theorem d9_access_116 : decode b9_access 116 = .ok (.istore 11, 2) := by decide +kernel
theorem d9_access_118 : decode b9_access 118 = .ok (.iload_n 1, 1) := by decide +kernel
theorem d9_access_119 : decode b9_access 119 = .ok (.bipush 26, 2) := by decide +kernel
theorem d9_access_121 : decode b9_access 121 = .ok (.if_icmp .lt 26, 3) := by decide +kernel
theorem d9_access_124 : decode b9_access 124 = .ok (.aload_n 0, 1) := by decide +kernel
theorem d9_access_125 : decode b9_access 125 = .ok (.getfield 31, 3) := by decide +kernel
theorem d9_access_128 : decode b9_access 128 = .ok (.iload 11, 2) := by decide +kernel
theorem d9_access_130 : decode b9_access 130 = .ok (.lload 4, 2) := by decide +kernel
theorem d9_access_132 : decode b9_access 132 = .ok (.bipush 8, 2) := by decide +kernel
theorem d9_access_134 : decode b9_access 134 = .ok (.iload 10, 2) := by decide +kernel
theorem d9_access_136 : decode b9_access 136 = .ok (.imul, 1) := by decide +kernel
theorem d9_access_137 : decode b9_access 137 = .ok (.lshr, 1) := by decide +kernel
theorem d9_access_138 : decode b9_access 138 = .ok (.l2i, 1) := by decide +kernel
theorem d9_access_139 : decode b9_access 139 = .ok (.sipush 255, 3) := by decide +kernel
theorem d9_access_142 : decode b9_access 142 = .ok (.iand, 1) := by decide +kernel
theorem d9_access_143 : decode b9_access 143 = .ok (.iastore, 1) := by decide +kernel
theorem d9_access_144 : decode b9_access 144 = .ok (.goto 19, 3) := by decide +kernel
theorem d9_access_147 : decode b9_access 147 = .ok (.lload 8, 2) := by decide +kernel
theorem d9_access_149 : decode b9_access 149 = .ok (.bipush 8, 2) := by decide +kernel
theorem d9_access_151 : decode b9_access 151 = .ok (.lshl, 1) := by decide +kernel
theorem d9_access_152 : decode b9_access 152 = .ok (.aload_n 0, 1) := by decide +kernel
theorem d9_access_153 : decode b9_access 153 = .ok (.getfield 31, 3) := by decide +kernel
theorem d9_access_156 : decode b9_access 156 = .ok (.iload 11, 2) := by decide +kernel
theorem d9_access_158 : decode b9_access 158 = .ok (.iaload, 1) := by decide +kernel
theorem d9_access_159 : decode b9_access 159 = .ok (.i2l, 1) := by decide +kernel
theorem d9_access_160 : decode b9_access 160 = .ok (.lor, 1) := by decide +kernel
theorem d9_access_161 : decode b9_access 161 = .ok (.lstore 8, 2) := by decide +kernel
theorem d9_access_163 : decode b9_access 163 = .ok (.iinc 10 (-1), 3) := by decide +kernel
theorem d9_access_166 : decode b9_access 166 = .ok (.goto (-61), 3) := by decide +kernel
theorem d9_access_169 : decode b9_access 169 = .ok (.iload_n 1, 1) := by decide +kernel
theorem d9_access_170 : decode b9_access 170 = .ok (.bipush 26, 2) := by decide +kernel
theorem d9_access_172 : decode b9_access 172 = .ok (.if_icmp .ge 23, 3) := by decide +kernel
theorem d9_access_175 : decode b9_access 175 = .ok (.aload_n 0, 1) := by decide +kernel
theorem d9_access_176 : decode b9_access 176 = .ok (.iload_n 1, 1) := by decide +kernel
theorem d9_access_177 : decode b9_access 177 = .ok (.bipush 23, 2) := by decide +kernel
theorem d9_access_179 : decode b9_access 179 = .ok (.if_icmp .ne 10, 3) := by decide +kernel
theorem d9_access_182 : decode b9_access 182 = .ok (.lload 8, 2) := by decide +kernel
theorem d9_access_184 : decode b9_access 184 = .ok (.l2i, 1) := by decide +kernel
theorem d9_access_185 : decode b9_access 185 = .ok (.i2l, 1) := by decide +kernel
theorem d9_access_186 : decode b9_access 186 = .ok (.goto 5, 3) := by decide +kernel
theorem d9_access_189 : decode b9_access 189 = .ok (.lload 8, 2) := by decide +kernel
theorem d9_access_191 : decode b9_access 191 = .ok (.dconst 0, 1) := by decide +kernel
theorem d9_access_192 : decode b9_access 192 = .ok (.invokevirtual 215, 3) := by decide +kernel
theorem d9_access_195 : decode b9_access 195 = .ok (.return_, 1) := by decide +kernel
theorem d9_bits_0 : decode b9_bits 0 = .ok (.lload_n 3, 1) := by decide +kernel
theorem d9_bits_1 : decode b9_bits 1 = .ok (.l2i, 1) := by decide +kernel
theorem d9_bits_2 : decode b9_bits 2 = .ok (.iload 5, 2) := by decide +kernel
theorem d9_bits_4 : decode b9_bits 4 = .ok (.iconst 1, 1) := by decide +kernel
theorem d9_bits_5 : decode b9_bits 5 = .ok (.isub, 1) := by decide +kernel
theorem d9_bits_6 : decode b9_bits 6 = .ok (.iand, 1) := by decide +kernel
theorem d9_bits_7 : decode b9_bits 7 = .ok (.istore 6, 2) := by decide +kernel
theorem d9_bits_9 : decode b9_bits 9 = .ok (.iload_n 0, 1) := by decide +kernel
theorem d9_bits_10 : decode b9_bits 10 = .ok (.iconst 5, 1) := by decide +kernel
theorem d9_bits_11 : decode b9_bits 11 = .ok (.if_icmp .ne 7, 3) := by decide +kernel
theorem d9_bits_14 : decode b9_bits 14 = .ok (.lload_n 1, 1) := by decide +kernel
theorem d9_bits_15 : decode b9_bits 15 = .ok (.lload_n 3, 1) := by decide +kernel
theorem d9_bits_16 : decode b9_bits 16 = .ok (.land, 1) := by decide +kernel
theorem d9_bits_17 : decode b9_bits 17 = .ok (.lreturn, 1) := by decide +kernel
theorem d9_bits_18 : decode b9_bits 18 = .ok (.iload_n 0, 1) := by decide +kernel
theorem d9_bits_19 : decode b9_bits 19 = .ok (.bipush 6, 2) := by decide +kernel
theorem d9_bits_21 : decode b9_bits 21 = .ok (.if_icmp .ne 7, 3) := by decide +kernel
theorem d9_bits_24 : decode b9_bits 24 = .ok (.lload_n 1, 1) := by decide +kernel
theorem d9_bits_25 : decode b9_bits 25 = .ok (.lload_n 3, 1) := by decide +kernel
theorem d9_bits_26 : decode b9_bits 26 = .ok (.lor, 1) := by decide +kernel
theorem d9_bits_27 : decode b9_bits 27 = .ok (.lreturn, 1) := by decide +kernel
theorem d9_bits_28 : decode b9_bits 28 = .ok (.iload_n 0, 1) := by decide +kernel
theorem d9_bits_29 : decode b9_bits 29 = .ok (.bipush 7, 2) := by decide +kernel
theorem d9_bits_31 : decode b9_bits 31 = .ok (.if_icmp .ne 7, 3) := by decide +kernel
theorem d9_bits_34 : decode b9_bits 34 = .ok (.lload_n 1, 1) := by decide +kernel
theorem d9_bits_35 : decode b9_bits 35 = .ok (.lload_n 3, 1) := by decide +kernel
theorem d9_bits_36 : decode b9_bits 36 = .ok (.lxor, 1) := by decide +kernel
theorem d9_bits_37 : decode b9_bits 37 = .ok (.lreturn, 1) := by decide +kernel
theorem d9_bits_38 : decode b9_bits 38 = .ok (.iload_n 0, 1) := by decide +kernel
theorem d9_bits_39 : decode b9_bits 39 = .ok (.bipush 8, 2) := by decide +kernel
theorem d9_bits_41 : decode b9_bits 41 = .ok (.if_icmp .ne 8, 3) := by decide +kernel
theorem d9_bits_44 : decode b9_bits 44 = .ok (.lload_n 1, 1) := by decide +kernel
theorem d9_bits_45 : decode b9_bits 45 = .ok (.iload 6, 2) := by decide +kernel
theorem d9_bits_47 : decode b9_bits 47 = .ok (.lshl, 1) := by decide +kernel
theorem d9_bits_48 : decode b9_bits 48 = .ok (.lreturn, 1) := by decide +kernel
theorem d9_bits_49 : decode b9_bits 49 = .ok (.iload_n 0, 1) := by decide +kernel
theorem d9_bits_50 : decode b9_bits 50 = .ok (.bipush 9, 2) := by decide +kernel
theorem d9_bits_52 : decode b9_bits 52 = .ok (.if_icmp .ne 8, 3) := by decide +kernel
theorem d9_bits_55 : decode b9_bits 55 = .ok (.lload_n 1, 1) := by decide +kernel
theorem d9_bits_56 : decode b9_bits 56 = .ok (.iload 6, 2) := by decide +kernel
theorem d9_bits_58 : decode b9_bits 58 = .ok (.lshr, 1) := by decide +kernel
theorem d9_bits_59 : decode b9_bits 59 = .ok (.lreturn, 1) := by decide +kernel
theorem d9_bits_60 : decode b9_bits 60 = .ok (.iload 5, 2) := by decide +kernel
theorem d9_bits_62 : decode b9_bits 62 = .ok (.bipush 64, 2) := by decide +kernel
theorem d9_bits_64 : decode b9_bits 64 = .ok (.if_icmp .ne 10, 3) := by decide +kernel
theorem d9_bits_67 : decode b9_bits 67 = .ok (.lload_n 1, 1) := by decide +kernel
theorem d9_bits_68 : decode b9_bits 68 = .ok (.iload 6, 2) := by decide +kernel
theorem d9_bits_70 : decode b9_bits 70 = .ok (.lushr, 1) := by decide +kernel
theorem d9_bits_71 : decode b9_bits 71 = .ok (.goto 9, 3) := by decide +kernel
theorem d9_bits_74 : decode b9_bits 74 = .ok (.lload_n 1, 1) := by decide +kernel
theorem d9_bits_75 : decode b9_bits 75 = .ok (.l2i, 1) := by decide +kernel
theorem d9_bits_76 : decode b9_bits 76 = .ok (.iload 6, 2) := by decide +kernel
theorem d9_bits_78 : decode b9_bits 78 = .ok (.iushr, 1) := by decide +kernel
theorem d9_bits_79 : decode b9_bits 79 = .ok (.i2l, 1) := by decide +kernel
theorem d9_bits_80 : decode b9_bits 80 = .ok (.lreturn, 1) := by decide +kernel
theorem d9_calculate_0 : decode b9_calculate 0 = .ok (.aload_n 0, 1) := by decide +kernel
theorem d9_calculate_1 : decode b9_calculate 1 = .ok (.dup, 1) := by decide +kernel
theorem d9_calculate_2 : decode b9_calculate 2 = .ok (.getfield 122, 3) := by decide +kernel
theorem d9_calculate_5 : decode b9_calculate 5 = .ok (.iconst 2, 1) := by decide +kernel
theorem d9_calculate_6 : decode b9_calculate 6 = .ok (.isub, 1) := by decide +kernel
theorem d9_calculate_7 : decode b9_calculate 7 = .ok (.putfield 122, 3) := by decide +kernel
theorem d9_calculate_10 : decode b9_calculate 10 = .ok (.aload_n 0, 1) := by decide +kernel
theorem d9_calculate_11 : decode b9_calculate 11 = .ok (.getfield 60, 3) := by decide +kernel
theorem d9_calculate_14 : decode b9_calculate 14 = .ok (.aload_n 0, 1) := by decide +kernel
theorem d9_calculate_15 : decode b9_calculate 15 = .ok (.getfield 122, 3) := by decide +kernel
theorem d9_calculate_18 : decode b9_calculate 18 = .ok (.laload, 1) := by decide +kernel
theorem d9_calculate_19 : decode b9_calculate 19 = .ok (.lstore_n 3, 1) := by decide +kernel
theorem d9_calculate_20 : decode b9_calculate 20 = .ok (.aload_n 0, 1) := by decide +kernel
theorem d9_calculate_21 : decode b9_calculate 21 = .ok (.getfield 60, 3) := by decide +kernel
theorem d9_calculate_24 : decode b9_calculate 24 = .ok (.aload_n 0, 1) := by decide +kernel
theorem d9_calculate_25 : decode b9_calculate 25 = .ok (.getfield 122, 3) := by decide +kernel
theorem d9_calculate_28 : decode b9_calculate 28 = .ok (.iconst 1, 1) := by decide +kernel
theorem d9_calculate_29 : decode b9_calculate 29 = .ok (.iadd, 1) := by decide +kernel
theorem d9_calculate_30 : decode b9_calculate 30 = .ok (.laload, 1) := by decide +kernel
theorem d9_calculate_31 : decode b9_calculate 31 = .ok (.lstore 5, 2) := by decide +kernel
theorem d9_calculate_33 : decode b9_calculate 33 = .ok (.iload_n 1, 1) := by decide +kernel
theorem d9_calculate_34 : decode b9_calculate 34 = .ok (.iconst 3, 1) := by decide +kernel
theorem d9_calculate_35 : decode b9_calculate 35 = .ok (.if_icmp .eq 8, 3) := by decide +kernel
theorem d9_calculate_38 : decode b9_calculate 38 = .ok (.iload_n 1, 1) := by decide +kernel
theorem d9_calculate_39 : decode b9_calculate 39 = .ok (.iconst 4, 1) := by decide +kernel
theorem d9_calculate_40 : decode b9_calculate 40 = .ok (.if_icmp .ne 16, 3) := by decide +kernel
theorem d9_calculate_43 : decode b9_calculate 43 = .ok (.lload 5, 2) := by decide +kernel
theorem d9_calculate_45 : decode b9_calculate 45 = .ok (.lconst 0, 1) := by decide +kernel
theorem d9_calculate_46 : decode b9_calculate 46 = .ok (.lcmp, 1) := by decide +kernel
theorem d9_calculate_47 : decode b9_calculate 47 = .ok (.ifCond .ne 9, 3) := by decide +kernel
theorem d9_calculate_50 : decode b9_calculate 50 = .ok (.aload_n 0, 1) := by decide +kernel
theorem d9_calculate_51 : decode b9_calculate 51 = .ok (.iconst 2, 1) := by decide +kernel
theorem d9_calculate_52 : decode b9_calculate 52 = .ok (.putfield 233, 3) := by decide +kernel
theorem d9_calculate_55 : decode b9_calculate 55 = .ok (.return_, 1) := by decide +kernel
theorem d9_calculate_56 : decode b9_calculate 56 = .ok (.iload_n 1, 1) := by decide +kernel
theorem d9_calculate_57 : decode b9_calculate 57 = .ok (.ifCond .ne 12, 3) := by decide +kernel
theorem d9_calculate_60 : decode b9_calculate 60 = .ok (.lload_n 3, 1) := by decide +kernel
theorem d9_calculate_61 : decode b9_calculate 61 = .ok (.lload 5, 2) := by decide +kernel
theorem d9_calculate_63 : decode b9_calculate 63 = .ok (.ladd, 1) := by decide +kernel
theorem d9_calculate_64 : decode b9_calculate 64 = .ok (.lstore 7, 2) := by decide +kernel
theorem d9_calculate_66 : decode b9_calculate 66 = .ok (.goto 169, 3) := by decide +kernel
theorem d9_calculate_69 : decode b9_calculate 69 = .ok (.iload_n 1, 1) := by decide +kernel
theorem d9_calculate_70 : decode b9_calculate 70 = .ok (.iconst 1, 1) := by decide +kernel
theorem d9_calculate_71 : decode b9_calculate 71 = .ok (.if_icmp .ne 12, 3) := by decide +kernel
theorem d9_calculate_74 : decode b9_calculate 74 = .ok (.lload_n 3, 1) := by decide +kernel
theorem d9_calculate_75 : decode b9_calculate 75 = .ok (.lload 5, 2) := by decide +kernel
theorem d9_calculate_77 : decode b9_calculate 77 = .ok (.lsub, 1) := by decide +kernel
theorem d9_calculate_78 : decode b9_calculate 78 = .ok (.lstore 7, 2) := by decide +kernel
theorem d9_calculate_80 : decode b9_calculate 80 = .ok (.goto 155, 3) := by decide +kernel
theorem d9_calculate_83 : decode b9_calculate 83 = .ok (.iload_n 1, 1) := by decide +kernel
theorem d9_calculate_84 : decode b9_calculate 84 = .ok (.iconst 2, 1) := by decide +kernel
theorem d9_calculate_85 : decode b9_calculate 85 = .ok (.if_icmp .ne 12, 3) := by decide +kernel
theorem d9_calculate_88 : decode b9_calculate 88 = .ok (.lload_n 3, 1) := by decide +kernel
theorem d9_calculate_89 : decode b9_calculate 89 = .ok (.lload 5, 2) := by decide +kernel
theorem d9_calculate_91 : decode b9_calculate 91 = .ok (.lmul, 1) := by decide +kernel
theorem d9_calculate_92 : decode b9_calculate 92 = .ok (.lstore 7, 2) := by decide +kernel
theorem d9_calculate_94 : decode b9_calculate 94 = .ok (.goto 141, 3) := by decide +kernel
theorem d9_calculate_97 : decode b9_calculate 97 = .ok (.iload_n 1, 1) := by decide +kernel
theorem d9_calculate_98 : decode b9_calculate 98 = .ok (.iconst 3, 1) := by decide +kernel
theorem d9_calculate_99 : decode b9_calculate 99 = .ok (.if_icmp .ne 12, 3) := by decide +kernel
theorem d9_calculate_102 : decode b9_calculate 102 = .ok (.lload_n 3, 1) := by decide +kernel
theorem d9_calculate_103 : decode b9_calculate 103 = .ok (.lload 5, 2) := by decide +kernel
theorem d9_calculate_105 : decode b9_calculate 105 = .ok (.ldiv, 1) := by decide +kernel
theorem d9_calculate_106 : decode b9_calculate 106 = .ok (.lstore 7, 2) := by decide +kernel
theorem d9_calculate_108 : decode b9_calculate 108 = .ok (.goto 127, 3) := by decide +kernel
theorem d9_calculate_111 : decode b9_calculate 111 = .ok (.iload_n 1, 1) := by decide +kernel
theorem d9_calculate_112 : decode b9_calculate 112 = .ok (.iconst 4, 1) := by decide +kernel
theorem d9_calculate_113 : decode b9_calculate 113 = .ok (.if_icmp .ne 12, 3) := by decide +kernel
theorem d9_calculate_116 : decode b9_calculate 116 = .ok (.lload_n 3, 1) := by decide +kernel
theorem d9_calculate_117 : decode b9_calculate 117 = .ok (.lload 5, 2) := by decide +kernel
theorem d9_calculate_119 : decode b9_calculate 119 = .ok (.lrem, 1) := by decide +kernel
theorem d9_calculate_120 : decode b9_calculate 120 = .ok (.lstore 7, 2) := by decide +kernel
theorem d9_calculate_122 : decode b9_calculate 122 = .ok (.goto 113, 3) := by decide +kernel
theorem d9_calculate_125 : decode b9_calculate 125 = .ok (.iload_n 1, 1) := by decide +kernel
theorem d9_calculate_126 : decode b9_calculate 126 = .ok (.bipush 11, 2) := by decide +kernel
theorem d9_calculate_128 : decode b9_calculate 128 = .ok (.if_icmp .ge 16, 3) := by decide +kernel
theorem d9_calculate_131 : decode b9_calculate 131 = .ok (.iload_n 1, 1) := by decide +kernel
theorem d9_calculate_132 : decode b9_calculate 132 = .ok (.lload_n 3, 1) := by decide +kernel
theorem d9_calculate_133 : decode b9_calculate 133 = .ok (.lload 5, 2) := by decide +kernel
theorem d9_calculate_135 : decode b9_calculate 135 = .ok (.iload_n 2, 1) := by decide +kernel
theorem d9_calculate_136 : decode b9_calculate 136 = .ok (.invokestatic 241, 3) := by decide +kernel
theorem d9_calculate_139 : decode b9_calculate 139 = .ok (.lstore 7, 2) := by decide +kernel
theorem d9_calculate_141 : decode b9_calculate 141 = .ok (.goto 94, 3) := by decide +kernel
theorem d9_calculate_144 : decode b9_calculate 144 = .ok (.iload_n 1, 1) := by decide +kernel
theorem d9_calculate_145 : decode b9_calculate 145 = .ok (.bipush 11, 2) := by decide +kernel
theorem d9_calculate_147 : decode b9_calculate 147 = .ok (.if_icmp .ne 20, 3) := by decide +kernel
theorem d9_calculate_150 : decode b9_calculate 150 = .ok (.lload_n 3, 1) := by decide +kernel
theorem d9_calculate_151 : decode b9_calculate 151 = .ok (.lload 5, 2) := by decide +kernel
theorem d9_calculate_153 : decode b9_calculate 153 = .ok (.lcmp, 1) := by decide +kernel
theorem d9_calculate_154 : decode b9_calculate 154 = .ok (.ifCond .ne 7, 3) := by decide +kernel
theorem d9_calculate_157 : decode b9_calculate 157 = .ok (.lconst 1, 1) := by decide +kernel
theorem d9_calculate_158 : decode b9_calculate 158 = .ok (.goto 4, 3) := by decide +kernel
theorem d9_calculate_161 : decode b9_calculate 161 = .ok (.lconst 0, 1) := by decide +kernel
theorem d9_calculate_162 : decode b9_calculate 162 = .ok (.lstore 7, 2) := by decide +kernel
theorem d9_calculate_164 : decode b9_calculate 164 = .ok (.goto 71, 3) := by decide +kernel
theorem d9_calculate_167 : decode b9_calculate 167 = .ok (.iload_n 1, 1) := by decide +kernel
theorem d9_calculate_168 : decode b9_calculate 168 = .ok (.bipush 12, 2) := by decide +kernel
theorem d9_calculate_170 : decode b9_calculate 170 = .ok (.if_icmp .ne 20, 3) := by decide +kernel
theorem d9_calculate_173 : decode b9_calculate 173 = .ok (.lload_n 3, 1) := by decide +kernel
theorem d9_calculate_174 : decode b9_calculate 174 = .ok (.lload 5, 2) := by decide +kernel
theorem d9_calculate_176 : decode b9_calculate 176 = .ok (.lcmp, 1) := by decide +kernel
theorem d9_calculate_177 : decode b9_calculate 177 = .ok (.ifCond .eq 7, 3) := by decide +kernel
theorem d9_calculate_180 : decode b9_calculate 180 = .ok (.lconst 1, 1) := by decide +kernel
theorem d9_calculate_181 : decode b9_calculate 181 = .ok (.goto 4, 3) := by decide +kernel
theorem d9_calculate_184 : decode b9_calculate 184 = .ok (.lconst 0, 1) := by decide +kernel
theorem d9_calculate_185 : decode b9_calculate 185 = .ok (.lstore 7, 2) := by decide +kernel
theorem d9_calculate_187 : decode b9_calculate 187 = .ok (.goto 48, 3) := by decide +kernel
theorem d9_calculate_190 : decode b9_calculate 190 = .ok (.iload_n 1, 1) := by decide +kernel
theorem d9_calculate_191 : decode b9_calculate 191 = .ok (.bipush 13, 2) := by decide +kernel
theorem d9_calculate_193 : decode b9_calculate 193 = .ok (.if_icmp .ne 20, 3) := by decide +kernel
theorem d9_calculate_196 : decode b9_calculate 196 = .ok (.lload_n 3, 1) := by decide +kernel
theorem d9_calculate_197 : decode b9_calculate 197 = .ok (.lload 5, 2) := by decide +kernel
theorem d9_calculate_199 : decode b9_calculate 199 = .ok (.lcmp, 1) := by decide +kernel
theorem d9_calculate_200 : decode b9_calculate 200 = .ok (.ifCond .ge 7, 3) := by decide +kernel
theorem d9_calculate_203 : decode b9_calculate 203 = .ok (.lconst 1, 1) := by decide +kernel
theorem d9_calculate_204 : decode b9_calculate 204 = .ok (.goto 4, 3) := by decide +kernel
theorem d9_calculate_207 : decode b9_calculate 207 = .ok (.lconst 0, 1) := by decide +kernel
theorem d9_calculate_208 : decode b9_calculate 208 = .ok (.lstore 7, 2) := by decide +kernel
theorem d9_calculate_210 : decode b9_calculate 210 = .ok (.goto 25, 3) := by decide +kernel
theorem d9_calculate_213 : decode b9_calculate 213 = .ok (.lload_n 3, 1) := by decide +kernel
theorem d9_calculate_214 : decode b9_calculate 214 = .ok (.ldc2_w 245, 3) := by decide +kernel
theorem d9_calculate_217 : decode b9_calculate 217 = .ok (.land, 1) := by decide +kernel
theorem d9_calculate_218 : decode b9_calculate 218 = .ok (.lload 5, 2) := by decide +kernel
theorem d9_calculate_220 : decode b9_calculate 220 = .ok (.ldc2_w 245, 3) := by decide +kernel
theorem d9_calculate_223 : decode b9_calculate 223 = .ok (.land, 1) := by decide +kernel
theorem d9_calculate_224 : decode b9_calculate 224 = .ok (.lcmp, 1) := by decide +kernel
theorem d9_calculate_225 : decode b9_calculate 225 = .ok (.ifCond .ge 7, 3) := by decide +kernel
theorem d9_calculate_228 : decode b9_calculate 228 = .ok (.lconst 1, 1) := by decide +kernel
theorem d9_calculate_229 : decode b9_calculate 229 = .ok (.goto 4, 3) := by decide +kernel
theorem d9_calculate_232 : decode b9_calculate 232 = .ok (.lconst 0, 1) := by decide +kernel
theorem d9_calculate_233 : decode b9_calculate 233 = .ok (.lstore 7, 2) := by decide +kernel
theorem d9_calculate_235 : decode b9_calculate 235 = .ok (.aload_n 0, 1) := by decide +kernel
theorem d9_calculate_236 : decode b9_calculate 236 = .ok (.iload_n 2, 1) := by decide +kernel
theorem d9_calculate_237 : decode b9_calculate 237 = .ok (.bipush 32, 2) := by decide +kernel
theorem d9_calculate_239 : decode b9_calculate 239 = .ok (.if_icmp .ne 10, 3) := by decide +kernel
theorem d9_calculate_242 : decode b9_calculate 242 = .ok (.lload 7, 2) := by decide +kernel
theorem d9_calculate_244 : decode b9_calculate 244 = .ok (.l2i, 1) := by decide +kernel
theorem d9_calculate_245 : decode b9_calculate 245 = .ok (.i2l, 1) := by decide +kernel
theorem d9_calculate_246 : decode b9_calculate 246 = .ok (.goto 5, 3) := by decide +kernel
theorem d9_calculate_249 : decode b9_calculate 249 = .ok (.lload 7, 2) := by decide +kernel
theorem d9_calculate_251 : decode b9_calculate 251 = .ok (.dconst 0, 1) := by decide +kernel
theorem d9_calculate_252 : decode b9_calculate 252 = .ok (.invokevirtual 215, 3) := by decide +kernel
theorem d9_calculate_255 : decode b9_calculate 255 = .ok (.return_, 1) := by decide +kernel
theorem d9_measure_0 : decode b9_measure 0 = .ok (.aload_n 0, 1) := by decide +kernel
theorem d9_measure_1 : decode b9_measure 1 = .ok (.dup, 1) := by decide +kernel
theorem d9_measure_2 : decode b9_measure 2 = .ok (.getfield 122, 3) := by decide +kernel
theorem d9_measure_5 : decode b9_measure 5 = .ok (.iconst 2, 1) := by decide +kernel
theorem d9_measure_6 : decode b9_measure 6 = .ok (.isub, 1) := by decide +kernel
theorem d9_measure_7 : decode b9_measure 7 = .ok (.putfield 122, 3) := by decide +kernel
theorem d9_measure_10 : decode b9_measure 10 = .ok (.aload_n 0, 1) := by decide +kernel
theorem d9_measure_11 : decode b9_measure 11 = .ok (.getfield 63, 3) := by decide +kernel
theorem d9_measure_14 : decode b9_measure 14 = .ok (.aload_n 0, 1) := by decide +kernel
theorem d9_measure_15 : decode b9_measure 15 = .ok (.getfield 122, 3) := by decide +kernel
theorem d9_measure_18 : decode b9_measure 18 = .ok (.daload, 1) := by decide +kernel
theorem d9_measure_19 : decode b9_measure 19 = .ok (.dstore_n 2, 1) := by decide +kernel
theorem d9_measure_20 : decode b9_measure 20 = .ok (.aload_n 0, 1) := by decide +kernel
theorem d9_measure_21 : decode b9_measure 21 = .ok (.getfield 63, 3) := by decide +kernel
theorem d9_measure_24 : decode b9_measure 24 = .ok (.aload_n 0, 1) := by decide +kernel
theorem d9_measure_25 : decode b9_measure 25 = .ok (.getfield 122, 3) := by decide +kernel
theorem d9_measure_28 : decode b9_measure 28 = .ok (.iconst 1, 1) := by decide +kernel
theorem d9_measure_29 : decode b9_measure 29 = .ok (.iadd, 1) := by decide +kernel
theorem d9_measure_30 : decode b9_measure 30 = .ok (.daload, 1) := by decide +kernel
theorem d9_measure_31 : decode b9_measure 31 = .ok (.dstore 4, 2) := by decide +kernel
theorem d9_measure_33 : decode b9_measure 33 = .ok (.iload_n 1, 1) := by decide +kernel
theorem d9_measure_34 : decode b9_measure 34 = .ok (.bipush 74, 2) := by decide +kernel
theorem d9_measure_36 : decode b9_measure 36 = .ok (.if_icmp .eq 9, 3) := by decide +kernel
theorem d9_measure_39 : decode b9_measure 39 = .ok (.iload_n 1, 1) := by decide +kernel
theorem d9_measure_40 : decode b9_measure 40 = .ok (.bipush 75, 2) := by decide +kernel
theorem d9_measure_42 : decode b9_measure 42 = .ok (.if_icmp .ne 37, 3) := by decide +kernel
theorem d9_measure_45 : decode b9_measure 45 = .ok (.aload_n 0, 1) := by decide +kernel
theorem d9_measure_46 : decode b9_measure 46 = .ok (.iload_n 1, 1) := by decide +kernel
theorem d9_measure_47 : decode b9_measure 47 = .ok (.bipush 74, 2) := by decide +kernel
theorem d9_measure_49 : decode b9_measure 49 = .ok (.if_icmp .ne 13, 3) := by decide +kernel
theorem d9_measure_52 : decode b9_measure 52 = .ok (.dload_n 2, 1) := by decide +kernel
theorem d9_measure_53 : decode b9_measure 53 = .ok (.dload 4, 2) := by decide +kernel
theorem d9_measure_55 : decode b9_measure 55 = .ok (.dcmp .l, 1) := by decide +kernel
theorem d9_measure_56 : decode b9_measure 56 = .ok (.ifCond .ne 17, 3) := by decide +kernel
theorem d9_measure_59 : decode b9_measure 59 = .ok (.goto 10, 3) := by decide +kernel
theorem d9_measure_62 : decode b9_measure 62 = .ok (.dload_n 2, 1) := by decide +kernel
theorem d9_measure_63 : decode b9_measure 63 = .ok (.dload 4, 2) := by decide +kernel
theorem d9_measure_65 : decode b9_measure 65 = .ok (.dcmp .g, 1) := by decide +kernel
theorem d9_measure_66 : decode b9_measure 66 = .ok (.ifCond .ge 7, 3) := by decide +kernel
theorem d9_measure_69 : decode b9_measure 69 = .ok (.lconst 1, 1) := by decide +kernel
theorem d9_measure_70 : decode b9_measure 70 = .ok (.goto 4, 3) := by decide +kernel
theorem d9_measure_73 : decode b9_measure 73 = .ok (.lconst 0, 1) := by decide +kernel
theorem d9_measure_74 : decode b9_measure 74 = .ok (.dconst 0, 1) := by decide +kernel
theorem d9_measure_75 : decode b9_measure 75 = .ok (.invokevirtual 215, 3) := by decide +kernel
theorem d9_measure_78 : decode b9_measure 78 = .ok (.return_, 1) := by decide +kernel
theorem d9_measure_79 : decode b9_measure 79 = .ok (.iload_n 1, 1) := by decide +kernel
theorem d9_measure_80 : decode b9_measure 80 = .ok (.bipush 73, 2) := by decide +kernel
theorem d9_measure_82 : decode b9_measure 82 = .ok (.if_icmp .ne 16, 3) := by decide +kernel
theorem d9_measure_85 : decode b9_measure 85 = .ok (.dload 4, 2) := by decide +kernel
theorem d9_measure_87 : decode b9_measure 87 = .ok (.dconst 0, 1) := by decide +kernel
theorem d9_measure_88 : decode b9_measure 88 = .ok (.dcmp .l, 1) := by decide +kernel
theorem d9_measure_89 : decode b9_measure 89 = .ok (.ifCond .ne 9, 3) := by decide +kernel
theorem d9_measure_92 : decode b9_measure 92 = .ok (.aload_n 0, 1) := by decide +kernel
theorem d9_measure_93 : decode b9_measure 93 = .ok (.iconst 2, 1) := by decide +kernel
theorem d9_measure_94 : decode b9_measure 94 = .ok (.putfield 233, 3) := by decide +kernel
theorem d9_measure_97 : decode b9_measure 97 = .ok (.return_, 1) := by decide +kernel
theorem d9_measure_98 : decode b9_measure 98 = .ok (.iload_n 1, 1) := by decide +kernel
theorem d9_measure_99 : decode b9_measure 99 = .ok (.bipush 70, 2) := by decide +kernel
theorem d9_measure_101 : decode b9_measure 101 = .ok (.if_icmp .ne 10, 3) := by decide +kernel
theorem d9_measure_104 : decode b9_measure 104 = .ok (.dload_n 2, 1) := by decide +kernel
theorem d9_measure_105 : decode b9_measure 105 = .ok (.dload 4, 2) := by decide +kernel
theorem d9_measure_107 : decode b9_measure 107 = .ok (.dadd, 1) := by decide +kernel
theorem d9_measure_108 : decode b9_measure 108 = .ok (.goto 33, 3) := by decide +kernel
theorem d9_measure_111 : decode b9_measure 111 = .ok (.iload_n 1, 1) := by decide +kernel
theorem d9_measure_112 : decode b9_measure 112 = .ok (.bipush 71, 2) := by decide +kernel
theorem d9_measure_114 : decode b9_measure 114 = .ok (.if_icmp .ne 10, 3) := by decide +kernel
theorem d9_measure_117 : decode b9_measure 117 = .ok (.dload_n 2, 1) := by decide +kernel
theorem d9_measure_118 : decode b9_measure 118 = .ok (.dload 4, 2) := by decide +kernel
theorem d9_measure_120 : decode b9_measure 120 = .ok (.dsub, 1) := by decide +kernel
theorem d9_measure_121 : decode b9_measure 121 = .ok (.goto 20, 3) := by decide +kernel
theorem d9_measure_124 : decode b9_measure 124 = .ok (.iload_n 1, 1) := by decide +kernel
theorem d9_measure_125 : decode b9_measure 125 = .ok (.bipush 72, 2) := by decide +kernel
theorem d9_measure_127 : decode b9_measure 127 = .ok (.if_icmp .ne 10, 3) := by decide +kernel
theorem d9_measure_130 : decode b9_measure 130 = .ok (.dload_n 2, 1) := by decide +kernel
theorem d9_measure_131 : decode b9_measure 131 = .ok (.dload 4, 2) := by decide +kernel
theorem d9_measure_133 : decode b9_measure 133 = .ok (.dmul, 1) := by decide +kernel
theorem d9_measure_134 : decode b9_measure 134 = .ok (.goto 7, 3) := by decide +kernel
theorem d9_measure_137 : decode b9_measure 137 = .ok (.dload_n 2, 1) := by decide +kernel
theorem d9_measure_138 : decode b9_measure 138 = .ok (.dload 4, 2) := by decide +kernel
theorem d9_measure_140 : decode b9_measure 140 = .ok (.ddiv, 1) := by decide +kernel
theorem d9_measure_141 : decode b9_measure 141 = .ok (.dstore 6, 2) := by decide +kernel
theorem d9_measure_143 : decode b9_measure 143 = .ok (.dload 6, 2) := by decide +kernel
theorem d9_measure_145 : decode b9_measure 145 = .ok (.ldc2_w 247, 3) := by decide +kernel
theorem d9_measure_148 : decode b9_measure 148 = .ok (.dcmp .l, 1) := by decide +kernel
theorem d9_measure_149 : decode b9_measure 149 = .ok (.ifCond .gt 12, 3) := by decide +kernel
theorem d9_measure_152 : decode b9_measure 152 = .ok (.dload 6, 2) := by decide +kernel
theorem d9_measure_154 : decode b9_measure 154 = .ok (.ldc2_w 249, 3) := by decide +kernel
theorem d9_measure_157 : decode b9_measure 157 = .ok (.dcmp .g, 1) := by decide +kernel
theorem d9_measure_158 : decode b9_measure 158 = .ok (.ifCond .ge 11, 3) := by decide +kernel
theorem d9_measure_161 : decode b9_measure 161 = .ok (.aload_n 0, 1) := by decide +kernel
theorem d9_measure_162 : decode b9_measure 162 = .ok (.iconst 5, 1) := by decide +kernel
theorem d9_measure_163 : decode b9_measure 163 = .ok (.putfield 233, 3) := by decide +kernel
theorem d9_measure_166 : decode b9_measure 166 = .ok (.goto 10, 3) := by decide +kernel
theorem d9_measure_169 : decode b9_measure 169 = .ok (.aload_n 0, 1) := by decide +kernel
theorem d9_measure_170 : decode b9_measure 170 = .ok (.lconst 0, 1) := by decide +kernel
theorem d9_measure_171 : decode b9_measure 171 = .ok (.dload 6, 2) := by decide +kernel
theorem d9_measure_173 : decode b9_measure 173 = .ok (.invokevirtual 215, 3) := by decide +kernel
theorem d9_measure_176 : decode b9_measure 176 = .ok (.return_, 1) := by decide +kernel
theorem d9_turn_0 : decode b9_turn 0 = .ok (.aload_n 0, 1) := by decide +kernel
theorem d9_turn_1 : decode b9_turn 1 = .ok (.dup, 1) := by decide +kernel
theorem d9_turn_2 : decode b9_turn 2 = .ok (.getfield 122, 3) := by decide +kernel
theorem d9_turn_5 : decode b9_turn 5 = .ok (.iconst 1, 1) := by decide +kernel
theorem d9_turn_6 : decode b9_turn 6 = .ok (.isub, 1) := by decide +kernel
theorem d9_turn_7 : decode b9_turn 7 = .ok (.putfield 122, 3) := by decide +kernel
theorem d9_turn_10 : decode b9_turn 10 = .ok (.aload_n 0, 1) := by decide +kernel
theorem d9_turn_11 : decode b9_turn 11 = .ok (.getfield 60, 3) := by decide +kernel
theorem d9_turn_14 : decode b9_turn 14 = .ok (.aload_n 0, 1) := by decide +kernel
theorem d9_turn_15 : decode b9_turn 15 = .ok (.getfield 122, 3) := by decide +kernel
theorem d9_turn_18 : decode b9_turn 18 = .ok (.laload, 1) := by decide +kernel
theorem d9_turn_19 : decode b9_turn 19 = .ok (.lstore_n 2, 1) := by decide +kernel
theorem d9_turn_20 : decode b9_turn 20 = .ok (.aload_n 0, 1) := by decide +kernel
theorem d9_turn_21 : decode b9_turn 21 = .ok (.getfield 63, 3) := by decide +kernel
theorem d9_turn_24 : decode b9_turn 24 = .ok (.aload_n 0, 1) := by decide +kernel
theorem d9_turn_25 : decode b9_turn 25 = .ok (.getfield 122, 3) := by decide +kernel
theorem d9_turn_28 : decode b9_turn 28 = .ok (.daload, 1) := by decide +kernel
theorem d9_turn_29 : decode b9_turn 29 = .ok (.dstore 4, 2) := by decide +kernel
theorem d9_turn_31 : decode b9_turn 31 = .ok (.iload_n 1, 1) := by decide +kernel
theorem d9_turn_32 : decode b9_turn 32 = .ok (.bipush 45, 2) := by decide +kernel
theorem d9_turn_34 : decode b9_turn 34 = .ok (.if_icmp .eq 9, 3) := by decide +kernel
theorem d9_turn_37 : decode b9_turn 37 = .ok (.iload_n 1, 1) := by decide +kernel
theorem d9_turn_38 : decode b9_turn 38 = .ok (.bipush 64, 2) := by decide +kernel
theorem d9_turn_40 : decode b9_turn 40 = .ok (.if_icmp .ne 22, 3) := by decide +kernel
theorem d9_turn_43 : decode b9_turn 43 = .ok (.aload_n 0, 1) := by decide +kernel
theorem d9_turn_44 : decode b9_turn 44 = .ok (.lload_n 2, 1) := by decide +kernel
theorem d9_turn_45 : decode b9_turn 45 = .ok (.lconst 0, 1) := by decide +kernel
theorem d9_turn_46 : decode b9_turn 46 = .ok (.lcmp, 1) := by decide +kernel
theorem d9_turn_47 : decode b9_turn 47 = .ok (.ifCond .ne 7, 3) := by decide +kernel
theorem d9_turn_50 : decode b9_turn 50 = .ok (.lconst 1, 1) := by decide +kernel
theorem d9_turn_51 : decode b9_turn 51 = .ok (.goto 4, 3) := by decide +kernel
theorem d9_turn_54 : decode b9_turn 54 = .ok (.lconst 0, 1) := by decide +kernel
theorem d9_turn_55 : decode b9_turn 55 = .ok (.dconst 0, 1) := by decide +kernel
theorem d9_turn_56 : decode b9_turn 56 = .ok (.invokevirtual 215, 3) := by decide +kernel
theorem d9_turn_59 : decode b9_turn 59 = .ok (.goto 129, 3) := by decide +kernel
theorem d9_turn_62 : decode b9_turn 62 = .ok (.iload_n 1, 1) := by decide +kernel
theorem d9_turn_63 : decode b9_turn 63 = .ok (.bipush 76, 2) := by decide +kernel
theorem d9_turn_65 : decode b9_turn 65 = .ok (.if_icmp .ne 15, 3) := by decide +kernel
theorem d9_turn_68 : decode b9_turn 68 = .ok (.aload_n 0, 1) := by decide +kernel
theorem d9_turn_69 : decode b9_turn 69 = .ok (.lconst 0, 1) := by decide +kernel
theorem d9_turn_70 : decode b9_turn 70 = .ok (.dconst 0, 1) := by decide +kernel
theorem d9_turn_71 : decode b9_turn 71 = .ok (.dload 4, 2) := by decide +kernel
theorem d9_turn_73 : decode b9_turn 73 = .ok (.dsub, 1) := by decide +kernel
theorem d9_turn_74 : decode b9_turn 74 = .ok (.invokevirtual 215, 3) := by decide +kernel
theorem d9_turn_77 : decode b9_turn 77 = .ok (.goto 111, 3) := by decide +kernel
theorem d9_turn_80 : decode b9_turn 80 = .ok (.iload_n 1, 1) := by decide +kernel
theorem d9_turn_81 : decode b9_turn 81 = .ok (.bipush 80, 2) := by decide +kernel
theorem d9_turn_83 : decode b9_turn 83 = .ok (.if_icmp .ne 14, 3) := by decide +kernel
theorem d9_turn_86 : decode b9_turn 86 = .ok (.aload_n 0, 1) := by decide +kernel
theorem d9_turn_87 : decode b9_turn 87 = .ok (.lload_n 2, 1) := by decide +kernel
theorem d9_turn_88 : decode b9_turn 88 = .ok (.l2i, 1) := by decide +kernel
theorem d9_turn_89 : decode b9_turn 89 = .ok (.i2l, 1) := by decide +kernel
theorem d9_turn_90 : decode b9_turn 90 = .ok (.dconst 0, 1) := by decide +kernel
theorem d9_turn_91 : decode b9_turn 91 = .ok (.invokevirtual 215, 3) := by decide +kernel
theorem d9_turn_94 : decode b9_turn 94 = .ok (.goto 94, 3) := by decide +kernel
theorem d9_turn_97 : decode b9_turn 97 = .ok (.iload_n 1, 1) := by decide +kernel
theorem d9_turn_98 : decode b9_turn 98 = .ok (.bipush 81, 2) := by decide +kernel
theorem d9_turn_100 : decode b9_turn 100 = .ok (.if_icmp .ne 12, 3) := by decide +kernel
theorem d9_turn_103 : decode b9_turn 103 = .ok (.aload_n 0, 1) := by decide +kernel
theorem d9_turn_104 : decode b9_turn 104 = .ok (.lload_n 2, 1) := by decide +kernel
theorem d9_turn_105 : decode b9_turn 105 = .ok (.dconst 0, 1) := by decide +kernel
theorem d9_turn_106 : decode b9_turn 106 = .ok (.invokevirtual 215, 3) := by decide +kernel
theorem d9_turn_109 : decode b9_turn 109 = .ok (.goto 79, 3) := by decide +kernel
theorem d9_turn_112 : decode b9_turn 112 = .ok (.iload_n 1, 1) := by decide +kernel
theorem d9_turn_113 : decode b9_turn 113 = .ok (.bipush 82, 2) := by decide +kernel
theorem d9_turn_115 : decode b9_turn 115 = .ok (.if_icmp .eq 9, 3) := by decide +kernel
theorem d9_turn_118 : decode b9_turn 118 = .ok (.iload_n 1, 1) := by decide +kernel
theorem d9_turn_119 : decode b9_turn 119 = .ok (.bipush 84, 2) := by decide +kernel
theorem d9_turn_121 : decode b9_turn 121 = .ok (.if_icmp .ne 13, 3) := by decide +kernel
theorem d9_turn_124 : decode b9_turn 124 = .ok (.aload_n 0, 1) := by decide +kernel
theorem d9_turn_125 : decode b9_turn 125 = .ok (.lconst 0, 1) := by decide +kernel
theorem d9_turn_126 : decode b9_turn 126 = .ok (.lload_n 2, 1) := by decide +kernel
theorem d9_turn_127 : decode b9_turn 127 = .ok (.l2d, 1) := by decide +kernel
theorem d9_turn_128 : decode b9_turn 128 = .ok (.invokevirtual 215, 3) := by decide +kernel
theorem d9_turn_131 : decode b9_turn 131 = .ok (.goto 57, 3) := by decide +kernel
theorem d9_turn_134 : decode b9_turn 134 = .ok (.iload_n 1, 1) := by decide +kernel
theorem d9_turn_135 : decode b9_turn 135 = .ok (.bipush 85, 2) := by decide +kernel
theorem d9_turn_137 : decode b9_turn 137 = .ok (.if_icmp .ne 16, 3) := by decide +kernel
theorem d9_turn_140 : decode b9_turn 140 = .ok (.aload_n 0, 1) := by decide +kernel
theorem d9_turn_141 : decode b9_turn 141 = .ok (.lload_n 2, 1) := by decide +kernel
theorem d9_turn_142 : decode b9_turn 142 = .ok (.ldc2_w 245, 3) := by decide +kernel
theorem d9_turn_145 : decode b9_turn 145 = .ok (.land, 1) := by decide +kernel
theorem d9_turn_146 : decode b9_turn 146 = .ok (.dconst 0, 1) := by decide +kernel
theorem d9_turn_147 : decode b9_turn 147 = .ok (.invokevirtual 215, 3) := by decide +kernel
theorem d9_turn_150 : decode b9_turn 150 = .ok (.goto 38, 3) := by decide +kernel
theorem d9_turn_153 : decode b9_turn 153 = .ok (.dload 4, 2) := by decide +kernel
theorem d9_turn_155 : decode b9_turn 155 = .ok (.ldc2_w 251, 3) := by decide +kernel
theorem d9_turn_158 : decode b9_turn 158 = .ok (.dcmp .l, 1) := by decide +kernel
theorem d9_turn_159 : decode b9_turn 159 = .ok (.ifCond .le 24, 3) := by decide +kernel
theorem d9_turn_162 : decode b9_turn 162 = .ok (.dload 4, 2) := by decide +kernel
theorem d9_turn_164 : decode b9_turn 164 = .ok (.ldc2_w 253, 3) := by decide +kernel
theorem d9_turn_167 : decode b9_turn 167 = .ok (.dcmp .g, 1) := by decide +kernel
theorem d9_turn_168 : decode b9_turn 168 = .ok (.ifCond .ge 15, 3) := by decide +kernel
theorem d9_turn_171 : decode b9_turn 171 = .ok (.aload_n 0, 1) := by decide +kernel
theorem d9_turn_172 : decode b9_turn 172 = .ok (.dload 4, 2) := by decide +kernel
theorem d9_turn_174 : decode b9_turn 174 = .ok (.d2i, 1) := by decide +kernel
theorem d9_turn_175 : decode b9_turn 175 = .ok (.i2l, 1) := by decide +kernel
theorem d9_turn_176 : decode b9_turn 176 = .ok (.dconst 0, 1) := by decide +kernel
theorem d9_turn_177 : decode b9_turn 177 = .ok (.invokevirtual 215, 3) := by decide +kernel
theorem d9_turn_180 : decode b9_turn 180 = .ok (.goto 8, 3) := by decide +kernel
theorem d9_turn_183 : decode b9_turn 183 = .ok (.aload_n 0, 1) := by decide +kernel
theorem d9_turn_184 : decode b9_turn 184 = .ok (.iconst 5, 1) := by decide +kernel
theorem d9_turn_185 : decode b9_turn 185 = .ok (.putfield 233, 3) := by decide +kernel
theorem d9_turn_188 : decode b9_turn 188 = .ok (.return_, 1) := by decide +kernel
theorem d9_plain_0 : decode b9_plain 0 = .ok (.iload_n 1, 1) := by decide +kernel
theorem d9_plain_1 : decode b9_plain 1 = .ok (.bipush 20, 2) := by decide +kernel
theorem d9_plain_3 : decode b9_plain 3 = .ok (.if_icmp .lt 26, 3) := by decide +kernel
theorem d9_plain_6 : decode b9_plain 6 = .ok (.iload_n 1, 1) := by decide +kernel
theorem d9_plain_7 : decode b9_plain 7 = .ok (.bipush 22, 2) := by decide +kernel
theorem d9_plain_9 : decode b9_plain 9 = .ok (.if_icmp .gt 20, 3) := by decide +kernel
theorem d9_plain_12 : decode b9_plain 12 = .ok (.aload_n 0, 1) := by decide +kernel
theorem d9_plain_13 : decode b9_plain 13 = .ok (.iload_n 2, 1) := by decide +kernel
theorem d9_plain_14 : decode b9_plain 14 = .ok (.i2b, 1) := by decide +kernel
theorem d9_plain_15 : decode b9_plain 15 = .ok (.i2l, 1) := by decide +kernel
theorem d9_plain_16 : decode b9_plain 16 = .ok (.iload_n 2, 1) := by decide +kernel
theorem d9_plain_17 : decode b9_plain 17 = .ok (.i2b, 1) := by decide +kernel
theorem d9_plain_18 : decode b9_plain 18 = .ok (.i2d, 1) := by decide +kernel
theorem d9_plain_19 : decode b9_plain 19 = .ok (.ldc2_w 199, 3) := by decide +kernel
theorem d9_plain_22 : decode b9_plain 22 = .ok (.dmul, 1) := by decide +kernel
theorem d9_plain_23 : decode b9_plain 23 = .ok (.invokevirtual 215, 3) := by decide +kernel
theorem d9_plain_26 : decode b9_plain 26 = .ok (.goto 87, 3) := by decide +kernel
theorem d9_plain_29 : decode b9_plain 29 = .ok (.iload_n 1, 1) := by decide +kernel
theorem d9_plain_30 : decode b9_plain 30 = .ok (.bipush 28, 2) := by decide +kernel
theorem d9_plain_32 : decode b9_plain 32 = .ok (.if_icmp .gt 12, 3) := by decide +kernel
theorem d9_plain_35 : decode b9_plain 35 = .ok (.aload_n 0, 1) := by decide +kernel
theorem d9_plain_36 : decode b9_plain 36 = .ok (.iload_n 1, 1) := by decide +kernel
theorem d9_plain_37 : decode b9_plain 37 = .ok (.iload_n 2, 1) := by decide +kernel
theorem d9_plain_38 : decode b9_plain 38 = .ok (.invokevirtual 255, 3) := by decide +kernel
theorem d9_plain_41 : decode b9_plain 41 = .ok (.goto 72, 3) := by decide +kernel
theorem d9_plain_44 : decode b9_plain 44 = .ok (.iload_n 1, 1) := by decide +kernel
theorem d9_plain_45 : decode b9_plain 45 = .ok (.bipush 45, 2) := by decide +kernel
theorem d9_plain_47 : decode b9_plain 47 = .ok (.if_icmp .eq 15, 3) := by decide +kernel
theorem d9_plain_50 : decode b9_plain 50 = .ok (.iload_n 1, 1) := by decide +kernel
theorem d9_plain_51 : decode b9_plain 51 = .ok (.bipush 64, 2) := by decide +kernel
theorem d9_plain_53 : decode b9_plain 53 = .ok (.if_icmp .eq 9, 3) := by decide +kernel
theorem d9_plain_56 : decode b9_plain 56 = .ok (.iload_n 1, 1) := by decide +kernel
theorem d9_plain_57 : decode b9_plain 57 = .ok (.bipush 76, 2) := by decide +kernel
theorem d9_plain_59 : decode b9_plain 59 = .ok (.if_icmp .lt 11, 3) := by decide +kernel
theorem d9_plain_62 : decode b9_plain 62 = .ok (.aload_n 0, 1) := by decide +kernel
theorem d9_plain_63 : decode b9_plain 63 = .ok (.iload_n 1, 1) := by decide +kernel
theorem d9_plain_64 : decode b9_plain 64 = .ok (.invokevirtual 258, 3) := by decide +kernel
theorem d9_plain_67 : decode b9_plain 67 = .ok (.goto 46, 3) := by decide +kernel
theorem d9_plain_70 : decode b9_plain 70 = .ok (.iload_n 1, 1) := by decide +kernel
theorem d9_plain_71 : decode b9_plain 71 = .ok (.bipush 50, 2) := by decide +kernel
theorem d9_plain_73 : decode b9_plain 73 = .ok (.if_icmp .ge 16, 3) := by decide +kernel
theorem d9_plain_76 : decode b9_plain 76 = .ok (.aload_n 0, 1) := by decide +kernel
theorem d9_plain_77 : decode b9_plain 77 = .ok (.iload_n 1, 1) := by decide +kernel
theorem d9_plain_78 : decode b9_plain 78 = .ok (.bipush 30, 2) := by decide +kernel
theorem d9_plain_80 : decode b9_plain 80 = .ok (.isub, 1) := by decide +kernel
theorem d9_plain_81 : decode b9_plain 81 = .ok (.bipush 32, 2) := by decide +kernel
theorem d9_plain_83 : decode b9_plain 83 = .ok (.invokevirtual 261, 3) := by decide +kernel
theorem d9_plain_86 : decode b9_plain 86 = .ok (.goto 27, 3) := by decide +kernel
theorem d9_plain_89 : decode b9_plain 89 = .ok (.iload_n 1, 1) := by decide +kernel
theorem d9_plain_90 : decode b9_plain 90 = .ok (.bipush 65, 2) := by decide +kernel
theorem d9_plain_92 : decode b9_plain 92 = .ok (.if_icmp .ge 16, 3) := by decide +kernel
theorem d9_plain_95 : decode b9_plain 95 = .ok (.aload_n 0, 1) := by decide +kernel
theorem d9_plain_96 : decode b9_plain 96 = .ok (.iload_n 1, 1) := by decide +kernel
theorem d9_plain_97 : decode b9_plain 97 = .ok (.bipush 50, 2) := by decide +kernel
theorem d9_plain_99 : decode b9_plain 99 = .ok (.isub, 1) := by decide +kernel
theorem d9_plain_100 : decode b9_plain 100 = .ok (.bipush 64, 2) := by decide +kernel
theorem d9_plain_102 : decode b9_plain 102 = .ok (.invokevirtual 261, 3) := by decide +kernel
theorem d9_plain_105 : decode b9_plain 105 = .ok (.goto 8, 3) := by decide +kernel
theorem d9_plain_108 : decode b9_plain 108 = .ok (.aload_n 0, 1) := by decide +kernel
theorem d9_plain_109 : decode b9_plain 109 = .ok (.iload_n 1, 1) := by decide +kernel
theorem d9_plain_110 : decode b9_plain 110 = .ok (.invokevirtual 264, 3) := by decide +kernel
theorem d9_plain_113 : decode b9_plain 113 = .ok (.return_, 1) := by decide +kernel
theorem d9_select_0 : decode b9_select 0 = .ok (.aload_n 0, 1) := by decide +kernel
theorem d9_select_1 : decode b9_select 1 = .ok (.invokevirtual 226, 3) := by decide +kernel
theorem d9_select_4 : decode b9_select 4 = .ok (.istore_n 1, 1) := by decide +kernel
theorem d9_select_5 : decode b9_select 5 = .ok (.aload_n 0, 1) := by decide +kernel
theorem d9_select_6 : decode b9_select 6 = .ok (.dup, 1) := by decide +kernel
theorem d9_select_7 : decode b9_select 7 = .ok (.getfield 122, 3) := by decide +kernel
theorem d9_select_10 : decode b9_select 10 = .ok (.iconst 1, 1) := by decide +kernel
theorem d9_select_11 : decode b9_select 11 = .ok (.isub, 1) := by decide +kernel
theorem d9_select_12 : decode b9_select 12 = .ok (.putfield 122, 3) := by decide +kernel
theorem d9_select_15 : decode b9_select 15 = .ok (.iload_n 1, 1) := by decide +kernel
theorem d9_select_16 : decode b9_select 16 = .ok (.ifCond .eq 4, 3) := by decide +kernel
theorem d9_select_19 : decode b9_select 19 = .ok (.return_, 1) := by decide +kernel
theorem d9_select_20 : decode b9_select 20 = .ok (.aload_n 0, 1) := by decide +kernel
theorem d9_select_21 : decode b9_select 21 = .ok (.getfield 60, 3) := by decide +kernel
theorem d9_select_24 : decode b9_select 24 = .ok (.aload_n 0, 1) := by decide +kernel
theorem d9_select_25 : decode b9_select 25 = .ok (.getfield 122, 3) := by decide +kernel
theorem d9_select_28 : decode b9_select 28 = .ok (.iconst 1, 1) := by decide +kernel
theorem d9_select_29 : decode b9_select 29 = .ok (.isub, 1) := by decide +kernel
theorem d9_select_30 : decode b9_select 30 = .ok (.aload_n 0, 1) := by decide +kernel
theorem d9_select_31 : decode b9_select 31 = .ok (.getfield 60, 3) := by decide +kernel
theorem d9_select_34 : decode b9_select 34 = .ok (.aload_n 0, 1) := by decide +kernel
theorem d9_select_35 : decode b9_select 35 = .ok (.getfield 122, 3) := by decide +kernel
theorem d9_select_38 : decode b9_select 38 = .ok (.laload, 1) := by decide +kernel
theorem d9_select_39 : decode b9_select 39 = .ok (.lastore, 1) := by decide +kernel
theorem d9_select_40 : decode b9_select 40 = .ok (.aload_n 0, 1) := by decide +kernel
theorem d9_select_41 : decode b9_select 41 = .ok (.getfield 63, 3) := by decide +kernel
theorem d9_select_44 : decode b9_select 44 = .ok (.aload_n 0, 1) := by decide +kernel
theorem d9_select_45 : decode b9_select 45 = .ok (.getfield 122, 3) := by decide +kernel
theorem d9_select_48 : decode b9_select 48 = .ok (.iconst 1, 1) := by decide +kernel
theorem d9_select_49 : decode b9_select 49 = .ok (.isub, 1) := by decide +kernel
theorem d9_select_50 : decode b9_select 50 = .ok (.aload_n 0, 1) := by decide +kernel
theorem d9_select_51 : decode b9_select 51 = .ok (.getfield 63, 3) := by decide +kernel
theorem d9_select_54 : decode b9_select 54 = .ok (.aload_n 0, 1) := by decide +kernel
theorem d9_select_55 : decode b9_select 55 = .ok (.getfield 122, 3) := by decide +kernel
theorem d9_select_58 : decode b9_select 58 = .ok (.daload, 1) := by decide +kernel
theorem d9_select_59 : decode b9_select 59 = .ok (.dastore, 1) := by decide +kernel
theorem d9_select_60 : decode b9_select 60 = .ok (.return_, 1) := by decide +kernel
theorem d9_moves_0 : decode b9_moves 0 = .ok (.iload_n 2, 1) := by decide +kernel
theorem d9_moves_1 : decode b9_moves 1 = .ok (.bipush 6, 2) := by decide +kernel
theorem d9_moves_3 : decode b9_moves 3 = .ok (.if_icmp .ne 53, 3) := by decide +kernel
theorem d9_moves_6 : decode b9_moves 6 = .ok (.aload_n 0, 1) := by decide +kernel
theorem d9_moves_7 : decode b9_moves 7 = .ok (.getfield 128, 3) := by decide +kernel
theorem d9_moves_10 : decode b9_moves 10 = .ok (.iconst 1, 1) := by decide +kernel
theorem d9_moves_11 : decode b9_moves 11 = .ok (.isub, 1) := by decide +kernel
theorem d9_moves_12 : decode b9_moves 12 = .ok (.aload_n 0, 1) := by decide +kernel
theorem d9_moves_13 : decode b9_moves 13 = .ok (.getfield 82, 3) := by decide +kernel
theorem d9_moves_16 : decode b9_moves 16 = .ok (.aload_n 0, 1) := by decide +kernel
theorem d9_moves_17 : decode b9_moves 17 = .ok (.getfield 190, 3) := by decide +kernel
theorem d9_moves_20 : decode b9_moves 20 = .ok (.iconst 1, 1) := by decide +kernel
theorem d9_moves_21 : decode b9_moves 21 = .ok (.isub, 1) := by decide +kernel
theorem d9_moves_22 : decode b9_moves 22 = .ok (.iaload, 1) := by decide +kernel
theorem d9_moves_23 : decode b9_moves 23 = .ok (.if_icmp .ne 10, 3) := by decide +kernel
theorem d9_moves_26 : decode b9_moves 26 = .ok (.aload_n 0, 1) := by decide +kernel
theorem d9_moves_27 : decode b9_moves 27 = .ok (.invokevirtual 219, 3) := by decide +kernel
theorem d9_moves_30 : decode b9_moves 30 = .ok (.goto 193, 3) := by decide +kernel
theorem d9_moves_33 : decode b9_moves 33 = .ok (.aload_n 0, 1) := by decide +kernel
theorem d9_moves_34 : decode b9_moves 34 = .ok (.dup, 1) := by decide +kernel
theorem d9_moves_35 : decode b9_moves 35 = .ok (.getfield 128, 3) := by decide +kernel
theorem d9_moves_38 : decode b9_moves 38 = .ok (.iconst 1, 1) := by decide +kernel
theorem d9_moves_39 : decode b9_moves 39 = .ok (.isub, 1) := by decide +kernel
theorem d9_moves_40 : decode b9_moves 40 = .ok (.putfield 128, 3) := by decide +kernel
theorem d9_moves_43 : decode b9_moves 43 = .ok (.aload_n 0, 1) := by decide +kernel
theorem d9_moves_44 : decode b9_moves 44 = .ok (.dup, 1) := by decide +kernel
theorem d9_moves_45 : decode b9_moves 45 = .ok (.getfield 193, 3) := by decide +kernel
theorem d9_moves_48 : decode b9_moves 48 = .ok (.iconst 1, 1) := by decide +kernel
theorem d9_moves_49 : decode b9_moves 49 = .ok (.iadd, 1) := by decide +kernel
theorem d9_moves_50 : decode b9_moves 50 = .ok (.putfield 193, 3) := by decide +kernel
theorem d9_moves_53 : decode b9_moves 53 = .ok (.goto 170, 3) := by decide +kernel
theorem d9_moves_56 : decode b9_moves 56 = .ok (.iload_n 2, 1) := by decide +kernel
theorem d9_moves_57 : decode b9_moves 57 = .ok (.iconst 5, 1) := by decide +kernel
theorem d9_moves_58 : decode b9_moves 58 = .ok (.if_icmp .ne 34, 3) := by decide +kernel
theorem d9_moves_61 : decode b9_moves 61 = .ok (.aload_n 0, 1) := by decide +kernel
theorem d9_moves_62 : decode b9_moves 62 = .ok (.dup, 1) := by decide +kernel
theorem d9_moves_63 : decode b9_moves 63 = .ok (.getfield 128, 3) := by decide +kernel
theorem d9_moves_66 : decode b9_moves 66 = .ok (.iconst 1, 1) := by decide +kernel
theorem d9_moves_67 : decode b9_moves 67 = .ok (.isub, 1) := by decide +kernel
theorem d9_moves_68 : decode b9_moves 68 = .ok (.putfield 128, 3) := by decide +kernel
theorem d9_moves_71 : decode b9_moves 71 = .ok (.aload_n 0, 1) := by decide +kernel
theorem d9_moves_72 : decode b9_moves 72 = .ok (.aload_n 0, 1) := by decide +kernel
theorem d9_moves_73 : decode b9_moves 73 = .ok (.iload_n 1, 1) := by decide +kernel
theorem d9_moves_74 : decode b9_moves 74 = .ok (.aload_n 0, 1) := by decide +kernel
theorem d9_moves_75 : decode b9_moves 75 = .ok (.getfield 193, 3) := by decide +kernel
theorem d9_moves_78 : decode b9_moves 78 = .ok (.iconst 1, 1) := by decide +kernel
theorem d9_moves_79 : decode b9_moves 79 = .ok (.iadd, 1) := by decide +kernel
theorem d9_moves_80 : decode b9_moves 80 = .ok (.iconst 0, 1) := by decide +kernel
theorem d9_moves_81 : decode b9_moves 81 = .ok (.invokevirtual 222, 3) := by decide +kernel
theorem d9_moves_84 : decode b9_moves 84 = .ok (.iconst 1, 1) := by decide +kernel
theorem d9_moves_85 : decode b9_moves 85 = .ok (.iadd, 1) := by decide +kernel
theorem d9_moves_86 : decode b9_moves 86 = .ok (.putfield 193, 3) := by decide +kernel
theorem d9_moves_89 : decode b9_moves 89 = .ok (.goto 134, 3) := by decide +kernel
theorem d9_moves_92 : decode b9_moves 92 = .ok (.iload_n 2, 1) := by decide +kernel
theorem d9_moves_93 : decode b9_moves 93 = .ok (.iconst 5, 1) := by decide +kernel
theorem d9_moves_94 : decode b9_moves 94 = .ok (.if_icmp .ge 13, 3) := by decide +kernel
theorem d9_moves_97 : decode b9_moves 97 = .ok (.aload_n 0, 1) := by decide +kernel
theorem d9_moves_98 : decode b9_moves 98 = .ok (.iload_n 1, 1) := by decide +kernel
theorem d9_moves_99 : decode b9_moves 99 = .ok (.iload_n 2, 1) := by decide +kernel
theorem d9_moves_100 : decode b9_moves 100 = .ok (.iload_n 3, 1) := by decide +kernel
theorem d9_moves_101 : decode b9_moves 101 = .ok (.invokevirtual 267, 3) := by decide +kernel
theorem d9_moves_104 : decode b9_moves 104 = .ok (.goto 119, 3) := by decide +kernel
theorem d9_moves_107 : decode b9_moves 107 = .ok (.iload_n 2, 1) := by decide +kernel
theorem d9_moves_108 : decode b9_moves 108 = .ok (.bipush 7, 2) := by decide +kernel
theorem d9_moves_110 : decode b9_moves 110 = .ok (.if_icmp .ne 11, 3) := by decide +kernel
theorem d9_moves_113 : decode b9_moves 113 = .ok (.aload_n 0, 1) := by decide +kernel
theorem d9_moves_114 : decode b9_moves 114 = .ok (.iload_n 3, 1) := by decide +kernel
theorem d9_moves_115 : decode b9_moves 115 = .ok (.invokevirtual 270, 3) := by decide +kernel
theorem d9_moves_118 : decode b9_moves 118 = .ok (.goto 105, 3) := by decide +kernel
theorem d9_moves_121 : decode b9_moves 121 = .ok (.iload_n 2, 1) := by decide +kernel
theorem d9_moves_122 : decode b9_moves 122 = .ok (.bipush 10, 2) := by decide +kernel
theorem d9_moves_124 : decode b9_moves 124 = .ok (.if_icmp .ne 10, 3) := by decide +kernel
theorem d9_moves_127 : decode b9_moves 127 = .ok (.aload_n 0, 1) := by decide +kernel
theorem d9_moves_128 : decode b9_moves 128 = .ok (.invokevirtual 219, 3) := by decide +kernel
theorem d9_moves_131 : decode b9_moves 131 = .ok (.goto 92, 3) := by decide +kernel
theorem d9_moves_134 : decode b9_moves 134 = .ok (.iload_n 2, 1) := by decide +kernel
theorem d9_moves_135 : decode b9_moves 135 = .ok (.bipush 8, 2) := by decide +kernel
theorem d9_moves_137 : decode b9_moves 137 = .ok (.if_icmp .ne 31, 3) := by decide +kernel
theorem d9_moves_140 : decode b9_moves 140 = .ok (.aload_n 0, 1) := by decide +kernel
theorem d9_moves_141 : decode b9_moves 141 = .ok (.invokevirtual 226, 3) := by decide +kernel
theorem d9_moves_144 : decode b9_moves 144 = .ok (.ifCond .eq 11, 3) := by decide +kernel
theorem d9_moves_147 : decode b9_moves 147 = .ok (.aload_n 0, 1) := by decide +kernel
theorem d9_moves_148 : decode b9_moves 148 = .ok (.iload_n 3, 1) := by decide +kernel
theorem d9_moves_149 : decode b9_moves 149 = .ok (.invokevirtual 270, 3) := by decide +kernel
theorem d9_moves_152 : decode b9_moves 152 = .ok (.goto 71, 3) := by decide +kernel
theorem d9_moves_155 : decode b9_moves 155 = .ok (.aload_n 0, 1) := by decide +kernel
theorem d9_moves_156 : decode b9_moves 156 = .ok (.dup, 1) := by decide +kernel
theorem d9_moves_157 : decode b9_moves 157 = .ok (.getfield 193, 3) := by decide +kernel
theorem d9_moves_160 : decode b9_moves 160 = .ok (.iconst 2, 1) := by decide +kernel
theorem d9_moves_161 : decode b9_moves 161 = .ok (.iadd, 1) := by decide +kernel
theorem d9_moves_162 : decode b9_moves 162 = .ok (.putfield 193, 3) := by decide +kernel
theorem d9_moves_165 : decode b9_moves 165 = .ok (.goto 58, 3) := by decide +kernel
theorem d9_moves_168 : decode b9_moves 168 = .ok (.iload_n 2, 1) := by decide +kernel
theorem d9_moves_169 : decode b9_moves 169 = .ok (.bipush 9, 2) := by decide +kernel
theorem d9_moves_171 : decode b9_moves 171 = .ok (.if_icmp .ne 46, 3) := by decide +kernel
theorem d9_moves_174 : decode b9_moves 174 = .ok (.aload_n 0, 1) := by decide +kernel
theorem d9_moves_175 : decode b9_moves 175 = .ok (.invokevirtual 226, 3) := by decide +kernel
theorem d9_moves_178 : decode b9_moves 178 = .ok (.istore 4, 2) := by decide +kernel
theorem d9_moves_180 : decode b9_moves 180 = .ok (.aload_n 0, 1) := by decide +kernel
theorem d9_moves_181 : decode b9_moves 181 = .ok (.aload_n 0, 1) := by decide +kernel
theorem d9_moves_182 : decode b9_moves 182 = .ok (.iload_n 1, 1) := by decide +kernel
theorem d9_moves_183 : decode b9_moves 183 = .ok (.aload_n 0, 1) := by decide +kernel
theorem d9_moves_184 : decode b9_moves 184 = .ok (.getfield 193, 3) := by decide +kernel
theorem d9_moves_187 : decode b9_moves 187 = .ok (.iconst 2, 1) := by decide +kernel
theorem d9_moves_188 : decode b9_moves 188 = .ok (.iadd, 1) := by decide +kernel
theorem d9_moves_189 : decode b9_moves 189 = .ok (.iload 4, 2) := by decide +kernel
theorem d9_moves_191 : decode b9_moves 191 = .ok (.iconst 0, 1) := by decide +kernel
theorem d9_moves_192 : decode b9_moves 192 = .ok (.iload_n 3, 1) := by decide +kernel
theorem d9_moves_193 : decode b9_moves 193 = .ok (.iconst 1, 1) := by decide +kernel
theorem d9_moves_194 : decode b9_moves 194 = .ok (.isub, 1) := by decide +kernel
theorem d9_moves_195 : decode b9_moves 195 = .ok (.invokestatic 92, 3) := by decide +kernel
theorem d9_moves_198 : decode b9_moves 198 = .ok (.ifCond .eq 8, 3) := by decide +kernel
theorem d9_moves_201 : decode b9_moves 201 = .ok (.iload 4, 2) := by decide +kernel
theorem d9_moves_203 : decode b9_moves 203 = .ok (.goto 4, 3) := by decide +kernel
theorem d9_moves_206 : decode b9_moves 206 = .ok (.iload_n 3, 1) := by decide +kernel
theorem d9_moves_207 : decode b9_moves 207 = .ok (.iadd, 1) := by decide +kernel
theorem d9_moves_208 : decode b9_moves 208 = .ok (.invokevirtual 115, 3) := by decide +kernel
theorem d9_moves_211 : decode b9_moves 211 = .ok (.invokevirtual 270, 3) := by decide +kernel
theorem d9_moves_214 : decode b9_moves 214 = .ok (.goto 9, 3) := by decide +kernel
theorem d9_moves_217 : decode b9_moves 217 = .ok (.aload_n 0, 1) := by decide +kernel
theorem d9_moves_218 : decode b9_moves 218 = .ok (.iload_n 2, 1) := by decide +kernel
theorem d9_moves_219 : decode b9_moves 219 = .ok (.iload_n 3, 1) := by decide +kernel
theorem d9_moves_220 : decode b9_moves 220 = .ok (.invokevirtual 273, 3) := by decide +kernel
theorem d9_moves_223 : decode b9_moves 223 = .ok (.return_, 1) := by decide +kernel
theorem d9_step_0 : decode b9_step 0 = .ok (.aload_n 0, 1) := by decide +kernel
theorem d9_step_1 : decode b9_step 1 = .ok (.getfield 76, 3) := by decide +kernel
theorem d9_step_4 : decode b9_step 4 = .ok (.aload_n 0, 1) := by decide +kernel
theorem d9_step_5 : decode b9_step 5 = .ok (.getfield 190, 3) := by decide +kernel
theorem d9_step_8 : decode b9_step 8 = .ok (.iconst 1, 1) := by decide +kernel
theorem d9_step_9 : decode b9_step 9 = .ok (.isub, 1) := by decide +kernel
theorem d9_step_10 : decode b9_step 10 = .ok (.iaload, 1) := by decide +kernel
theorem d9_step_11 : decode b9_step 11 = .ok (.istore_n 1, 1) := by decide +kernel
theorem d9_step_12 : decode b9_step 12 = .ok (.aload_n 0, 1) := by decide +kernel
theorem d9_step_13 : decode b9_step 13 = .ok (.iload_n 1, 1) := by decide +kernel
theorem d9_step_14 : decode b9_step 14 = .ok (.aload_n 0, 1) := by decide +kernel
theorem d9_step_15 : decode b9_step 15 = .ok (.getfield 193, 3) := by decide +kernel
theorem d9_step_18 : decode b9_step 18 = .ok (.invokevirtual 115, 3) := by decide +kernel
theorem d9_step_21 : decode b9_step 21 = .ok (.istore_n 2, 1) := by decide +kernel
theorem d9_step_22 : decode b9_step 22 = .ok (.aload_n 0, 1) := by decide +kernel
theorem d9_step_23 : decode b9_step 23 = .ok (.getfield 193, 3) := by decide +kernel
theorem d9_step_26 : decode b9_step 26 = .ok (.iconst 1, 1) := by decide +kernel
theorem d9_step_27 : decode b9_step 27 = .ok (.iadd, 1) := by decide +kernel
theorem d9_step_28 : decode b9_step 28 = .ok (.bipush 60, 2) := by decide +kernel
theorem d9_step_30 : decode b9_step 30 = .ok (.if_icmp .ge 17, 3) := by decide +kernel
theorem d9_step_33 : decode b9_step 33 = .ok (.aload_n 0, 1) := by decide +kernel
theorem d9_step_34 : decode b9_step 34 = .ok (.iload_n 1, 1) := by decide +kernel
theorem d9_step_35 : decode b9_step 35 = .ok (.aload_n 0, 1) := by decide +kernel
theorem d9_step_36 : decode b9_step 36 = .ok (.getfield 193, 3) := by decide +kernel
theorem d9_step_39 : decode b9_step 39 = .ok (.iconst 1, 1) := by decide +kernel
theorem d9_step_40 : decode b9_step 40 = .ok (.iadd, 1) := by decide +kernel
theorem d9_step_41 : decode b9_step 41 = .ok (.invokevirtual 115, 3) := by decide +kernel
theorem d9_step_44 : decode b9_step 44 = .ok (.goto 4, 3) := by decide +kernel
theorem d9_step_47 : decode b9_step 47 = .ok (.iconst 0, 1) := by decide +kernel
theorem d9_step_48 : decode b9_step 48 = .ok (.istore_n 3, 1) := by decide +kernel
theorem d9_step_49 : decode b9_step 49 = .ok (.aload_n 0, 1) := by decide +kernel
theorem d9_step_50 : decode b9_step 50 = .ok (.getfield 193, 3) := by decide +kernel
theorem d9_step_53 : decode b9_step 53 = .ok (.iconst 1, 1) := by decide +kernel
theorem d9_step_54 : decode b9_step 54 = .ok (.iadd, 1) := by decide +kernel
theorem d9_step_55 : decode b9_step 55 = .ok (.aload_n 0, 1) := by decide +kernel
theorem d9_step_56 : decode b9_step 56 = .ok (.iload_n 1, 1) := by decide +kernel
theorem d9_step_57 : decode b9_step 57 = .ok (.aload_n 0, 1) := by decide +kernel
theorem d9_step_58 : decode b9_step 58 = .ok (.getfield 193, 3) := by decide +kernel
theorem d9_step_61 : decode b9_step 61 = .ok (.invokevirtual 119, 3) := by decide +kernel
theorem d9_step_64 : decode b9_step 64 = .ok (.iadd, 1) := by decide +kernel
theorem d9_step_65 : decode b9_step 65 = .ok (.istore 4, 2) := by decide +kernel
theorem d9_step_67 : decode b9_step 67 = .ok (.aload_n 0, 1) := by decide +kernel
theorem d9_step_68 : decode b9_step 68 = .ok (.iconst 0, 1) := by decide +kernel
theorem d9_step_69 : decode b9_step 69 = .ok (.putfield 233, 3) := by decide +kernel
theorem d9_step_72 : decode b9_step 72 = .ok (.aload_n 0, 1) := by decide +kernel
theorem d9_step_73 : decode b9_step 73 = .ok (.dup, 1) := by decide +kernel
theorem d9_step_74 : decode b9_step 74 = .ok (.getfield 196, 3) := by decide +kernel
theorem d9_step_77 : decode b9_step 77 = .ok (.iconst 1, 1) := by decide +kernel
theorem d9_step_78 : decode b9_step 78 = .ok (.iadd, 1) := by decide +kernel
theorem d9_step_79 : decode b9_step 79 = .ok (.putfield 196, 3) := by decide +kernel
theorem d9_step_82 : decode b9_step 82 = .ok (.iload_n 2, 1) := by decide +kernel
theorem d9_step_83 : decode b9_step 83 = .ok (.iconst 2, 1) := by decide +kernel
theorem d9_step_84 : decode b9_step 84 = .ok (.if_icmp .lt 17, 3) := by decide +kernel
theorem d9_step_87 : decode b9_step 87 = .ok (.iload_n 2, 1) := by decide +kernel
theorem d9_step_88 : decode b9_step 88 = .ok (.bipush 12, 2) := by decide +kernel
theorem d9_step_90 : decode b9_step 90 = .ok (.if_icmp .gt 11, 3) := by decide +kernel
theorem d9_step_93 : decode b9_step 93 = .ok (.aload_n 0, 1) := by decide +kernel
theorem d9_step_94 : decode b9_step 94 = .ok (.iload_n 1, 1) := by decide +kernel
theorem d9_step_95 : decode b9_step 95 = .ok (.iload_n 2, 1) := by decide +kernel
theorem d9_step_96 : decode b9_step 96 = .ok (.iload_n 3, 1) := by decide +kernel
theorem d9_step_97 : decode b9_step 97 = .ok (.invokevirtual 276, 3) := by decide +kernel
theorem d9_step_100 : decode b9_step 100 = .ok (.return_, 1) := by decide +kernel
theorem d9_step_101 : decode b9_step 101 = .ok (.iload_n 2, 1) := by decide +kernel
theorem d9_step_102 : decode b9_step 102 = .ok (.ifCond .ne 11, 3) := by decide +kernel
theorem d9_step_105 : decode b9_step 105 = .ok (.aload_n 0, 1) := by decide +kernel
theorem d9_step_106 : decode b9_step 106 = .ok (.iconst 1, 1) := by decide +kernel
theorem d9_step_107 : decode b9_step 107 = .ok (.putfield 233, 3) := by decide +kernel
theorem d9_step_110 : decode b9_step 110 = .ok (.goto 68, 3) := by decide +kernel
theorem d9_step_113 : decode b9_step 113 = .ok (.iload_n 2, 1) := by decide +kernel
theorem d9_step_114 : decode b9_step 114 = .ok (.bipush 13, 2) := by decide +kernel
theorem d9_step_116 : decode b9_step 116 = .ok (.if_icmp .ne 16, 3) := by decide +kernel
theorem d9_step_119 : decode b9_step 119 = .ok (.aload_n 0, 1) := by decide +kernel
theorem d9_step_120 : decode b9_step 120 = .ok (.dup, 1) := by decide +kernel
theorem d9_step_121 : decode b9_step 121 = .ok (.getfield 122, 3) := by decide +kernel
theorem d9_step_124 : decode b9_step 124 = .ok (.iconst 1, 1) := by decide +kernel
theorem d9_step_125 : decode b9_step 125 = .ok (.isub, 1) := by decide +kernel
theorem d9_step_126 : decode b9_step 126 = .ok (.putfield 122, 3) := by decide +kernel
theorem d9_step_129 : decode b9_step 129 = .ok (.goto 49, 3) := by decide +kernel
theorem d9_step_132 : decode b9_step 132 = .ok (.iload_n 2, 1) := by decide +kernel
theorem d9_step_133 : decode b9_step 133 = .ok (.bipush 14, 2) := by decide +kernel
theorem d9_step_135 : decode b9_step 135 = .ok (.if_icmp .ne 10, 3) := by decide +kernel
theorem d9_step_138 : decode b9_step 138 = .ok (.aload_n 0, 1) := by decide +kernel
theorem d9_step_139 : decode b9_step 139 = .ok (.invokevirtual 279, 3) := by decide +kernel
theorem d9_step_142 : decode b9_step 142 = .ok (.goto 36, 3) := by decide +kernel
theorem d9_step_145 : decode b9_step 145 = .ok (.iload_n 2, 1) := by decide +kernel
theorem d9_step_146 : decode b9_step 146 = .ok (.bipush 15, 2) := by decide +kernel
theorem d9_step_148 : decode b9_step 148 = .ok (.if_icmp .lt 18, 3) := by decide +kernel
theorem d9_step_151 : decode b9_step 151 = .ok (.iload_n 2, 1) := by decide +kernel
theorem d9_step_152 : decode b9_step 152 = .ok (.bipush 19, 2) := by decide +kernel
theorem d9_step_154 : decode b9_step 154 = .ok (.if_icmp .gt 12, 3) := by decide +kernel
theorem d9_step_157 : decode b9_step 157 = .ok (.aload_n 0, 1) := by decide +kernel
theorem d9_step_158 : decode b9_step 158 = .ok (.iload_n 2, 1) := by decide +kernel
theorem d9_step_159 : decode b9_step 159 = .ok (.iload_n 3, 1) := by decide +kernel
theorem d9_step_160 : decode b9_step 160 = .ok (.invokevirtual 282, 3) := by decide +kernel
theorem d9_step_163 : decode b9_step 163 = .ok (.goto 15, 3) := by decide +kernel
theorem d9_step_166 : decode b9_step 166 = .ok (.iload_n 2, 1) := by decide +kernel
theorem d9_step_167 : decode b9_step 167 = .ok (.bipush 19, 2) := by decide +kernel
theorem d9_step_169 : decode b9_step 169 = .ok (.if_icmp .le 9, 3) := by decide +kernel
theorem d9_step_172 : decode b9_step 172 = .ok (.aload_n 0, 1) := by decide +kernel
theorem d9_step_173 : decode b9_step 173 = .ok (.iload_n 2, 1) := by decide +kernel
theorem d9_step_174 : decode b9_step 174 = .ok (.iload_n 3, 1) := by decide +kernel
theorem d9_step_175 : decode b9_step 175 = .ok (.invokevirtual 285, 3) := by decide +kernel
theorem d9_step_178 : decode b9_step 178 = .ok (.aload_n 0, 1) := by decide +kernel
theorem d9_step_179 : decode b9_step 179 = .ok (.iload 4, 2) := by decide +kernel
theorem d9_step_181 : decode b9_step 181 = .ok (.putfield 193, 3) := by decide +kernel
theorem d9_step_184 : decode b9_step 184 = .ok (.return_, 1) := by decide +kernel
theorem d9_run_0 : decode b9_run 0 = .ok (.aload_n 0, 1) := by decide +kernel
theorem d9_run_1 : decode b9_run 1 = .ok (.iload_n 1, 1) := by decide +kernel
theorem d9_run_2 : decode b9_run 2 = .ok (.iconst 1, 1) := by decide +kernel
theorem d9_run_3 : decode b9_run 3 = .ok (.bipush 20, 2) := by decide +kernel
theorem d9_run_5 : decode b9_run 5 = .ok (.invokestatic 92, 3) := by decide +kernel
theorem d9_run_8 : decode b9_run 8 = .ok (.iconst 1, 1) := by decide +kernel
theorem d9_run_9 : decode b9_run 9 = .ok (.invokevirtual 100, 3) := by decide +kernel
theorem d9_run_12 : decode b9_run 12 = .ok (.ifCond .ne 5, 3) := by decide +kernel
theorem d9_run_15 : decode b9_run 15 = .ok (.iconst 0, 1) := by decide +kernel
theorem d9_run_16 : decode b9_run 16 = .ok (.ireturn, 1) := by decide +kernel
theorem d9_run_17 : decode b9_run 17 = .ok (.aload_n 0, 1) := by decide +kernel
theorem d9_run_18 : decode b9_run 18 = .ok (.aload_n 0, 1) := by decide +kernel
theorem d9_run_19 : decode b9_run 19 = .ok (.getfield 104, 3) := by decide +kernel
theorem d9_run_22 : decode b9_run 22 = .ok (.iconst 1, 1) := by decide +kernel
theorem d9_run_23 : decode b9_run 23 = .ok (.if_icmp .ne 7, 3) := by decide +kernel
theorem d9_run_26 : decode b9_run 26 = .ok (.iconst 1, 1) := by decide +kernel
theorem d9_run_27 : decode b9_run 27 = .ok (.goto 4, 3) := by decide +kernel
theorem d9_run_30 : decode b9_run 30 = .ok (.iconst 0, 1) := by decide +kernel
theorem d9_run_31 : decode b9_run 31 = .ok (.iconst 2, 1) := by decide +kernel
theorem d9_run_32 : decode b9_run 32 = .ok (.invokevirtual 100, 3) := by decide +kernel
theorem d9_run_35 : decode b9_run 35 = .ok (.ifCond .ne 5, 3) := by decide +kernel
theorem d9_run_38 : decode b9_run 38 = .ok (.iconst 0, 1) := by decide +kernel
theorem d9_run_39 : decode b9_run 39 = .ok (.ireturn, 1) := by decide +kernel
theorem d9_run_40 : decode b9_run 40 = .ok (.iconst 0, 1) := by decide +kernel
theorem d9_run_41 : decode b9_run 41 = .ok (.istore_n 2, 1) := by decide +kernel
theorem d9_run_42 : decode b9_run 42 = .ok (.iload_n 2, 1) := by decide +kernel
theorem d9_run_43 : decode b9_run 43 = .ok (.iload_n 1, 1) := by decide +kernel
theorem d9_run_44 : decode b9_run 44 = .ok (.if_icmp .ge 63, 3) := by decide +kernel
theorem d9_run_47 : decode b9_run 47 = .ok (.aload_n 0, 1) := by decide +kernel
theorem d9_run_48 : decode b9_run 48 = .ok (.getfield 104, 3) := by decide +kernel
theorem d9_run_51 : decode b9_run 51 = .ok (.iconst 1, 1) := by decide +kernel
theorem d9_run_52 : decode b9_run 52 = .ok (.if_icmp .ne 55, 3) := by decide +kernel
theorem d9_run_55 : decode b9_run 55 = .ok (.aload_n 0, 1) := by decide +kernel
theorem d9_run_56 : decode b9_run 56 = .ok (.invokevirtual 288, 3) := by decide +kernel
theorem d9_run_59 : decode b9_run 59 = .ok (.iinc 2 1, 3) := by decide +kernel
theorem d9_run_62 : decode b9_run 62 = .ok (.aload_n 0, 1) := by decide +kernel
theorem d9_run_63 : decode b9_run 63 = .ok (.getfield 233, 3) := by decide +kernel
theorem d9_run_66 : decode b9_run 66 = .ok (.ifCond .le (-24), 3) := by decide +kernel
theorem d9_run_69 : decode b9_run 69 = .ok (.aload_n 0, 1) := by decide +kernel
theorem d9_run_70 : decode b9_run 70 = .ok (.iconst 3, 1) := by decide +kernel
theorem d9_run_71 : decode b9_run 71 = .ok (.putfield 104, 3) := by decide +kernel
theorem d9_run_74 : decode b9_run 74 = .ok (.aload_n 0, 1) := by decide +kernel
theorem d9_run_75 : decode b9_run 75 = .ok (.aload_n 0, 1) := by decide +kernel
theorem d9_run_76 : decode b9_run 76 = .ok (.getfield 233, 3) := by decide +kernel
theorem d9_run_79 : decode b9_run 79 = .ok (.putfield 291, 3) := by decide +kernel
theorem d9_run_82 : decode b9_run 82 = .ok (.aload_n 0, 1) := by decide +kernel
theorem d9_run_83 : decode b9_run 83 = .ok (.aload_n 0, 1) := by decide +kernel
theorem d9_run_84 : decode b9_run 84 = .ok (.getfield 233, 3) := by decide +kernel
theorem d9_run_87 : decode b9_run 87 = .ok (.iconst 1, 1) := by decide +kernel
theorem d9_run_88 : decode b9_run 88 = .ok (.if_icmp .ne 8, 3) := by decide +kernel
theorem d9_run_91 : decode b9_run 91 = .ok (.bipush 7, 2) := by decide +kernel
theorem d9_run_93 : decode b9_run 93 = .ok (.goto 9, 3) := by decide +kernel
theorem d9_run_96 : decode b9_run 96 = .ok (.aload_n 0, 1) := by decide +kernel
theorem d9_run_97 : decode b9_run 97 = .ok (.getfield 233, 3) := by decide +kernel
theorem d9_run_100 : decode b9_run 100 = .ok (.iconst 1, 1) := by decide +kernel
theorem d9_run_101 : decode b9_run 101 = .ok (.iadd, 1) := by decide +kernel
theorem d9_run_102 : decode b9_run 102 = .ok (.putfield 88, 3) := by decide +kernel
theorem d9_run_105 : decode b9_run 105 = .ok (.iconst 0, 1) := by decide +kernel
theorem d9_run_106 : decode b9_run 106 = .ok (.ireturn, 1) := by decide +kernel
theorem d9_run_107 : decode b9_run 107 = .ok (.iload_n 2, 1) := by decide +kernel
theorem d9_run_108 : decode b9_run 108 = .ok (.ireturn, 1) := by decide +kernel
theorem d9_stop_0 : decode b9_stop 0 = .ok (.aload_n 0, 1) := by decide +kernel
theorem d9_stop_1 : decode b9_stop 1 = .ok (.aload_n 0, 1) := by decide +kernel
theorem d9_stop_2 : decode b9_stop 2 = .ok (.getfield 104, 3) := by decide +kernel
theorem d9_stop_5 : decode b9_stop 5 = .ok (.iconst 1, 1) := by decide +kernel
theorem d9_stop_6 : decode b9_stop 6 = .ok (.if_icmp .ne 7, 3) := by decide +kernel
theorem d9_stop_9 : decode b9_stop 9 = .ok (.iconst 1, 1) := by decide +kernel
theorem d9_stop_10 : decode b9_stop 10 = .ok (.goto 4, 3) := by decide +kernel
theorem d9_stop_13 : decode b9_stop 13 = .ok (.iconst 0, 1) := by decide +kernel
theorem d9_stop_14 : decode b9_stop 14 = .ok (.iconst 1, 1) := by decide +kernel
theorem d9_stop_15 : decode b9_stop 15 = .ok (.invokevirtual 100, 3) := by decide +kernel
theorem d9_stop_18 : decode b9_stop 18 = .ok (.ifCond .ne 5, 3) := by decide +kernel
theorem d9_stop_21 : decode b9_stop 21 = .ok (.iconst 0, 1) := by decide +kernel
theorem d9_stop_22 : decode b9_stop 22 = .ok (.ireturn, 1) := by decide +kernel
theorem d9_stop_23 : decode b9_stop 23 = .ok (.aload_n 0, 1) := by decide +kernel
theorem d9_stop_24 : decode b9_stop 24 = .ok (.iconst 0, 1) := by decide +kernel
theorem d9_stop_25 : decode b9_stop 25 = .ok (.putfield 104, 3) := by decide +kernel
theorem d9_stop_28 : decode b9_stop 28 = .ok (.aload_n 0, 1) := by decide +kernel
theorem d9_stop_29 : decode b9_stop 29 = .ok (.getfield 196, 3) := by decide +kernel
theorem d9_stop_32 : decode b9_stop 32 = .ok (.ireturn, 1) := by decide +kernel
theorem d9_result_0 : decode b9_result 0 = .ok (.aload_n 0, 1) := by decide +kernel
theorem d9_result_1 : decode b9_result 1 = .ok (.aload_n 0, 1) := by decide +kernel
theorem d9_result_2 : decode b9_result 2 = .ok (.getfield 104, 3) := by decide +kernel
theorem d9_result_5 : decode b9_result 5 = .ok (.iconst 2, 1) := by decide +kernel
theorem d9_result_6 : decode b9_result 6 = .ok (.if_icmp .ne 7, 3) := by decide +kernel
theorem d9_result_9 : decode b9_result 9 = .ok (.iconst 1, 1) := by decide +kernel
theorem d9_result_10 : decode b9_result 10 = .ok (.goto 4, 3) := by decide +kernel
theorem d9_result_13 : decode b9_result 13 = .ok (.iconst 0, 1) := by decide +kernel
theorem d9_result_14 : decode b9_result 14 = .ok (.iconst 1, 1) := by decide +kernel
theorem d9_result_15 : decode b9_result 15 = .ok (.invokevirtual 100, 3) := by decide +kernel
theorem d9_result_18 : decode b9_result 18 = .ok (.ifCond .ne 5, 3) := by decide +kernel
theorem d9_result_21 : decode b9_result 21 = .ok (.lconst 0, 1) := by decide +kernel
theorem d9_result_22 : decode b9_result 22 = .ok (.lreturn, 1) := by decide +kernel
theorem d9_result_23 : decode b9_result 23 = .ok (.aload_n 0, 1) := by decide +kernel
theorem d9_result_24 : decode b9_result 24 = .ok (.aload_n 0, 1) := by decide +kernel
theorem d9_result_25 : decode b9_result 25 = .ok (.getfield 204, 3) := by decide +kernel
theorem d9_result_28 : decode b9_result 28 = .ok (.iconst 1, 1) := by decide +kernel
theorem d9_result_29 : decode b9_result 29 = .ok (.if_icmp .eq 11, 3) := by decide +kernel
theorem d9_result_32 : decode b9_result 32 = .ok (.aload_n 0, 1) := by decide +kernel
theorem d9_result_33 : decode b9_result 33 = .ok (.getfield 204, 3) := by decide +kernel
theorem d9_result_36 : decode b9_result 36 = .ok (.iconst 2, 1) := by decide +kernel
theorem d9_result_37 : decode b9_result 37 = .ok (.if_icmp .ne 7, 3) := by decide +kernel
theorem d9_result_40 : decode b9_result 40 = .ok (.iconst 1, 1) := by decide +kernel
theorem d9_result_41 : decode b9_result 41 = .ok (.goto 4, 3) := by decide +kernel
theorem d9_result_44 : decode b9_result 44 = .ok (.iconst 0, 1) := by decide +kernel
theorem d9_result_45 : decode b9_result 45 = .ok (.iconst 2, 1) := by decide +kernel
theorem d9_result_46 : decode b9_result 46 = .ok (.invokevirtual 100, 3) := by decide +kernel
theorem d9_result_49 : decode b9_result 49 = .ok (.ifCond .eq 10, 3) := by decide +kernel
theorem d9_result_52 : decode b9_result 52 = .ok (.aload_n 0, 1) := by decide +kernel
theorem d9_result_53 : decode b9_result 53 = .ok (.getfield 207, 3) := by decide +kernel
theorem d9_result_56 : decode b9_result 56 = .ok (.goto 4, 3) := by decide +kernel
theorem d9_result_59 : decode b9_result 59 = .ok (.lconst 0, 1) := by decide +kernel
theorem d9_result_60 : decode b9_result 60 = .ok (.lreturn, 1) := by decide +kernel
theorem d9_real_0 : decode b9_real 0 = .ok (.aload_n 0, 1) := by decide +kernel
theorem d9_real_1 : decode b9_real 1 = .ok (.aload_n 0, 1) := by decide +kernel
theorem d9_real_2 : decode b9_real 2 = .ok (.getfield 104, 3) := by decide +kernel
theorem d9_real_5 : decode b9_real 5 = .ok (.iconst 2, 1) := by decide +kernel
theorem d9_real_6 : decode b9_real 6 = .ok (.if_icmp .ne 7, 3) := by decide +kernel
theorem d9_real_9 : decode b9_real 9 = .ok (.iconst 1, 1) := by decide +kernel
theorem d9_real_10 : decode b9_real 10 = .ok (.goto 4, 3) := by decide +kernel
theorem d9_real_13 : decode b9_real 13 = .ok (.iconst 0, 1) := by decide +kernel
theorem d9_real_14 : decode b9_real 14 = .ok (.iconst 1, 1) := by decide +kernel
theorem d9_real_15 : decode b9_real 15 = .ok (.invokevirtual 100, 3) := by decide +kernel
theorem d9_real_18 : decode b9_real 18 = .ok (.ifCond .ne 5, 3) := by decide +kernel
theorem d9_real_21 : decode b9_real 21 = .ok (.dconst 0, 1) := by decide +kernel
theorem d9_real_22 : decode b9_real 22 = .ok (.dreturn, 1) := by decide +kernel
theorem d9_real_23 : decode b9_real 23 = .ok (.aload_n 0, 1) := by decide +kernel
theorem d9_real_24 : decode b9_real 24 = .ok (.aload_n 0, 1) := by decide +kernel
theorem d9_real_25 : decode b9_real 25 = .ok (.getfield 204, 3) := by decide +kernel
theorem d9_real_28 : decode b9_real 28 = .ok (.iconst 3, 1) := by decide +kernel
theorem d9_real_29 : decode b9_real 29 = .ok (.if_icmp .ne 7, 3) := by decide +kernel
theorem d9_real_32 : decode b9_real 32 = .ok (.iconst 1, 1) := by decide +kernel
theorem d9_real_33 : decode b9_real 33 = .ok (.goto 4, 3) := by decide +kernel
theorem d9_real_36 : decode b9_real 36 = .ok (.iconst 0, 1) := by decide +kernel
theorem d9_real_37 : decode b9_real 37 = .ok (.iconst 2, 1) := by decide +kernel
theorem d9_real_38 : decode b9_real 38 = .ok (.invokevirtual 100, 3) := by decide +kernel
theorem d9_real_41 : decode b9_real 41 = .ok (.ifCond .eq 10, 3) := by decide +kernel
theorem d9_real_44 : decode b9_real 44 = .ok (.aload_n 0, 1) := by decide +kernel
theorem d9_real_45 : decode b9_real 45 = .ok (.getfield 211, 3) := by decide +kernel
theorem d9_real_48 : decode b9_real 48 = .ok (.goto 4, 3) := by decide +kernel
theorem d9_real_51 : decode b9_real 51 = .ok (.dconst 0, 1) := by decide +kernel
theorem d9_real_52 : decode b9_real 52 = .ok (.dreturn, 1) := by decide +kernel
theorem d9_global_0 : decode b9_global 0 = .ok (.aload_n 0, 1) := by decide +kernel
theorem d9_global_1 : decode b9_global 1 = .ok (.iload_n 1, 1) := by decide +kernel
theorem d9_global_2 : decode b9_global 2 = .ok (.iconst 0, 1) := by decide +kernel
theorem d9_global_3 : decode b9_global 3 = .ok (.iconst 1, 1) := by decide +kernel
theorem d9_global_4 : decode b9_global 4 = .ok (.invokestatic 92, 3) := by decide +kernel
theorem d9_global_7 : decode b9_global 7 = .ok (.iconst 1, 1) := by decide +kernel
theorem d9_global_8 : decode b9_global 8 = .ok (.invokevirtual 100, 3) := by decide +kernel
theorem d9_global_11 : decode b9_global 11 = .ok (.ifCond .eq 12, 3) := by decide +kernel
theorem d9_global_14 : decode b9_global 14 = .ok (.aload_n 0, 1) := by decide +kernel
theorem d9_global_15 : decode b9_global 15 = .ok (.getfield 34, 3) := by decide +kernel
theorem d9_global_18 : decode b9_global 18 = .ok (.iload_n 1, 1) := by decide +kernel
theorem d9_global_19 : decode b9_global 19 = .ok (.laload, 1) := by decide +kernel
theorem d9_global_20 : decode b9_global 20 = .ok (.goto 4, 3) := by decide +kernel
theorem d9_global_23 : decode b9_global 23 = .ok (.lconst 0, 1) := by decide +kernel
theorem d9_global_24 : decode b9_global 24 = .ok (.lreturn, 1) := by decide +kernel
theorem d9_realGlobal_0 : decode b9_realGlobal 0 = .ok (.aload_n 0, 1) := by decide +kernel
theorem d9_realGlobal_1 : decode b9_realGlobal 1 = .ok (.iconst 0, 1) := by decide +kernel
theorem d9_realGlobal_2 : decode b9_realGlobal 2 = .ok (.putfield 88, 3) := by decide +kernel
theorem d9_realGlobal_5 : decode b9_realGlobal 5 = .ok (.aload_n 0, 1) := by decide +kernel
theorem d9_realGlobal_6 : decode b9_realGlobal 6 = .ok (.getfield 236, 3) := by decide +kernel
theorem d9_realGlobal_9 : decode b9_realGlobal 9 = .ok (.dreturn, 1) := by decide +kernel
theorem d9_memory_0 : decode b9_memory 0 = .ok (.aload_n 0, 1) := by decide +kernel
theorem d9_memory_1 : decode b9_memory 1 = .ok (.iload_n 1, 1) := by decide +kernel
theorem d9_memory_2 : decode b9_memory 2 = .ok (.iconst 0, 1) := by decide +kernel
theorem d9_memory_3 : decode b9_memory 3 = .ok (.bipush 63, 2) := by decide +kernel
theorem d9_memory_5 : decode b9_memory 5 = .ok (.invokestatic 92, 3) := by decide +kernel
theorem d9_memory_8 : decode b9_memory 8 = .ok (.iconst 1, 1) := by decide +kernel
theorem d9_memory_9 : decode b9_memory 9 = .ok (.invokevirtual 100, 3) := by decide +kernel
theorem d9_memory_12 : decode b9_memory 12 = .ok (.ifCond .eq 12, 3) := by decide +kernel
theorem d9_memory_15 : decode b9_memory 15 = .ok (.aload_n 0, 1) := by decide +kernel
theorem d9_memory_16 : decode b9_memory 16 = .ok (.getfield 31, 3) := by decide +kernel
theorem d9_memory_19 : decode b9_memory 19 = .ok (.iload_n 1, 1) := by decide +kernel
theorem d9_memory_20 : decode b9_memory 20 = .ok (.iaload, 1) := by decide +kernel
theorem d9_memory_21 : decode b9_memory 21 = .ok (.goto 4, 3) := by decide +kernel
theorem d9_memory_24 : decode b9_memory 24 = .ok (.iconst 0, 1) := by decide +kernel
theorem d9_memory_25 : decode b9_memory 25 = .ok (.ireturn, 1) := by decide +kernel
theorem d9_wipe_0 : decode b9_wipe 0 = .ok (.aload_n 0, 1) := by decide +kernel
theorem d9_wipe_1 : decode b9_wipe 1 = .ok (.aload_n 0, 1) := by decide +kernel
theorem d9_wipe_2 : decode b9_wipe 2 = .ok (.getfield 104, 3) := by decide +kernel
theorem d9_wipe_5 : decode b9_wipe 5 = .ok (.iconst 1, 1) := by decide +kernel
theorem d9_wipe_6 : decode b9_wipe 6 = .ok (.if_icmp .eq 7, 3) := by decide +kernel
theorem d9_wipe_9 : decode b9_wipe 9 = .ok (.iconst 1, 1) := by decide +kernel
theorem d9_wipe_10 : decode b9_wipe 10 = .ok (.goto 4, 3) := by decide +kernel
theorem d9_wipe_13 : decode b9_wipe 13 = .ok (.iconst 0, 1) := by decide +kernel
theorem d9_wipe_14 : decode b9_wipe 14 = .ok (.iconst 1, 1) := by decide +kernel
theorem d9_wipe_15 : decode b9_wipe 15 = .ok (.invokevirtual 100, 3) := by decide +kernel
theorem d9_wipe_18 : decode b9_wipe 18 = .ok (.ifCond .ne 5, 3) := by decide +kernel
theorem d9_wipe_21 : decode b9_wipe 21 = .ok (.iconst 0, 1) := by decide +kernel
theorem d9_wipe_22 : decode b9_wipe 22 = .ok (.ireturn, 1) := by decide +kernel
theorem d9_wipe_23 : decode b9_wipe 23 = .ok (.iconst 0, 1) := by decide +kernel
theorem d9_wipe_24 : decode b9_wipe 24 = .ok (.istore_n 1, 1) := by decide +kernel
theorem d9_wipe_25 : decode b9_wipe 25 = .ok (.iconst 0, 1) := by decide +kernel
theorem d9_wipe_26 : decode b9_wipe 26 = .ok (.istore_n 2, 1) := by decide +kernel
theorem d9_wipe_27 : decode b9_wipe 27 = .ok (.iload_n 2, 1) := by decide +kernel
theorem d9_wipe_28 : decode b9_wipe 28 = .ok (.bipush 64, 2) := by decide +kernel
theorem d9_wipe_30 : decode b9_wipe 30 = .ok (.if_icmp .ge 28, 3) := by decide +kernel
theorem d9_wipe_33 : decode b9_wipe 33 = .ok (.aload_n 0, 1) := by decide +kernel
theorem d9_wipe_34 : decode b9_wipe 34 = .ok (.getfield 31, 3) := by decide +kernel
theorem d9_wipe_37 : decode b9_wipe 37 = .ok (.iload_n 2, 1) := by decide +kernel
theorem d9_wipe_38 : decode b9_wipe 38 = .ok (.iaload, 1) := by decide +kernel
theorem d9_wipe_39 : decode b9_wipe 39 = .ok (.ifCond .eq 6, 3) := by decide +kernel
theorem d9_wipe_42 : decode b9_wipe 42 = .ok (.iinc 1 1, 3) := by decide +kernel
theorem d9_wipe_45 : decode b9_wipe 45 = .ok (.aload_n 0, 1) := by decide +kernel
theorem d9_wipe_46 : decode b9_wipe 46 = .ok (.getfield 31, 3) := by decide +kernel
theorem d9_wipe_49 : decode b9_wipe 49 = .ok (.iload_n 2, 1) := by decide +kernel
theorem d9_wipe_50 : decode b9_wipe 50 = .ok (.iconst 0, 1) := by decide +kernel
theorem d9_wipe_51 : decode b9_wipe 51 = .ok (.iastore, 1) := by decide +kernel
theorem d9_wipe_52 : decode b9_wipe 52 = .ok (.iinc 2 1, 3) := by decide +kernel
theorem d9_wipe_55 : decode b9_wipe 55 = .ok (.goto (-28), 3) := by decide +kernel
theorem d9_wipe_58 : decode b9_wipe 58 = .ok (.aload_n 0, 1) := by decide +kernel
theorem d9_wipe_59 : decode b9_wipe 59 = .ok (.getfield 34, 3) := by decide +kernel
theorem d9_wipe_62 : decode b9_wipe 62 = .ok (.iconst 0, 1) := by decide +kernel
theorem d9_wipe_63 : decode b9_wipe 63 = .ok (.lconst 0, 1) := by decide +kernel
theorem d9_wipe_64 : decode b9_wipe 64 = .ok (.lastore, 1) := by decide +kernel
theorem d9_wipe_65 : decode b9_wipe 65 = .ok (.aload_n 0, 1) := by decide +kernel
theorem d9_wipe_66 : decode b9_wipe 66 = .ok (.getfield 34, 3) := by decide +kernel
theorem d9_wipe_69 : decode b9_wipe 69 = .ok (.iconst 1, 1) := by decide +kernel
theorem d9_wipe_70 : decode b9_wipe 70 = .ok (.lconst 0, 1) := by decide +kernel
theorem d9_wipe_71 : decode b9_wipe 71 = .ok (.lastore, 1) := by decide +kernel
theorem d9_wipe_72 : decode b9_wipe 72 = .ok (.aload_n 0, 1) := by decide +kernel
theorem d9_wipe_73 : decode b9_wipe 73 = .ok (.dconst 0, 1) := by decide +kernel
theorem d9_wipe_74 : decode b9_wipe 74 = .ok (.putfield 236, 3) := by decide +kernel
theorem d9_wipe_77 : decode b9_wipe 77 = .ok (.iload_n 1, 1) := by decide +kernel
theorem d9_wipe_78 : decode b9_wipe 78 = .ok (.ireturn, 1) := by decide +kernel
theorem d9_count_0 : decode b9_count 0 = .ok (.aload_n 0, 1) := by decide +kernel
theorem d9_count_1 : decode b9_count 1 = .ok (.iload_n 1, 1) := by decide +kernel
theorem d9_count_2 : decode b9_count 2 = .ok (.iconst 0, 1) := by decide +kernel
theorem d9_count_3 : decode b9_count 3 = .ok (.bipush 11, 2) := by decide +kernel
theorem d9_count_5 : decode b9_count 5 = .ok (.invokestatic 92, 3) := by decide +kernel
theorem d9_count_8 : decode b9_count 8 = .ok (.iconst 1, 1) := by decide +kernel
theorem d9_count_9 : decode b9_count 9 = .ok (.invokevirtual 100, 3) := by decide +kernel
theorem d9_count_12 : decode b9_count 12 = .ok (.ifCond .ne 5, 3) := by decide +kernel
theorem d9_count_15 : decode b9_count 15 = .ok (.iconst 0, 1) := by decide +kernel
theorem d9_count_16 : decode b9_count 16 = .ok (.ireturn, 1) := by decide +kernel
theorem d9_count_17 : decode b9_count 17 = .ok (.iload_n 1, 1) := by decide +kernel
theorem d9_count_18 : decode b9_count 18 = .ok (.iconst 5, 1) := by decide +kernel
theorem d9_count_19 : decode b9_count 19 = .ok (.if_icmp .le 13, 3) := by decide +kernel
theorem d9_count_22 : decode b9_count 22 = .ok (.aload_n 0, 1) := by decide +kernel
theorem d9_count_23 : decode b9_count 23 = .ok (.getfield 25, 3) := by decide +kernel
theorem d9_count_26 : decode b9_count 26 = .ok (.iload_n 1, 1) := by decide +kernel
theorem d9_count_27 : decode b9_count 27 = .ok (.bipush 6, 2) := by decide +kernel
theorem d9_count_29 : decode b9_count 29 = .ok (.isub, 1) := by decide +kernel
theorem d9_count_30 : decode b9_count 30 = .ok (.iaload, 1) := by decide +kernel
theorem d9_count_31 : decode b9_count 31 = .ok (.ireturn, 1) := by decide +kernel
theorem d9_count_32 : decode b9_count 32 = .ok (.iload_n 1, 1) := by decide +kernel
theorem d9_count_33 : decode b9_count 33 = .ok (.ifCond .ne 10, 3) := by decide +kernel
theorem d9_count_36 : decode b9_count 36 = .ok (.aload_n 0, 1) := by decide +kernel
theorem d9_count_37 : decode b9_count 37 = .ok (.getfield 104, 3) := by decide +kernel
theorem d9_count_40 : decode b9_count 40 = .ok (.goto 75, 3) := by decide +kernel
theorem d9_count_43 : decode b9_count 43 = .ok (.iload_n 1, 1) := by decide +kernel
theorem d9_count_44 : decode b9_count 44 = .ok (.iconst 1, 1) := by decide +kernel
theorem d9_count_45 : decode b9_count 45 = .ok (.if_icmp .ne 10, 3) := by decide +kernel
theorem d9_count_48 : decode b9_count 48 = .ok (.aload_n 0, 1) := by decide +kernel
theorem d9_count_49 : decode b9_count 49 = .ok (.getfield 196, 3) := by decide +kernel
theorem d9_count_52 : decode b9_count 52 = .ok (.goto 63, 3) := by decide +kernel
theorem d9_count_55 : decode b9_count 55 = .ok (.iload_n 1, 1) := by decide +kernel
theorem d9_count_56 : decode b9_count 56 = .ok (.iconst 2, 1) := by decide +kernel
theorem d9_count_57 : decode b9_count 57 = .ok (.if_icmp .ne 22, 3) := by decide +kernel
theorem d9_count_60 : decode b9_count 60 = .ok (.aload_n 0, 1) := by decide +kernel
theorem d9_count_61 : decode b9_count 61 = .ok (.getfield 104, 3) := by decide +kernel
theorem d9_count_64 : decode b9_count 64 = .ok (.iconst 1, 1) := by decide +kernel
theorem d9_count_65 : decode b9_count 65 = .ok (.if_icmp .ne 10, 3) := by decide +kernel
theorem d9_count_68 : decode b9_count 68 = .ok (.aload_n 0, 1) := by decide +kernel
theorem d9_count_69 : decode b9_count 69 = .ok (.getfield 190, 3) := by decide +kernel
theorem d9_count_72 : decode b9_count 72 = .ok (.goto 43, 3) := by decide +kernel
theorem d9_count_75 : decode b9_count 75 = .ok (.iconst 0, 1) := by decide +kernel
theorem d9_count_76 : decode b9_count 76 = .ok (.goto 39, 3) := by decide +kernel
theorem d9_count_79 : decode b9_count 79 = .ok (.iload_n 1, 1) := by decide +kernel
theorem d9_count_80 : decode b9_count 80 = .ok (.iconst 3, 1) := by decide +kernel
theorem d9_count_81 : decode b9_count 81 = .ok (.if_icmp .ne 10, 3) := by decide +kernel
theorem d9_count_84 : decode b9_count 84 = .ok (.aload_n 0, 1) := by decide +kernel
theorem d9_count_85 : decode b9_count 85 = .ok (.getfield 291, 3) := by decide +kernel
theorem d9_count_88 : decode b9_count 88 = .ok (.goto 27, 3) := by decide +kernel
theorem d9_count_91 : decode b9_count 91 = .ok (.iload_n 1, 1) := by decide +kernel
theorem d9_count_92 : decode b9_count 92 = .ok (.iconst 4, 1) := by decide +kernel
theorem d9_count_93 : decode b9_count 93 = .ok (.if_icmp .ne 18, 3) := by decide +kernel
theorem d9_count_96 : decode b9_count 96 = .ok (.aload_n 0, 1) := by decide +kernel
theorem d9_count_97 : decode b9_count 97 = .ok (.getfield 111, 3) := by decide +kernel
theorem d9_count_100 : decode b9_count 100 = .ok (.ifCond .eq 7, 3) := by decide +kernel
theorem d9_count_103 : decode b9_count 103 = .ok (.iconst 1, 1) := by decide +kernel
theorem d9_count_104 : decode b9_count 104 = .ok (.goto 11, 3) := by decide +kernel
theorem d9_count_107 : decode b9_count 107 = .ok (.iconst 0, 1) := by decide +kernel
theorem d9_count_108 : decode b9_count 108 = .ok (.goto 7, 3) := by decide +kernel
theorem d9_count_111 : decode b9_count 111 = .ok (.aload_n 0, 1) := by decide +kernel
theorem d9_count_112 : decode b9_count 112 = .ok (.getfield 187, 3) := by decide +kernel
theorem d9_count_115 : decode b9_count 115 = .ok (.ireturn, 1) := by decide +kernel
theorem d0_init_0 : decode b0_init 0 = .ok (.aload_n 0, 1) := by decide +kernel
theorem d0_init_1 : decode b0_init 1 = .ok (.invokespecial 3, 3) := by decide +kernel
theorem d0_init_4 : decode b0_init 4 = .ok (.aload_n 0, 1) := by decide +kernel
theorem d0_init_5 : decode b0_init 5 = .ok (.new 9, 3) := by decide +kernel
theorem d0_init_8 : decode b0_init 8 = .ok (.dup, 1) := by decide +kernel
theorem d0_init_9 : decode b0_init 9 = .ok (.bipush 16, 2) := by decide +kernel
theorem d0_init_11 : decode b0_init 11 = .ok (.invokespecial 11, 3) := by decide +kernel
theorem d0_init_14 : decode b0_init 14 = .ok (.putfield 14, 3) := by decide +kernel
theorem d0_init_17 : decode b0_init 17 = .ok (.aload_n 0, 1) := by decide +kernel
theorem d0_init_18 : decode b0_init 18 = .ok (.new 9, 3) := by decide +kernel
theorem d0_init_21 : decode b0_init 21 = .ok (.dup, 1) := by decide +kernel
theorem d0_init_22 : decode b0_init 22 = .ok (.bipush 6, 2) := by decide +kernel
theorem d0_init_24 : decode b0_init 24 = .ok (.invokespecial 11, 3) := by decide +kernel
theorem d0_init_27 : decode b0_init 27 = .ok (.putfield 20, 3) := by decide +kernel
theorem d0_init_30 : decode b0_init 30 = .ok (.aload_n 0, 1) := by decide +kernel
theorem d0_init_31 : decode b0_init 31 = .ok (.bipush 8, 2) := by decide +kernel
theorem d0_init_33 : decode b0_init 33 = .ok (.newarray .int, 2) := by decide +kernel
theorem d0_init_35 : decode b0_init 35 = .ok (.putfield 23, 3) := by decide +kernel
theorem d0_init_38 : decode b0_init 38 = .ok (.aload_n 0, 1) := by decide +kernel
theorem d0_init_39 : decode b0_init 39 = .ok (.bipush 8, 2) := by decide +kernel
theorem d0_init_41 : decode b0_init 41 = .ok (.newarray .int, 2) := by decide +kernel
theorem d0_init_43 : decode b0_init 43 = .ok (.putfield 27, 3) := by decide +kernel
theorem d0_init_46 : decode b0_init 46 = .ok (.aload_n 0, 1) := by decide +kernel
theorem d0_init_47 : decode b0_init 47 = .ok (.aload_n 1, 1) := by decide +kernel
theorem d0_init_48 : decode b0_init 48 = .ok (.putfield 30, 3) := by decide +kernel
theorem d0_init_51 : decode b0_init 51 = .ok (.return_, 1) := by decide +kernel
theorem d0_begin_0 : decode b0_begin 0 = .ok (.aload_n 0, 1) := by decide +kernel
theorem d0_begin_1 : decode b0_begin 1 = .ok (.aload_n 1, 1) := by decide +kernel
theorem d0_begin_2 : decode b0_begin 2 = .ok (.putfield 30, 3) := by decide +kernel
theorem d0_begin_5 : decode b0_begin 5 = .ok (.aload_n 0, 1) := by decide +kernel
theorem d0_begin_6 : decode b0_begin 6 = .ok (.iconst 0, 1) := by decide +kernel
theorem d0_begin_7 : decode b0_begin 7 = .ok (.putfield 34, 3) := by decide +kernel
theorem d0_begin_10 : decode b0_begin 10 = .ok (.aload_n 0, 1) := by decide +kernel
theorem d0_begin_11 : decode b0_begin 11 = .ok (.iconst 1, 1) := by decide +kernel
theorem d0_begin_12 : decode b0_begin 12 = .ok (.putfield 38, 3) := by decide +kernel
theorem d0_begin_15 : decode b0_begin 15 = .ok (.aload_n 0, 1) := by decide +kernel
theorem d0_begin_16 : decode b0_begin 16 = .ok (.getfield 14, 3) := by decide +kernel
theorem d0_begin_19 : decode b0_begin 19 = .ok (.invokevirtual 41, 3) := by decide +kernel
theorem d0_begin_22 : decode b0_begin 22 = .ok (.aload_n 0, 1) := by decide +kernel
theorem d0_begin_23 : decode b0_begin 23 = .ok (.getfield 20, 3) := by decide +kernel
theorem d0_begin_26 : decode b0_begin 26 = .ok (.invokevirtual 41, 3) := by decide +kernel
theorem d0_begin_29 : decode b0_begin 29 = .ok (.return_, 1) := by decide +kernel
theorem d0_setParameter_0 : decode b0_setParameter 0 = .ok (.aload_n 0, 1) := by decide +kernel
theorem d0_setParameter_1 : decode b0_setParameter 1 = .ok (.getfield 30, 3) := by decide +kernel
theorem d0_setParameter_4 : decode b0_setParameter 4 = .ok (.iload_n 1, 1) := by decide +kernel
theorem d0_setParameter_5 : decode b0_setParameter 5 = .ok (.invokevirtual 44, 3) := by decide +kernel
theorem d0_setParameter_8 : decode b0_setParameter 8 = .ok (.iconst 3, 1) := by decide +kernel
theorem d0_setParameter_9 : decode b0_setParameter 9 = .ok (.if_icmp .ne 21, 3) := by decide +kernel
theorem d0_setParameter_12 : decode b0_setParameter 12 = .ok (.aload_n 0, 1) := by decide +kernel
theorem d0_setParameter_13 : decode b0_setParameter 13 = .ok (.getfield 20, 3) := by decide +kernel
theorem d0_setParameter_16 : decode b0_setParameter 16 = .ok (.iload_n 1, 1) := by decide +kernel
theorem d0_setParameter_17 : decode b0_setParameter 17 = .ok (.lconst 0, 1) := by decide +kernel
theorem d0_setParameter_18 : decode b0_setParameter 18 = .ok (.iload_n 2, 1) := by decide +kernel
theorem d0_setParameter_19 : decode b0_setParameter 19 = .ok (.i2d, 1) := by decide +kernel
theorem d0_setParameter_20 : decode b0_setParameter 20 = .ok (.ldc2_w 50, 3) := by decide +kernel
theorem d0_setParameter_23 : decode b0_setParameter 23 = .ok (.dmul, 1) := by decide +kernel
theorem d0_setParameter_24 : decode b0_setParameter 24 = .ok (.invokevirtual 52, 3) := by decide +kernel
theorem d0_setParameter_27 : decode b0_setParameter 27 = .ok (.goto 14, 3) := by decide +kernel
theorem d0_setParameter_30 : decode b0_setParameter 30 = .ok (.aload_n 0, 1) := by decide +kernel
theorem d0_setParameter_31 : decode b0_setParameter 31 = .ok (.getfield 20, 3) := by decide +kernel
theorem d0_setParameter_34 : decode b0_setParameter 34 = .ok (.iload_n 1, 1) := by decide +kernel
theorem d0_setParameter_35 : decode b0_setParameter 35 = .ok (.iload_n 2, 1) := by decide +kernel
theorem d0_setParameter_36 : decode b0_setParameter 36 = .ok (.i2l, 1) := by decide +kernel
theorem d0_setParameter_37 : decode b0_setParameter 37 = .ok (.dconst 0, 1) := by decide +kernel
theorem d0_setParameter_38 : decode b0_setParameter 38 = .ok (.invokevirtual 52, 3) := by decide +kernel
theorem d0_setParameter_41 : decode b0_setParameter 41 = .ok (.return_, 1) := by decide +kernel
theorem d0_takeParametersFrom_0 : decode b0_takeParametersFrom 0 = .ok (.aload_n 1, 1) := by decide +kernel
theorem d0_takeParametersFrom_1 : decode b0_takeParametersFrom 1 = .ok (.invokevirtual 56, 3) := by decide +kernel
theorem d0_takeParametersFrom_4 : decode b0_takeParametersFrom 4 = .ok (.aload_n 0, 1) := by decide +kernel
theorem d0_takeParametersFrom_5 : decode b0_takeParametersFrom 5 = .ok (.getfield 30, 3) := by decide +kernel
theorem d0_takeParametersFrom_8 : decode b0_takeParametersFrom 8 = .ok (.invokevirtual 60, 3) := by decide +kernel
theorem d0_takeParametersFrom_11 : decode b0_takeParametersFrom 11 = .ok (.isub, 1) := by decide +kernel
theorem d0_takeParametersFrom_12 : decode b0_takeParametersFrom 12 = .ok (.istore_n 2, 1) := by decide +kernel
theorem d0_takeParametersFrom_13 : decode b0_takeParametersFrom 13 = .ok (.iconst 0, 1) := by decide +kernel
theorem d0_takeParametersFrom_14 : decode b0_takeParametersFrom 14 = .ok (.istore_n 3, 1) := by decide +kernel
theorem d0_takeParametersFrom_15 : decode b0_takeParametersFrom 15 = .ok (.iload_n 3, 1) := by decide +kernel
theorem d0_takeParametersFrom_16 : decode b0_takeParametersFrom 16 = .ok (.aload_n 0, 1) := by decide +kernel
theorem d0_takeParametersFrom_17 : decode b0_takeParametersFrom 17 = .ok (.getfield 30, 3) := by decide +kernel
theorem d0_takeParametersFrom_20 : decode b0_takeParametersFrom 20 = .ok (.invokevirtual 60, 3) := by decide +kernel
theorem d0_takeParametersFrom_23 : decode b0_takeParametersFrom 23 = .ok (.if_icmp .ge 21, 3) := by decide +kernel
theorem d0_takeParametersFrom_26 : decode b0_takeParametersFrom 26 = .ok (.aload_n 0, 1) := by decide +kernel
theorem d0_takeParametersFrom_27 : decode b0_takeParametersFrom 27 = .ok (.getfield 20, 3) := by decide +kernel
theorem d0_takeParametersFrom_30 : decode b0_takeParametersFrom 30 = .ok (.iload_n 3, 1) := by decide +kernel
theorem d0_takeParametersFrom_31 : decode b0_takeParametersFrom 31 = .ok (.aload_n 1, 1) := by decide +kernel
theorem d0_takeParametersFrom_32 : decode b0_takeParametersFrom 32 = .ok (.iload_n 2, 1) := by decide +kernel
theorem d0_takeParametersFrom_33 : decode b0_takeParametersFrom 33 = .ok (.iload_n 3, 1) := by decide +kernel
theorem d0_takeParametersFrom_34 : decode b0_takeParametersFrom 34 = .ok (.iadd, 1) := by decide +kernel
theorem d0_takeParametersFrom_35 : decode b0_takeParametersFrom 35 = .ok (.invokevirtual 63, 3) := by decide +kernel
theorem d0_takeParametersFrom_38 : decode b0_takeParametersFrom 38 = .ok (.iinc 3 1, 3) := by decide +kernel
theorem d0_takeParametersFrom_41 : decode b0_takeParametersFrom 41 = .ok (.goto (-26), 3) := by decide +kernel
theorem d0_takeParametersFrom_44 : decode b0_takeParametersFrom 44 = .ok (.aload_n 1, 1) := by decide +kernel
theorem d0_takeParametersFrom_45 : decode b0_takeParametersFrom 45 = .ok (.iload_n 2, 1) := by decide +kernel
theorem d0_takeParametersFrom_46 : decode b0_takeParametersFrom 46 = .ok (.invokevirtual 67, 3) := by decide +kernel
theorem d0_takeParametersFrom_49 : decode b0_takeParametersFrom 49 = .ok (.return_, 1) := by decide +kernel
theorem d0_beginFrame_0 : decode b0_beginFrame 0 = .ok (.aload_n 0, 1) := by decide +kernel
theorem d0_beginFrame_1 : decode b0_beginFrame 1 = .ok (.getfield 38, 3) := by decide +kernel
theorem d0_beginFrame_4 : decode b0_beginFrame 4 = .ok (.ifCond .lt 48, 3) := by decide +kernel
theorem d0_beginFrame_7 : decode b0_beginFrame 7 = .ok (.aload_n 0, 1) := by decide +kernel
theorem d0_beginFrame_8 : decode b0_beginFrame 8 = .ok (.getfield 38, 3) := by decide +kernel
theorem d0_beginFrame_11 : decode b0_beginFrame 11 = .ok (.bipush 8, 2) := by decide +kernel
theorem d0_beginFrame_13 : decode b0_beginFrame 13 = .ok (.if_icmp .ge 39, 3) := by decide +kernel
theorem d0_beginFrame_16 : decode b0_beginFrame 16 = .ok (.aload_n 0, 1) := by decide +kernel
theorem d0_beginFrame_17 : decode b0_beginFrame 17 = .ok (.getfield 23, 3) := by decide +kernel
theorem d0_beginFrame_20 : decode b0_beginFrame 20 = .ok (.aload_n 0, 1) := by decide +kernel
theorem d0_beginFrame_21 : decode b0_beginFrame 21 = .ok (.getfield 38, 3) := by decide +kernel
theorem d0_beginFrame_24 : decode b0_beginFrame 24 = .ok (.iload_n 1, 1) := by decide +kernel
theorem d0_beginFrame_25 : decode b0_beginFrame 25 = .ok (.iastore, 1) := by decide +kernel
theorem d0_beginFrame_26 : decode b0_beginFrame 26 = .ok (.aload_n 0, 1) := by decide +kernel
theorem d0_beginFrame_27 : decode b0_beginFrame 27 = .ok (.getfield 27, 3) := by decide +kernel
theorem d0_beginFrame_30 : decode b0_beginFrame 30 = .ok (.aload_n 0, 1) := by decide +kernel
theorem d0_beginFrame_31 : decode b0_beginFrame 31 = .ok (.getfield 38, 3) := by decide +kernel
theorem d0_beginFrame_34 : decode b0_beginFrame 34 = .ok (.aload_n 0, 1) := by decide +kernel
theorem d0_beginFrame_35 : decode b0_beginFrame 35 = .ok (.getfield 14, 3) := by decide +kernel
theorem d0_beginFrame_38 : decode b0_beginFrame 38 = .ok (.invokevirtual 56, 3) := by decide +kernel
theorem d0_beginFrame_41 : decode b0_beginFrame 41 = .ok (.iastore, 1) := by decide +kernel
theorem d0_beginFrame_42 : decode b0_beginFrame 42 = .ok (.aload_n 0, 1) := by decide +kernel
theorem d0_beginFrame_43 : decode b0_beginFrame 43 = .ok (.dup, 1) := by decide +kernel
theorem d0_beginFrame_44 : decode b0_beginFrame 44 = .ok (.getfield 38, 3) := by decide +kernel
theorem d0_beginFrame_47 : decode b0_beginFrame 47 = .ok (.iconst 1, 1) := by decide +kernel
theorem d0_beginFrame_48 : decode b0_beginFrame 48 = .ok (.iadd, 1) := by decide +kernel
theorem d0_beginFrame_49 : decode b0_beginFrame 49 = .ok (.putfield 38, 3) := by decide +kernel
theorem d0_beginFrame_52 : decode b0_beginFrame 52 = .ok (.return_, 1) := by decide +kernel
theorem d0_beginIf_0 : decode b0_beginIf 0 = .ok (.aload_n 0, 1) := by decide +kernel
theorem d0_beginIf_1 : decode b0_beginIf 1 = .ok (.getfield 14, 3) := by decide +kernel
theorem d0_beginIf_4 : decode b0_beginIf 4 = .ok (.invokevirtual 70, 3) := by decide +kernel
theorem d0_beginIf_7 : decode b0_beginIf 7 = .ok (.ifCond .eq 11, 3) := by decide +kernel
theorem d0_beginIf_10 : decode b0_beginIf 10 = .ok (.aload_n 0, 1) := by decide +kernel
theorem d0_beginIf_11 : decode b0_beginIf 11 = .ok (.iload_n 1, 1) := by decide +kernel
theorem d0_beginIf_12 : decode b0_beginIf 12 = .ok (.invokevirtual 73, 3) := by decide +kernel
theorem d0_beginIf_15 : decode b0_beginIf 15 = .ok (.goto 46, 3) := by decide +kernel
theorem d0_beginIf_18 : decode b0_beginIf 18 = .ok (.aload_n 0, 1) := by decide +kernel
theorem d0_beginIf_19 : decode b0_beginIf 19 = .ok (.getfield 30, 3) := by decide +kernel
theorem d0_beginIf_22 : decode b0_beginIf 22 = .ok (.iload_n 1, 1) := by decide +kernel
theorem d0_beginIf_23 : decode b0_beginIf 23 = .ok (.invokevirtual 76, 3) := by decide +kernel
theorem d0_beginIf_26 : decode b0_beginIf 26 = .ok (.ifCond .eq 23, 3) := by decide +kernel
theorem d0_beginIf_29 : decode b0_beginIf 29 = .ok (.aload_n 0, 1) := by decide +kernel
theorem d0_beginIf_30 : decode b0_beginIf 30 = .ok (.iload_n 1, 1) := by decide +kernel
theorem d0_beginIf_31 : decode b0_beginIf 31 = .ok (.invokevirtual 73, 3) := by decide +kernel
theorem d0_beginIf_34 : decode b0_beginIf 34 = .ok (.aload_n 0, 1) := by decide +kernel
theorem d0_beginIf_35 : decode b0_beginIf 35 = .ok (.aload_n 0, 1) := by decide +kernel
theorem d0_beginIf_36 : decode b0_beginIf 36 = .ok (.getfield 30, 3) := by decide +kernel
theorem d0_beginIf_39 : decode b0_beginIf 39 = .ok (.iload_n 1, 1) := by decide +kernel
theorem d0_beginIf_40 : decode b0_beginIf 40 = .ok (.invokevirtual 76, 3) := by decide +kernel
theorem d0_beginIf_43 : decode b0_beginIf 43 = .ok (.putfield 34, 3) := by decide +kernel
theorem d0_beginIf_46 : decode b0_beginIf 46 = .ok (.goto 15, 3) := by decide +kernel
theorem d0_beginIf_49 : decode b0_beginIf 49 = .ok (.aload_n 0, 1) := by decide +kernel
theorem d0_beginIf_50 : decode b0_beginIf 50 = .ok (.aload_n 0, 1) := by decide +kernel
theorem d0_beginIf_51 : decode b0_beginIf 51 = .ok (.getfield 30, 3) := by decide +kernel
theorem d0_beginIf_54 : decode b0_beginIf 54 = .ok (.iload_n 1, 1) := by decide +kernel
theorem d0_beginIf_55 : decode b0_beginIf 55 = .ok (.invokevirtual 79, 3) := by decide +kernel
theorem d0_beginIf_58 : decode b0_beginIf 58 = .ok (.putfield 34, 3) := by decide +kernel
theorem d0_beginIf_61 : decode b0_beginIf 61 = .ok (.return_, 1) := by decide +kernel
theorem d0_endFrame_0 : decode b0_endFrame 0 = .ok (.aload_n 0, 1) := by decide +kernel
theorem d0_endFrame_1 : decode b0_endFrame 1 = .ok (.dup, 1) := by decide +kernel
theorem d0_endFrame_2 : decode b0_endFrame 2 = .ok (.getfield 38, 3) := by decide +kernel
theorem d0_endFrame_5 : decode b0_endFrame 5 = .ok (.iconst 1, 1) := by decide +kernel
theorem d0_endFrame_6 : decode b0_endFrame 6 = .ok (.isub, 1) := by decide +kernel
theorem d0_endFrame_7 : decode b0_endFrame 7 = .ok (.putfield 38, 3) := by decide +kernel
theorem d0_endFrame_10 : decode b0_endFrame 10 = .ok (.return_, 1) := by decide +kernel
theorem d0_goBehindEnd_0 : decode b0_goBehindEnd 0 = .ok (.aload_n 0, 1) := by decide +kernel
theorem d0_goBehindEnd_1 : decode b0_goBehindEnd 1 = .ok (.dup, 1) := by decide +kernel
theorem d0_goBehindEnd_2 : decode b0_goBehindEnd 2 = .ok (.getfield 38, 3) := by decide +kernel
theorem d0_goBehindEnd_5 : decode b0_goBehindEnd 5 = .ok (.iconst 1, 1) := by decide +kernel
theorem d0_goBehindEnd_6 : decode b0_goBehindEnd 6 = .ok (.isub, 1) := by decide +kernel
theorem d0_goBehindEnd_7 : decode b0_goBehindEnd 7 = .ok (.putfield 38, 3) := by decide +kernel
theorem d0_goBehindEnd_10 : decode b0_goBehindEnd 10 = .ok (.aload_n 0, 1) := by decide +kernel
theorem d0_goBehindEnd_11 : decode b0_goBehindEnd 11 = .ok (.getfield 38, 3) := by decide +kernel
theorem d0_goBehindEnd_14 : decode b0_goBehindEnd 14 = .ok (.ifCond .lt 32, 3) := by decide +kernel
theorem d0_goBehindEnd_17 : decode b0_goBehindEnd 17 = .ok (.aload_n 0, 1) := by decide +kernel
theorem d0_goBehindEnd_18 : decode b0_goBehindEnd 18 = .ok (.getfield 38, 3) := by decide +kernel
theorem d0_goBehindEnd_21 : decode b0_goBehindEnd 21 = .ok (.bipush 8, 2) := by decide +kernel
theorem d0_goBehindEnd_23 : decode b0_goBehindEnd 23 = .ok (.if_icmp .ge 23, 3) := by decide +kernel
theorem d0_goBehindEnd_26 : decode b0_goBehindEnd 26 = .ok (.aload_n 0, 1) := by decide +kernel
theorem d0_goBehindEnd_27 : decode b0_goBehindEnd 27 = .ok (.aload_n 0, 1) := by decide +kernel
theorem d0_goBehindEnd_28 : decode b0_goBehindEnd 28 = .ok (.getfield 30, 3) := by decide +kernel
theorem d0_goBehindEnd_31 : decode b0_goBehindEnd 31 = .ok (.aload_n 0, 1) := by decide +kernel
theorem d0_goBehindEnd_32 : decode b0_goBehindEnd 32 = .ok (.getfield 23, 3) := by decide +kernel
theorem d0_goBehindEnd_35 : decode b0_goBehindEnd 35 = .ok (.aload_n 0, 1) := by decide +kernel
theorem d0_goBehindEnd_36 : decode b0_goBehindEnd 36 = .ok (.getfield 38, 3) := by decide +kernel
theorem d0_goBehindEnd_39 : decode b0_goBehindEnd 39 = .ok (.iaload, 1) := by decide +kernel
theorem d0_goBehindEnd_40 : decode b0_goBehindEnd 40 = .ok (.invokevirtual 79, 3) := by decide +kernel
theorem d0_goBehindEnd_43 : decode b0_goBehindEnd 43 = .ok (.putfield 34, 3) := by decide +kernel
theorem d0_goBehindEnd_46 : decode b0_goBehindEnd 46 = .ok (.return_, 1) := by decide +kernel
theorem d0_jumpsWithin_0 : decode b0_jumpsWithin 0 = .ok (.aload_n 0, 1) := by decide +kernel
theorem d0_jumpsWithin_1 : decode b0_jumpsWithin 1 = .ok (.getfield 38, 3) := by decide +kernel
theorem d0_jumpsWithin_4 : decode b0_jumpsWithin 4 = .ok (.iconst 1, 1) := by decide +kernel
theorem d0_jumpsWithin_5 : decode b0_jumpsWithin 5 = .ok (.isub, 1) := by decide +kernel
theorem d0_jumpsWithin_6 : decode b0_jumpsWithin 6 = .ok (.iload_n 1, 1) := by decide +kernel
theorem d0_jumpsWithin_7 : decode b0_jumpsWithin 7 = .ok (.isub, 1) := by decide +kernel
theorem d0_jumpsWithin_8 : decode b0_jumpsWithin 8 = .ok (.istore_n 2, 1) := by decide +kernel
theorem d0_jumpsWithin_9 : decode b0_jumpsWithin 9 = .ok (.iload_n 2, 1) := by decide +kernel
theorem d0_jumpsWithin_10 : decode b0_jumpsWithin 10 = .ok (.ifCond .le 9, 3) := by decide +kernel
theorem d0_jumpsWithin_13 : decode b0_jumpsWithin 13 = .ok (.iload_n 2, 1) := by decide +kernel
theorem d0_jumpsWithin_14 : decode b0_jumpsWithin 14 = .ok (.bipush 8, 2) := by decide +kernel
theorem d0_jumpsWithin_16 : decode b0_jumpsWithin 16 = .ok (.if_icmp .lt 5, 3) := by decide +kernel
theorem d0_jumpsWithin_19 : decode b0_jumpsWithin 19 = .ok (.iconst 0, 1) := by decide +kernel
theorem d0_jumpsWithin_20 : decode b0_jumpsWithin 20 = .ok (.ireturn, 1) := by decide +kernel
theorem d0_jumpsWithin_21 : decode b0_jumpsWithin 21 = .ok (.aload_n 0, 1) := by decide +kernel
theorem d0_jumpsWithin_22 : decode b0_jumpsWithin 22 = .ok (.getfield 23, 3) := by decide +kernel
theorem d0_jumpsWithin_25 : decode b0_jumpsWithin 25 = .ok (.iload_n 2, 1) := by decide +kernel
theorem d0_jumpsWithin_26 : decode b0_jumpsWithin 26 = .ok (.iaload, 1) := by decide +kernel
theorem d0_jumpsWithin_27 : decode b0_jumpsWithin 27 = .ok (.istore_n 3, 1) := by decide +kernel
theorem d0_jumpsWithin_28 : decode b0_jumpsWithin 28 = .ok (.aload_n 0, 1) := by decide +kernel
theorem d0_jumpsWithin_29 : decode b0_jumpsWithin 29 = .ok (.getfield 30, 3) := by decide +kernel
theorem d0_jumpsWithin_32 : decode b0_jumpsWithin 32 = .ok (.iload_n 3, 1) := by decide +kernel
theorem d0_jumpsWithin_33 : decode b0_jumpsWithin 33 = .ok (.invokevirtual 82, 3) := by decide +kernel
theorem d0_jumpsWithin_36 : decode b0_jumpsWithin 36 = .ok (.iconst 3, 1) := by decide +kernel
theorem d0_jumpsWithin_37 : decode b0_jumpsWithin 37 = .ok (.if_icmp .ne 32, 3) := by decide +kernel
theorem d0_jumpsWithin_40 : decode b0_jumpsWithin 40 = .ok (.aload_n 0, 1) := by decide +kernel
theorem d0_jumpsWithin_41 : decode b0_jumpsWithin 41 = .ok (.getfield 14, 3) := by decide +kernel
theorem d0_jumpsWithin_44 : decode b0_jumpsWithin 44 = .ok (.aload_n 0, 1) := by decide +kernel
theorem d0_jumpsWithin_45 : decode b0_jumpsWithin 45 = .ok (.getfield 27, 3) := by decide +kernel
theorem d0_jumpsWithin_48 : decode b0_jumpsWithin 48 = .ok (.iload_n 2, 1) := by decide +kernel
theorem d0_jumpsWithin_49 : decode b0_jumpsWithin 49 = .ok (.iaload, 1) := by decide +kernel
theorem d0_jumpsWithin_50 : decode b0_jumpsWithin 50 = .ok (.invokevirtual 67, 3) := by decide +kernel
theorem d0_jumpsWithin_53 : decode b0_jumpsWithin 53 = .ok (.aload_n 0, 1) := by decide +kernel
theorem d0_jumpsWithin_54 : decode b0_jumpsWithin 54 = .ok (.iload_n 3, 1) := by decide +kernel
theorem d0_jumpsWithin_55 : decode b0_jumpsWithin 55 = .ok (.iconst 2, 1) := by decide +kernel
theorem d0_jumpsWithin_56 : decode b0_jumpsWithin 56 = .ok (.iadd, 1) := by decide +kernel
theorem d0_jumpsWithin_57 : decode b0_jumpsWithin 57 = .ok (.putfield 34, 3) := by decide +kernel
theorem d0_jumpsWithin_60 : decode b0_jumpsWithin 60 = .ok (.aload_n 0, 1) := by decide +kernel
theorem d0_jumpsWithin_61 : decode b0_jumpsWithin 61 = .ok (.iload_n 2, 1) := by decide +kernel
theorem d0_jumpsWithin_62 : decode b0_jumpsWithin 62 = .ok (.iconst 1, 1) := by decide +kernel
theorem d0_jumpsWithin_63 : decode b0_jumpsWithin 63 = .ok (.iadd, 1) := by decide +kernel
theorem d0_jumpsWithin_64 : decode b0_jumpsWithin 64 = .ok (.putfield 38, 3) := by decide +kernel
theorem d0_jumpsWithin_67 : decode b0_jumpsWithin 67 = .ok (.iconst 1, 1) := by decide +kernel
theorem d0_jumpsWithin_68 : decode b0_jumpsWithin 68 = .ok (.ireturn, 1) := by decide +kernel
theorem d0_jumpsWithin_69 : decode b0_jumpsWithin 69 = .ok (.aload_n 0, 1) := by decide +kernel
theorem d0_jumpsWithin_70 : decode b0_jumpsWithin 70 = .ok (.getfield 14, 3) := by decide +kernel
theorem d0_jumpsWithin_73 : decode b0_jumpsWithin 73 = .ok (.invokevirtual 56, 3) := by decide +kernel
theorem d0_jumpsWithin_76 : decode b0_jumpsWithin 76 = .ok (.iconst 1, 1) := by decide +kernel
theorem d0_jumpsWithin_77 : decode b0_jumpsWithin 77 = .ok (.isub, 1) := by decide +kernel
theorem d0_jumpsWithin_78 : decode b0_jumpsWithin 78 = .ok (.istore 4, 2) := by decide +kernel
theorem d0_jumpsWithin_80 : decode b0_jumpsWithin 80 = .ok (.aload_n 0, 1) := by decide +kernel
theorem d0_jumpsWithin_81 : decode b0_jumpsWithin 81 = .ok (.getfield 14, 3) := by decide +kernel
theorem d0_jumpsWithin_84 : decode b0_jumpsWithin 84 = .ok (.aload_n 0, 1) := by decide +kernel
theorem d0_jumpsWithin_85 : decode b0_jumpsWithin 85 = .ok (.getfield 27, 3) := by decide +kernel
theorem d0_jumpsWithin_88 : decode b0_jumpsWithin 88 = .ok (.iload_n 2, 1) := by decide +kernel
theorem d0_jumpsWithin_89 : decode b0_jumpsWithin 89 = .ok (.iaload, 1) := by decide +kernel
theorem d0_jumpsWithin_90 : decode b0_jumpsWithin 90 = .ok (.invokevirtual 67, 3) := by decide +kernel
theorem d0_jumpsWithin_93 : decode b0_jumpsWithin 93 = .ok (.aload_n 0, 1) := by decide +kernel
theorem d0_jumpsWithin_94 : decode b0_jumpsWithin 94 = .ok (.getfield 30, 3) := by decide +kernel
theorem d0_jumpsWithin_97 : decode b0_jumpsWithin 97 = .ok (.iload_n 3, 1) := by decide +kernel
theorem d0_jumpsWithin_98 : decode b0_jumpsWithin 98 = .ok (.iconst 1, 1) := by decide +kernel
theorem d0_jumpsWithin_99 : decode b0_jumpsWithin 99 = .ok (.iadd, 1) := by decide +kernel
theorem d0_jumpsWithin_100 : decode b0_jumpsWithin 100 = .ok (.invokevirtual 82, 3) := by decide +kernel
theorem d0_jumpsWithin_103 : decode b0_jumpsWithin 103 = .ok (.ifCond .eq 16, 3) := by decide +kernel
theorem d0_jumpsWithin_106 : decode b0_jumpsWithin 106 = .ok (.aload_n 0, 1) := by decide +kernel
theorem d0_jumpsWithin_107 : decode b0_jumpsWithin 107 = .ok (.getfield 14, 3) := by decide +kernel
theorem d0_jumpsWithin_110 : decode b0_jumpsWithin 110 = .ok (.aload_n 0, 1) := by decide +kernel
theorem d0_jumpsWithin_111 : decode b0_jumpsWithin 111 = .ok (.getfield 14, 3) := by decide +kernel
theorem d0_jumpsWithin_114 : decode b0_jumpsWithin 114 = .ok (.iload 4, 2) := by decide +kernel
theorem d0_jumpsWithin_116 : decode b0_jumpsWithin 116 = .ok (.invokevirtual 87, 3) := by decide +kernel
theorem d0_jumpsWithin_119 : decode b0_jumpsWithin 119 = .ok (.aload_n 0, 1) := by decide +kernel
theorem d0_jumpsWithin_120 : decode b0_jumpsWithin 120 = .ok (.aload_n 0, 1) := by decide +kernel
theorem d0_jumpsWithin_121 : decode b0_jumpsWithin 121 = .ok (.getfield 30, 3) := by decide +kernel
theorem d0_jumpsWithin_124 : decode b0_jumpsWithin 124 = .ok (.iload_n 3, 1) := by decide +kernel
theorem d0_jumpsWithin_125 : decode b0_jumpsWithin 125 = .ok (.invokevirtual 79, 3) := by decide +kernel
theorem d0_jumpsWithin_128 : decode b0_jumpsWithin 128 = .ok (.putfield 34, 3) := by decide +kernel
theorem d0_jumpsWithin_131 : decode b0_jumpsWithin 131 = .ok (.aload_n 0, 1) := by decide +kernel
theorem d0_jumpsWithin_132 : decode b0_jumpsWithin 132 = .ok (.iload_n 2, 1) := by decide +kernel
theorem d0_jumpsWithin_133 : decode b0_jumpsWithin 133 = .ok (.putfield 38, 3) := by decide +kernel
theorem d0_jumpsWithin_136 : decode b0_jumpsWithin 136 = .ok (.iconst 1, 1) := by decide +kernel
theorem d0_jumpsWithin_137 : decode b0_jumpsWithin 137 = .ok (.ireturn, 1) := by decide +kernel
theorem d1_init_0 : decode b1_init 0 = .ok (.aload_n 0, 1) := by decide +kernel
theorem d1_init_1 : decode b1_init 1 = .ok (.invokespecial 1, 3) := by decide +kernel
theorem d1_init_4 : decode b1_init 4 = .ok (.aload_n 0, 1) := by decide +kernel
theorem d1_init_5 : decode b1_init 5 = .ok (.iload_n 1, 1) := by decide +kernel
theorem d1_init_6 : decode b1_init 6 = .ok (.newarray .long, 2) := by decide +kernel
theorem d1_init_8 : decode b1_init 8 = .ok (.putfield 7, 3) := by decide +kernel
theorem d1_init_11 : decode b1_init 11 = .ok (.aload_n 0, 1) := by decide +kernel
theorem d1_init_12 : decode b1_init 12 = .ok (.iload_n 1, 1) := by decide +kernel
theorem d1_init_13 : decode b1_init 13 = .ok (.newarray .double, 2) := by decide +kernel
theorem d1_init_15 : decode b1_init 15 = .ok (.putfield 13, 3) := by decide +kernel
theorem d1_init_18 : decode b1_init 18 = .ok (.return_, 1) := by decide +kernel
theorem d1_clear_0 : decode b1_clear 0 = .ok (.iconst 0, 1) := by decide +kernel
theorem d1_clear_1 : decode b1_clear 1 = .ok (.istore_n 1, 1) := by decide +kernel
theorem d1_clear_2 : decode b1_clear 2 = .ok (.iload_n 1, 1) := by decide +kernel
theorem d1_clear_3 : decode b1_clear 3 = .ok (.aload_n 0, 1) := by decide +kernel
theorem d1_clear_4 : decode b1_clear 4 = .ok (.getfield 7, 3) := by decide +kernel
theorem d1_clear_7 : decode b1_clear 7 = .ok (.arraylength, 1) := by decide +kernel
theorem d1_clear_8 : decode b1_clear 8 = .ok (.if_icmp .ge 16, 3) := by decide +kernel
theorem d1_clear_11 : decode b1_clear 11 = .ok (.aload_n 0, 1) := by decide +kernel
theorem d1_clear_12 : decode b1_clear 12 = .ok (.iload_n 1, 1) := by decide +kernel
theorem d1_clear_13 : decode b1_clear 13 = .ok (.lconst 0, 1) := by decide +kernel
theorem d1_clear_14 : decode b1_clear 14 = .ok (.dconst 0, 1) := by decide +kernel
theorem d1_clear_15 : decode b1_clear 15 = .ok (.invokevirtual 17, 3) := by decide +kernel
theorem d1_clear_18 : decode b1_clear 18 = .ok (.iinc 1 1, 3) := by decide +kernel
theorem d1_clear_21 : decode b1_clear 21 = .ok (.goto (-19), 3) := by decide +kernel
theorem d1_clear_24 : decode b1_clear 24 = .ok (.aload_n 0, 1) := by decide +kernel
theorem d1_clear_25 : decode b1_clear 25 = .ok (.iconst 0, 1) := by decide +kernel
theorem d1_clear_26 : decode b1_clear 26 = .ok (.putfield 21, 3) := by decide +kernel
theorem d1_clear_29 : decode b1_clear 29 = .ok (.return_, 1) := by decide +kernel
theorem d1_height_0 : decode b1_height 0 = .ok (.aload_n 0, 1) := by decide +kernel
theorem d1_height_1 : decode b1_height 1 = .ok (.getfield 21, 3) := by decide +kernel
theorem d1_height_4 : decode b1_height 4 = .ok (.ireturn, 1) := by decide +kernel
theorem d1_numberAt_0 : decode b1_numberAt 0 = .ok (.iload_n 1, 1) := by decide +kernel
theorem d1_numberAt_1 : decode b1_numberAt 1 = .ok (.ifCond .lt 21, 3) := by decide +kernel
theorem d1_numberAt_4 : decode b1_numberAt 4 = .ok (.iload_n 1, 1) := by decide +kernel
theorem d1_numberAt_5 : decode b1_numberAt 5 = .ok (.aload_n 0, 1) := by decide +kernel
theorem d1_numberAt_6 : decode b1_numberAt 6 = .ok (.getfield 7, 3) := by decide +kernel
theorem d1_numberAt_9 : decode b1_numberAt 9 = .ok (.arraylength, 1) := by decide +kernel
theorem d1_numberAt_10 : decode b1_numberAt 10 = .ok (.if_icmp .ge 12, 3) := by decide +kernel
theorem d1_numberAt_13 : decode b1_numberAt 13 = .ok (.aload_n 0, 1) := by decide +kernel
theorem d1_numberAt_14 : decode b1_numberAt 14 = .ok (.getfield 7, 3) := by decide +kernel
theorem d1_numberAt_17 : decode b1_numberAt 17 = .ok (.iload_n 1, 1) := by decide +kernel
theorem d1_numberAt_18 : decode b1_numberAt 18 = .ok (.laload, 1) := by decide +kernel
theorem d1_numberAt_19 : decode b1_numberAt 19 = .ok (.goto 4, 3) := by decide +kernel
theorem d1_numberAt_22 : decode b1_numberAt 22 = .ok (.lconst 0, 1) := by decide +kernel
theorem d1_numberAt_23 : decode b1_numberAt 23 = .ok (.lreturn, 1) := by decide +kernel
theorem d1_realAt_0 : decode b1_realAt 0 = .ok (.iload_n 1, 1) := by decide +kernel
theorem d1_realAt_1 : decode b1_realAt 1 = .ok (.ifCond .lt 21, 3) := by decide +kernel
theorem d1_realAt_4 : decode b1_realAt 4 = .ok (.iload_n 1, 1) := by decide +kernel
theorem d1_realAt_5 : decode b1_realAt 5 = .ok (.aload_n 0, 1) := by decide +kernel
theorem d1_realAt_6 : decode b1_realAt 6 = .ok (.getfield 13, 3) := by decide +kernel
theorem d1_realAt_9 : decode b1_realAt 9 = .ok (.arraylength, 1) := by decide +kernel
theorem d1_realAt_10 : decode b1_realAt 10 = .ok (.if_icmp .ge 12, 3) := by decide +kernel
theorem d1_realAt_13 : decode b1_realAt 13 = .ok (.aload_n 0, 1) := by decide +kernel
theorem d1_realAt_14 : decode b1_realAt 14 = .ok (.getfield 13, 3) := by decide +kernel
theorem d1_realAt_17 : decode b1_realAt 17 = .ok (.iload_n 1, 1) := by decide +kernel
theorem d1_realAt_18 : decode b1_realAt 18 = .ok (.daload, 1) := by decide +kernel
theorem d1_realAt_19 : decode b1_realAt 19 = .ok (.goto 4, 3) := by decide +kernel
theorem d1_realAt_22 : decode b1_realAt 22 = .ok (.dconst 0, 1) := by decide +kernel
theorem d1_realAt_23 : decode b1_realAt 23 = .ok (.dreturn, 1) := by decide +kernel
theorem d1_set_0 : decode b1_set 0 = .ok (.iload_n 1, 1) := by decide +kernel
theorem d1_set_1 : decode b1_set 1 = .ok (.ifCond .lt 36, 3) := by decide +kernel
theorem d1_set_4 : decode b1_set 4 = .ok (.iload_n 1, 1) := by decide +kernel
theorem d1_set_5 : decode b1_set 5 = .ok (.aload_n 0, 1) := by decide +kernel
theorem d1_set_6 : decode b1_set 6 = .ok (.getfield 7, 3) := by decide +kernel
theorem d1_set_9 : decode b1_set 9 = .ok (.arraylength, 1) := by decide +kernel
theorem d1_set_10 : decode b1_set 10 = .ok (.if_icmp .ge 27, 3) := by decide +kernel
theorem d1_set_13 : decode b1_set 13 = .ok (.iload_n 1, 1) := by decide +kernel
theorem d1_set_14 : decode b1_set 14 = .ok (.aload_n 0, 1) := by decide +kernel
theorem d1_set_15 : decode b1_set 15 = .ok (.getfield 13, 3) := by decide +kernel
theorem d1_set_18 : decode b1_set 18 = .ok (.arraylength, 1) := by decide +kernel
theorem d1_set_19 : decode b1_set 19 = .ok (.if_icmp .ge 18, 3) := by decide +kernel
theorem d1_set_22 : decode b1_set 22 = .ok (.aload_n 0, 1) := by decide +kernel
theorem d1_set_23 : decode b1_set 23 = .ok (.getfield 7, 3) := by decide +kernel
theorem d1_set_26 : decode b1_set 26 = .ok (.iload_n 1, 1) := by decide +kernel
theorem d1_set_27 : decode b1_set 27 = .ok (.lload_n 2, 1) := by decide +kernel
theorem d1_set_28 : decode b1_set 28 = .ok (.lastore, 1) := by decide +kernel
theorem d1_set_29 : decode b1_set 29 = .ok (.aload_n 0, 1) := by decide +kernel
theorem d1_set_30 : decode b1_set 30 = .ok (.getfield 13, 3) := by decide +kernel
theorem d1_set_33 : decode b1_set 33 = .ok (.iload_n 1, 1) := by decide +kernel
theorem d1_set_34 : decode b1_set 34 = .ok (.dload 4, 2) := by decide +kernel
theorem d1_set_36 : decode b1_set 36 = .ok (.dastore, 1) := by decide +kernel
theorem d1_set_37 : decode b1_set 37 = .ok (.return_, 1) := by decide +kernel
theorem d1_setFrom_0 : decode b1_setFrom 0 = .ok (.aload_n 0, 1) := by decide +kernel
theorem d1_setFrom_1 : decode b1_setFrom 1 = .ok (.iload_n 1, 1) := by decide +kernel
theorem d1_setFrom_2 : decode b1_setFrom 2 = .ok (.aload_n 2, 1) := by decide +kernel
theorem d1_setFrom_3 : decode b1_setFrom 3 = .ok (.iload_n 3, 1) := by decide +kernel
theorem d1_setFrom_4 : decode b1_setFrom 4 = .ok (.invokevirtual 25, 3) := by decide +kernel
theorem d1_setFrom_7 : decode b1_setFrom 7 = .ok (.aload_n 2, 1) := by decide +kernel
theorem d1_setFrom_8 : decode b1_setFrom 8 = .ok (.iload_n 3, 1) := by decide +kernel
theorem d1_setFrom_9 : decode b1_setFrom 9 = .ok (.invokevirtual 29, 3) := by decide +kernel
theorem d1_setFrom_12 : decode b1_setFrom 12 = .ok (.invokevirtual 17, 3) := by decide +kernel
theorem d1_setFrom_15 : decode b1_setFrom 15 = .ok (.return_, 1) := by decide +kernel
theorem d1_put_0 : decode b1_put 0 = .ok (.aload_n 0, 1) := by decide +kernel
theorem d1_put_1 : decode b1_put 1 = .ok (.getfield 21, 3) := by decide +kernel
theorem d1_put_4 : decode b1_put 4 = .ok (.ifCond .lt 57, 3) := by decide +kernel
theorem d1_put_7 : decode b1_put 7 = .ok (.aload_n 0, 1) := by decide +kernel
theorem d1_put_8 : decode b1_put 8 = .ok (.getfield 21, 3) := by decide +kernel
theorem d1_put_11 : decode b1_put 11 = .ok (.aload_n 0, 1) := by decide +kernel
theorem d1_put_12 : decode b1_put 12 = .ok (.getfield 7, 3) := by decide +kernel
theorem d1_put_15 : decode b1_put 15 = .ok (.arraylength, 1) := by decide +kernel
theorem d1_put_16 : decode b1_put 16 = .ok (.if_icmp .ge 45, 3) := by decide +kernel
theorem d1_put_19 : decode b1_put 19 = .ok (.aload_n 0, 1) := by decide +kernel
theorem d1_put_20 : decode b1_put 20 = .ok (.getfield 21, 3) := by decide +kernel
theorem d1_put_23 : decode b1_put 23 = .ok (.aload_n 0, 1) := by decide +kernel
theorem d1_put_24 : decode b1_put 24 = .ok (.getfield 13, 3) := by decide +kernel
theorem d1_put_27 : decode b1_put 27 = .ok (.arraylength, 1) := by decide +kernel
theorem d1_put_28 : decode b1_put 28 = .ok (.if_icmp .ge 33, 3) := by decide +kernel
theorem d1_put_31 : decode b1_put 31 = .ok (.aload_n 0, 1) := by decide +kernel
theorem d1_put_32 : decode b1_put 32 = .ok (.getfield 7, 3) := by decide +kernel
theorem d1_put_35 : decode b1_put 35 = .ok (.aload_n 0, 1) := by decide +kernel
theorem d1_put_36 : decode b1_put 36 = .ok (.getfield 21, 3) := by decide +kernel
theorem d1_put_39 : decode b1_put 39 = .ok (.lload_n 1, 1) := by decide +kernel
theorem d1_put_40 : decode b1_put 40 = .ok (.lastore, 1) := by decide +kernel
theorem d1_put_41 : decode b1_put 41 = .ok (.aload_n 0, 1) := by decide +kernel
theorem d1_put_42 : decode b1_put 42 = .ok (.getfield 13, 3) := by decide +kernel
theorem d1_put_45 : decode b1_put 45 = .ok (.aload_n 0, 1) := by decide +kernel
theorem d1_put_46 : decode b1_put 46 = .ok (.getfield 21, 3) := by decide +kernel
theorem d1_put_49 : decode b1_put 49 = .ok (.dload_n 3, 1) := by decide +kernel
theorem d1_put_50 : decode b1_put 50 = .ok (.dastore, 1) := by decide +kernel
theorem d1_put_51 : decode b1_put 51 = .ok (.aload_n 0, 1) := by decide +kernel
theorem d1_put_52 : decode b1_put 52 = .ok (.dup, 1) := by decide +kernel
theorem d1_put_53 : decode b1_put 53 = .ok (.getfield 21, 3) := by decide +kernel
theorem d1_put_56 : decode b1_put 56 = .ok (.iconst 1, 1) := by decide +kernel
theorem d1_put_57 : decode b1_put 57 = .ok (.iadd, 1) := by decide +kernel
theorem d1_put_58 : decode b1_put 58 = .ok (.putfield 21, 3) := by decide +kernel
theorem d1_put_61 : decode b1_put 61 = .ok (.return_, 1) := by decide +kernel
theorem d1_putNumber_0 : decode b1_putNumber 0 = .ok (.aload_n 0, 1) := by decide +kernel
theorem d1_putNumber_1 : decode b1_putNumber 1 = .ok (.lload_n 1, 1) := by decide +kernel
theorem d1_putNumber_2 : decode b1_putNumber 2 = .ok (.dconst 0, 1) := by decide +kernel
theorem d1_putNumber_3 : decode b1_putNumber 3 = .ok (.invokevirtual 33, 3) := by decide +kernel
theorem d1_putNumber_6 : decode b1_putNumber 6 = .ok (.return_, 1) := by decide +kernel
theorem d1_putReal_0 : decode b1_putReal 0 = .ok (.aload_n 0, 1) := by decide +kernel
theorem d1_putReal_1 : decode b1_putReal 1 = .ok (.lconst 0, 1) := by decide +kernel
theorem d1_putReal_2 : decode b1_putReal 2 = .ok (.dload_n 1, 1) := by decide +kernel
theorem d1_putReal_3 : decode b1_putReal 3 = .ok (.invokevirtual 33, 3) := by decide +kernel
theorem d1_putReal_6 : decode b1_putReal 6 = .ok (.return_, 1) := by decide +kernel
theorem d1_putTruth_0 : decode b1_putTruth 0 = .ok (.aload_n 0, 1) := by decide +kernel
theorem d1_putTruth_1 : decode b1_putTruth 1 = .ok (.iload_n 1, 1) := by decide +kernel
theorem d1_putTruth_2 : decode b1_putTruth 2 = .ok (.ifCond .eq 7, 3) := by decide +kernel
theorem d1_putTruth_5 : decode b1_putTruth 5 = .ok (.lconst 1, 1) := by decide +kernel
theorem d1_putTruth_6 : decode b1_putTruth 6 = .ok (.goto 4, 3) := by decide +kernel
theorem d1_putTruth_9 : decode b1_putTruth 9 = .ok (.lconst 0, 1) := by decide +kernel
theorem d1_putTruth_10 : decode b1_putTruth 10 = .ok (.dconst 0, 1) := by decide +kernel
theorem d1_putTruth_11 : decode b1_putTruth 11 = .ok (.invokevirtual 33, 3) := by decide +kernel
theorem d1_putTruth_14 : decode b1_putTruth 14 = .ok (.return_, 1) := by decide +kernel
theorem d1_putFrom_0 : decode b1_putFrom 0 = .ok (.aload_n 0, 1) := by decide +kernel
theorem d1_putFrom_1 : decode b1_putFrom 1 = .ok (.aload_n 1, 1) := by decide +kernel
theorem d1_putFrom_2 : decode b1_putFrom 2 = .ok (.iload_n 2, 1) := by decide +kernel
theorem d1_putFrom_3 : decode b1_putFrom 3 = .ok (.invokevirtual 25, 3) := by decide +kernel
theorem d1_putFrom_6 : decode b1_putFrom 6 = .ok (.aload_n 1, 1) := by decide +kernel
theorem d1_putFrom_7 : decode b1_putFrom 7 = .ok (.iload_n 2, 1) := by decide +kernel
theorem d1_putFrom_8 : decode b1_putFrom 8 = .ok (.invokevirtual 29, 3) := by decide +kernel
theorem d1_putFrom_11 : decode b1_putFrom 11 = .ok (.invokevirtual 33, 3) := by decide +kernel
theorem d1_putFrom_14 : decode b1_putFrom 14 = .ok (.return_, 1) := by decide +kernel
theorem d1_takeNumber_0 : decode b1_takeNumber 0 = .ok (.aload_n 0, 1) := by decide +kernel
theorem d1_takeNumber_1 : decode b1_takeNumber 1 = .ok (.invokevirtual 37, 3) := by decide +kernel
theorem d1_takeNumber_4 : decode b1_takeNumber 4 = .ok (.aload_n 0, 1) := by decide +kernel
theorem d1_takeNumber_5 : decode b1_takeNumber 5 = .ok (.aload_n 0, 1) := by decide +kernel
theorem d1_takeNumber_6 : decode b1_takeNumber 6 = .ok (.getfield 21, 3) := by decide +kernel
theorem d1_takeNumber_9 : decode b1_takeNumber 9 = .ok (.invokevirtual 25, 3) := by decide +kernel
theorem d1_takeNumber_12 : decode b1_takeNumber 12 = .ok (.lreturn, 1) := by decide +kernel
theorem d1_takeInt_0 : decode b1_takeInt 0 = .ok (.aload_n 0, 1) := by decide +kernel
theorem d1_takeInt_1 : decode b1_takeInt 1 = .ok (.invokevirtual 40, 3) := by decide +kernel
theorem d1_takeInt_4 : decode b1_takeInt 4 = .ok (.l2i, 1) := by decide +kernel
theorem d1_takeInt_5 : decode b1_takeInt 5 = .ok (.ireturn, 1) := by decide +kernel
theorem d1_takeReal_0 : decode b1_takeReal 0 = .ok (.aload_n 0, 1) := by decide +kernel
theorem d1_takeReal_1 : decode b1_takeReal 1 = .ok (.invokevirtual 37, 3) := by decide +kernel
theorem d1_takeReal_4 : decode b1_takeReal 4 = .ok (.aload_n 0, 1) := by decide +kernel
theorem d1_takeReal_5 : decode b1_takeReal 5 = .ok (.aload_n 0, 1) := by decide +kernel
theorem d1_takeReal_6 : decode b1_takeReal 6 = .ok (.getfield 21, 3) := by decide +kernel
theorem d1_takeReal_9 : decode b1_takeReal 9 = .ok (.invokevirtual 29, 3) := by decide +kernel
theorem d1_takeReal_12 : decode b1_takeReal 12 = .ok (.dreturn, 1) := by decide +kernel
theorem d1_drop_0 : decode b1_drop 0 = .ok (.aload_n 0, 1) := by decide +kernel
theorem d1_drop_1 : decode b1_drop 1 = .ok (.getfield 21, 3) := by decide +kernel
theorem d1_drop_4 : decode b1_drop 4 = .ok (.ifCond .le 13, 3) := by decide +kernel
theorem d1_drop_7 : decode b1_drop 7 = .ok (.aload_n 0, 1) := by decide +kernel
theorem d1_drop_8 : decode b1_drop 8 = .ok (.dup, 1) := by decide +kernel
theorem d1_drop_9 : decode b1_drop 9 = .ok (.getfield 21, 3) := by decide +kernel
theorem d1_drop_12 : decode b1_drop 12 = .ok (.iconst 1, 1) := by decide +kernel
theorem d1_drop_13 : decode b1_drop 13 = .ok (.isub, 1) := by decide +kernel
theorem d1_drop_14 : decode b1_drop 14 = .ok (.putfield 21, 3) := by decide +kernel
theorem d1_drop_17 : decode b1_drop 17 = .ok (.return_, 1) := by decide +kernel
theorem d1_cutTo_0 : decode b1_cutTo 0 = .ok (.iload_n 1, 1) := by decide +kernel
theorem d1_cutTo_1 : decode b1_cutTo 1 = .ok (.ifCond .lt 16, 3) := by decide +kernel
theorem d1_cutTo_4 : decode b1_cutTo 4 = .ok (.iload_n 1, 1) := by decide +kernel
theorem d1_cutTo_5 : decode b1_cutTo 5 = .ok (.aload_n 0, 1) := by decide +kernel
theorem d1_cutTo_6 : decode b1_cutTo 6 = .ok (.getfield 21, 3) := by decide +kernel
theorem d1_cutTo_9 : decode b1_cutTo 9 = .ok (.if_icmp .ge 8, 3) := by decide +kernel
theorem d1_cutTo_12 : decode b1_cutTo 12 = .ok (.aload_n 0, 1) := by decide +kernel
theorem d1_cutTo_13 : decode b1_cutTo 13 = .ok (.iload_n 1, 1) := by decide +kernel
theorem d1_cutTo_14 : decode b1_cutTo 14 = .ok (.putfield 21, 3) := by decide +kernel
theorem d1_cutTo_17 : decode b1_cutTo 17 = .ok (.return_, 1) := by decide +kernel
theorem d2_init_0 : decode b2_init 0 = .ok (.aload_n 0, 1) := by decide +kernel
theorem d2_init_1 : decode b2_init 1 = .ok (.invokespecial 3, 3) := by decide +kernel
theorem d2_init_4 : decode b2_init 4 = .ok (.aload_n 0, 1) := by decide +kernel
theorem d2_init_5 : decode b2_init 5 = .ok (.bipush 16, 2) := by decide +kernel
theorem d2_init_7 : decode b2_init 7 = .ok (.newarray .int, 2) := by decide +kernel
theorem d2_init_9 : decode b2_init 9 = .ok (.putfield 9, 3) := by decide +kernel
theorem d2_init_12 : decode b2_init 12 = .ok (.aload_n 0, 1) := by decide +kernel
theorem d2_init_13 : decode b2_init 13 = .ok (.bipush 8, 2) := by decide +kernel
theorem d2_init_15 : decode b2_init 15 = .ok (.anewarray 15, 3) := by decide +kernel
theorem d2_init_18 : decode b2_init 18 = .ok (.putfield 17, 3) := by decide +kernel
theorem d2_init_21 : decode b2_init 21 = .ok (.aload_n 0, 1) := by decide +kernel
theorem d2_init_22 : decode b2_init 22 = .ok (.aload_n 1, 1) := by decide +kernel
theorem d2_init_23 : decode b2_init 23 = .ok (.putfield 21, 3) := by decide +kernel
theorem d2_init_26 : decode b2_init 26 = .ok (.iconst 0, 1) := by decide +kernel
theorem d2_init_27 : decode b2_init 27 = .ok (.istore_n 2, 1) := by decide +kernel
theorem d2_init_28 : decode b2_init 28 = .ok (.iload_n 2, 1) := by decide +kernel
theorem d2_init_29 : decode b2_init 29 = .ok (.bipush 8, 2) := by decide +kernel
theorem d2_init_31 : decode b2_init 31 = .ok (.if_icmp .ge 22, 3) := by decide +kernel
theorem d2_init_34 : decode b2_init 34 = .ok (.aload_n 0, 1) := by decide +kernel
theorem d2_init_35 : decode b2_init 35 = .ok (.getfield 17, 3) := by decide +kernel
theorem d2_init_38 : decode b2_init 38 = .ok (.iload_n 2, 1) := by decide +kernel
theorem d2_init_39 : decode b2_init 39 = .ok (.new 15, 3) := by decide +kernel
theorem d2_init_42 : decode b2_init 42 = .ok (.dup, 1) := by decide +kernel
theorem d2_init_43 : decode b2_init 43 = .ok (.invokespecial 25, 3) := by decide +kernel
theorem d2_init_46 : decode b2_init 46 = .ok (.aastore, 1) := by decide +kernel
theorem d2_init_47 : decode b2_init 47 = .ok (.iinc 2 1, 3) := by decide +kernel
theorem d2_init_50 : decode b2_init 50 = .ok (.goto (-22), 3) := by decide +kernel
theorem d2_init_53 : decode b2_init 53 = .ok (.aload_n 0, 1) := by decide +kernel
theorem d2_init_54 : decode b2_init 54 = .ok (.aload_n 1, 1) := by decide +kernel
theorem d2_init_55 : decode b2_init 55 = .ok (.iconst 0, 1) := by decide +kernel
theorem d2_init_56 : decode b2_init 56 = .ok (.aaload, 1) := by decide +kernel
theorem d2_init_57 : decode b2_init 57 = .ok (.putfield 26, 3) := by decide +kernel
theorem d2_init_60 : decode b2_init 60 = .ok (.aload_n 0, 1) := by decide +kernel
theorem d2_init_61 : decode b2_init 61 = .ok (.aload_n 0, 1) := by decide +kernel
theorem d2_init_62 : decode b2_init 62 = .ok (.getfield 17, 3) := by decide +kernel
theorem d2_init_65 : decode b2_init 65 = .ok (.iconst 0, 1) := by decide +kernel
theorem d2_init_66 : decode b2_init 66 = .ok (.aaload, 1) := by decide +kernel
theorem d2_init_67 : decode b2_init 67 = .ok (.putfield 30, 3) := by decide +kernel
theorem d2_init_70 : decode b2_init 70 = .ok (.return_, 1) := by decide +kernel
theorem d2_faultIn_0 : decode b2_faultIn 0 = .ok (.aload_n 0, 1) := by decide +kernel
theorem d2_faultIn_1 : decode b2_faultIn 1 = .ok (.aload_n 1, 1) := by decide +kernel
theorem d2_faultIn_2 : decode b2_faultIn 2 = .ok (.putfield 26, 3) := by decide +kernel
theorem d2_faultIn_5 : decode b2_faultIn 5 = .ok (.aload_n 0, 1) := by decide +kernel
theorem d2_faultIn_6 : decode b2_faultIn 6 = .ok (.iconst 0, 1) := by decide +kernel
theorem d2_faultIn_7 : decode b2_faultIn 7 = .ok (.putfield 34, 3) := by decide +kernel
theorem d2_faultIn_10 : decode b2_faultIn 10 = .ok (.aload_n 0, 1) := by decide +kernel
theorem d2_faultIn_11 : decode b2_faultIn 11 = .ok (.iconst 0, 1) := by decide +kernel
theorem d2_faultIn_12 : decode b2_faultIn 12 = .ok (.putfield 38, 3) := by decide +kernel
theorem d2_faultIn_15 : decode b2_faultIn 15 = .ok (.aload_n 0, 1) := by decide +kernel
theorem d2_faultIn_16 : decode b2_faultIn 16 = .ok (.iconst 0, 1) := by decide +kernel
theorem d2_faultIn_17 : decode b2_faultIn 17 = .ok (.putfield 41, 3) := by decide +kernel
theorem d2_faultIn_20 : decode b2_faultIn 20 = .ok (.aload_n 0, 1) := by decide +kernel
theorem d2_faultIn_21 : decode b2_faultIn 21 = .ok (.iconst (-1), 1) := by decide +kernel
theorem d2_faultIn_22 : decode b2_faultIn 22 = .ok (.iconst 2, 1) := by decide +kernel
theorem d2_faultIn_23 : decode b2_faultIn 23 = .ok (.aload_n 0, 1) := by decide +kernel
theorem d2_faultIn_24 : decode b2_faultIn 24 = .ok (.getfield 26, 3) := by decide +kernel
theorem d2_faultIn_27 : decode b2_faultIn 27 = .ok (.invokevirtual 47, 3) := by decide +kernel
theorem d2_faultIn_30 : decode b2_faultIn 30 = .ok (.invokevirtual 53, 3) := by decide +kernel
theorem d2_faultIn_33 : decode b2_faultIn 33 = .ok (.iconst 0, 1) := by decide +kernel
theorem d2_faultIn_34 : decode b2_faultIn 34 = .ok (.istore_n 2, 1) := by decide +kernel
theorem d2_faultIn_35 : decode b2_faultIn 35 = .ok (.iconst 0, 1) := by decide +kernel
theorem d2_faultIn_36 : decode b2_faultIn 36 = .ok (.istore_n 3, 1) := by decide +kernel
theorem d2_faultIn_37 : decode b2_faultIn 37 = .ok (.iload_n 3, 1) := by decide +kernel
theorem d2_faultIn_38 : decode b2_faultIn 38 = .ok (.bipush 60, 2) := by decide +kernel
theorem d2_faultIn_40 : decode b2_faultIn 40 = .ok (.if_icmp .ge 85, 3) := by decide +kernel
theorem d2_faultIn_43 : decode b2_faultIn 43 = .ok (.iload_n 2, 1) := by decide +kernel
theorem d2_faultIn_44 : decode b2_faultIn 44 = .ok (.aload_n 0, 1) := by decide +kernel
theorem d2_faultIn_45 : decode b2_faultIn 45 = .ok (.getfield 26, 3) := by decide +kernel
theorem d2_faultIn_48 : decode b2_faultIn 48 = .ok (.invokevirtual 57, 3) := by decide +kernel
theorem d2_faultIn_51 : decode b2_faultIn 51 = .ok (.if_icmp .ge 74, 3) := by decide +kernel
theorem d2_faultIn_54 : decode b2_faultIn 54 = .ok (.aload_n 0, 1) := by decide +kernel
theorem d2_faultIn_55 : decode b2_faultIn 55 = .ok (.getfield 26, 3) := by decide +kernel
theorem d2_faultIn_58 : decode b2_faultIn 58 = .ok (.iload_n 2, 1) := by decide +kernel
theorem d2_faultIn_59 : decode b2_faultIn 59 = .ok (.invokevirtual 60, 3) := by decide +kernel
theorem d2_faultIn_62 : decode b2_faultIn 62 = .ok (.istore 4, 2) := by decide +kernel
theorem d2_faultIn_64 : decode b2_faultIn 64 = .ok (.aload_n 0, 1) := by decide +kernel
theorem d2_faultIn_65 : decode b2_faultIn 65 = .ok (.getfield 38, 3) := by decide +kernel
theorem d2_faultIn_68 : decode b2_faultIn 68 = .ok (.ifCond .eq 8, 3) := by decide +kernel
theorem d2_faultIn_71 : decode b2_faultIn 71 = .ok (.iload 4, 2) := by decide +kernel
theorem d2_faultIn_73 : decode b2_faultIn 73 = .ok (.ifCond .ne 5, 3) := by decide +kernel
theorem d2_faultIn_76 : decode b2_faultIn 76 = .ok (.iload_n 2, 1) := by decide +kernel
theorem d2_faultIn_77 : decode b2_faultIn 77 = .ok (.ireturn, 1) := by decide +kernel
theorem d2_faultIn_78 : decode b2_faultIn 78 = .ok (.iload_n 2, 1) := by decide +kernel
theorem d2_faultIn_79 : decode b2_faultIn 79 = .ok (.iload 4, 2) := by decide +kernel
theorem d2_faultIn_81 : decode b2_faultIn 81 = .ok (.iadd, 1) := by decide +kernel
theorem d2_faultIn_82 : decode b2_faultIn 82 = .ok (.aload_n 0, 1) := by decide +kernel
theorem d2_faultIn_83 : decode b2_faultIn 83 = .ok (.getfield 26, 3) := by decide +kernel
theorem d2_faultIn_86 : decode b2_faultIn 86 = .ok (.invokevirtual 57, 3) := by decide +kernel
theorem d2_faultIn_89 : decode b2_faultIn 89 = .ok (.if_icmp .le 11, 3) := by decide +kernel
theorem d2_faultIn_92 : decode b2_faultIn 92 = .ok (.aload_n 0, 1) := by decide +kernel
theorem d2_faultIn_93 : decode b2_faultIn 93 = .ok (.getfield 26, 3) := by decide +kernel
theorem d2_faultIn_96 : decode b2_faultIn 96 = .ok (.invokevirtual 57, 3) := by decide +kernel
theorem d2_faultIn_99 : decode b2_faultIn 99 = .ok (.ireturn, 1) := by decide +kernel
theorem d2_faultIn_100 : decode b2_faultIn 100 = .ok (.aload_n 0, 1) := by decide +kernel
theorem d2_faultIn_101 : decode b2_faultIn 101 = .ok (.iload_n 2, 1) := by decide +kernel
theorem d2_faultIn_102 : decode b2_faultIn 102 = .ok (.invokevirtual 64, 3) := by decide +kernel
theorem d2_faultIn_105 : decode b2_faultIn 105 = .ok (.aload_n 0, 1) := by decide +kernel
theorem d2_faultIn_106 : decode b2_faultIn 106 = .ok (.getfield 41, 3) := by decide +kernel
theorem d2_faultIn_109 : decode b2_faultIn 109 = .ok (.ifCond .eq 5, 3) := by decide +kernel
theorem d2_faultIn_112 : decode b2_faultIn 112 = .ok (.iload_n 2, 1) := by decide +kernel
theorem d2_faultIn_113 : decode b2_faultIn 113 = .ok (.ireturn, 1) := by decide +kernel
theorem d2_faultIn_114 : decode b2_faultIn 114 = .ok (.iload_n 2, 1) := by decide +kernel
theorem d2_faultIn_115 : decode b2_faultIn 115 = .ok (.iload 4, 2) := by decide +kernel
theorem d2_faultIn_117 : decode b2_faultIn 117 = .ok (.iadd, 1) := by decide +kernel
theorem d2_faultIn_118 : decode b2_faultIn 118 = .ok (.istore_n 2, 1) := by decide +kernel
theorem d2_faultIn_119 : decode b2_faultIn 119 = .ok (.iinc 3 1, 3) := by decide +kernel
theorem d2_faultIn_122 : decode b2_faultIn 122 = .ok (.goto (-85), 3) := by decide +kernel
theorem d2_faultIn_125 : decode b2_faultIn 125 = .ok (.aload_n 0, 1) := by decide +kernel
theorem d2_faultIn_126 : decode b2_faultIn 126 = .ok (.getfield 38, 3) := by decide +kernel
theorem d2_faultIn_129 : decode b2_faultIn 129 = .ok (.ifCond .ne 7, 3) := by decide +kernel
theorem d2_faultIn_132 : decode b2_faultIn 132 = .ok (.iconst (-1), 1) := by decide +kernel
theorem d2_faultIn_133 : decode b2_faultIn 133 = .ok (.goto 10, 3) := by decide +kernel
theorem d2_faultIn_136 : decode b2_faultIn 136 = .ok (.aload_n 0, 1) := by decide +kernel
theorem d2_faultIn_137 : decode b2_faultIn 137 = .ok (.getfield 26, 3) := by decide +kernel
theorem d2_faultIn_140 : decode b2_faultIn 140 = .ok (.invokevirtual 57, 3) := by decide +kernel
theorem d2_faultIn_143 : decode b2_faultIn 143 = .ok (.ireturn, 1) := by decide +kernel
theorem d2_goOver_0 : decode b2_goOver 0 = .ok (.aload_n 0, 1) := by decide +kernel
theorem d2_goOver_1 : decode b2_goOver 1 = .ok (.getfield 26, 3) := by decide +kernel
theorem d2_goOver_4 : decode b2_goOver 4 = .ok (.iload_n 1, 1) := by decide +kernel
theorem d2_goOver_5 : decode b2_goOver 5 = .ok (.invokevirtual 68, 3) := by decide +kernel
theorem d2_goOver_8 : decode b2_goOver 8 = .ok (.istore_n 2, 1) := by decide +kernel
theorem d2_goOver_9 : decode b2_goOver 9 = .ok (.aload_n 0, 1) := by decide +kernel
theorem d2_goOver_10 : decode b2_goOver 10 = .ok (.getfield 26, 3) := by decide +kernel
theorem d2_goOver_13 : decode b2_goOver 13 = .ok (.iload_n 1, 1) := by decide +kernel
theorem d2_goOver_14 : decode b2_goOver 14 = .ok (.iconst 1, 1) := by decide +kernel
theorem d2_goOver_15 : decode b2_goOver 15 = .ok (.iadd, 1) := by decide +kernel
theorem d2_goOver_16 : decode b2_goOver 16 = .ok (.invokevirtual 68, 3) := by decide +kernel
theorem d2_goOver_19 : decode b2_goOver 19 = .ok (.istore_n 3, 1) := by decide +kernel
theorem d2_goOver_20 : decode b2_goOver 20 = .ok (.iload_n 2, 1) := by decide +kernel
theorem d2_goOver_21 : decode b2_goOver 21 = .ok (.bipush 6, 2) := by decide +kernel
theorem d2_goOver_23 : decode b2_goOver 23 = .ok (.if_icmp .gt 13, 3) := by decide +kernel
theorem d2_goOver_26 : decode b2_goOver 26 = .ok (.aload_n 0, 1) := by decide +kernel
theorem d2_goOver_27 : decode b2_goOver 27 = .ok (.iload_n 1, 1) := by decide +kernel
theorem d2_goOver_28 : decode b2_goOver 28 = .ok (.iload_n 2, 1) := by decide +kernel
theorem d2_goOver_29 : decode b2_goOver 29 = .ok (.iload_n 3, 1) := by decide +kernel
theorem d2_goOver_30 : decode b2_goOver 30 = .ok (.invokevirtual 71, 3) := by decide +kernel
theorem d2_goOver_33 : decode b2_goOver 33 = .ok (.goto 42, 3) := by decide +kernel
theorem d2_goOver_36 : decode b2_goOver 36 = .ok (.iload_n 2, 1) := by decide +kernel
theorem d2_goOver_37 : decode b2_goOver 37 = .ok (.bipush 10, 2) := by decide +kernel
theorem d2_goOver_39 : decode b2_goOver 39 = .ok (.if_icmp .gt 13, 3) := by decide +kernel
theorem d2_goOver_42 : decode b2_goOver 42 = .ok (.aload_n 0, 1) := by decide +kernel
theorem d2_goOver_43 : decode b2_goOver 43 = .ok (.iload_n 1, 1) := by decide +kernel
theorem d2_goOver_44 : decode b2_goOver 44 = .ok (.iload_n 2, 1) := by decide +kernel
theorem d2_goOver_45 : decode b2_goOver 45 = .ok (.iload_n 3, 1) := by decide +kernel
theorem d2_goOver_46 : decode b2_goOver 46 = .ok (.invokevirtual 74, 3) := by decide +kernel
theorem d2_goOver_49 : decode b2_goOver 49 = .ok (.goto 26, 3) := by decide +kernel
theorem d2_goOver_52 : decode b2_goOver 52 = .ok (.iload_n 2, 1) := by decide +kernel
theorem d2_goOver_53 : decode b2_goOver 53 = .ok (.bipush 19, 2) := by decide +kernel
theorem d2_goOver_55 : decode b2_goOver 55 = .ok (.if_icmp .gt 12, 3) := by decide +kernel
theorem d2_goOver_58 : decode b2_goOver 58 = .ok (.aload_n 0, 1) := by decide +kernel
theorem d2_goOver_59 : decode b2_goOver 59 = .ok (.iload_n 2, 1) := by decide +kernel
theorem d2_goOver_60 : decode b2_goOver 60 = .ok (.iload_n 3, 1) := by decide +kernel
theorem d2_goOver_61 : decode b2_goOver 61 = .ok (.invokevirtual 77, 3) := by decide +kernel
theorem d2_goOver_64 : decode b2_goOver 64 = .ok (.goto 11, 3) := by decide +kernel
theorem d2_goOver_67 : decode b2_goOver 67 = .ok (.aload_n 0, 1) := by decide +kernel
theorem d2_goOver_68 : decode b2_goOver 68 = .ok (.iload_n 2, 1) := by decide +kernel
theorem d2_goOver_69 : decode b2_goOver 69 = .ok (.invokestatic 81, 3) := by decide +kernel
theorem d2_goOver_72 : decode b2_goOver 72 = .ok (.invokevirtual 84, 3) := by decide +kernel
theorem d2_goOver_75 : decode b2_goOver 75 = .ok (.return_, 1) := by decide +kernel
theorem d2_goOverFrames_0 : decode b2_goOverFrames 0 = .ok (.iload_n 2, 1) := by decide +kernel
theorem d2_goOverFrames_1 : decode b2_goOverFrames 1 = .ok (.tableswitch 92 0 6 #[43, 92, 50, 50, 60, 76, 84], 43) := by decide +kernel
theorem d2_goOverFrames_44 : decode b2_goOverFrames 44 = .ok (.aload_n 0, 1) := by decide +kernel
theorem d2_goOverFrames_45 : decode b2_goOverFrames 45 = .ok (.invokevirtual 87, 3) := by decide +kernel
theorem d2_goOverFrames_48 : decode b2_goOverFrames 48 = .ok (.goto 45, 3) := by decide +kernel
theorem d2_goOverFrames_51 : decode b2_goOverFrames 51 = .ok (.aload_n 0, 1) := by decide +kernel
theorem d2_goOverFrames_52 : decode b2_goOverFrames 52 = .ok (.iload_n 1, 1) := by decide +kernel
theorem d2_goOverFrames_53 : decode b2_goOverFrames 53 = .ok (.iload_n 2, 1) := by decide +kernel
theorem d2_goOverFrames_54 : decode b2_goOverFrames 54 = .ok (.iload_n 3, 1) := by decide +kernel
theorem d2_goOverFrames_55 : decode b2_goOverFrames 55 = .ok (.invokevirtual 53, 3) := by decide +kernel
theorem d2_goOverFrames_58 : decode b2_goOverFrames 58 = .ok (.goto 35, 3) := by decide +kernel
theorem d2_goOverFrames_61 : decode b2_goOverFrames 61 = .ok (.aload_n 0, 1) := by decide +kernel
theorem d2_goOverFrames_62 : decode b2_goOverFrames 62 = .ok (.iconst 1, 1) := by decide +kernel
theorem d2_goOverFrames_63 : decode b2_goOverFrames 63 = .ok (.invokevirtual 90, 3) := by decide +kernel
theorem d2_goOverFrames_66 : decode b2_goOverFrames 66 = .ok (.pop, 1) := by decide +kernel
theorem d2_goOverFrames_67 : decode b2_goOverFrames 67 = .ok (.aload_n 0, 1) := by decide +kernel
theorem d2_goOverFrames_68 : decode b2_goOverFrames 68 = .ok (.iload_n 1, 1) := by decide +kernel
theorem d2_goOverFrames_69 : decode b2_goOverFrames 69 = .ok (.iload_n 2, 1) := by decide +kernel
theorem d2_goOverFrames_70 : decode b2_goOverFrames 70 = .ok (.iload_n 3, 1) := by decide +kernel
theorem d2_goOverFrames_71 : decode b2_goOverFrames 71 = .ok (.invokevirtual 53, 3) := by decide +kernel
theorem d2_goOverFrames_74 : decode b2_goOverFrames 74 = .ok (.goto 19, 3) := by decide +kernel
theorem d2_goOverFrames_77 : decode b2_goOverFrames 77 = .ok (.aload_n 0, 1) := by decide +kernel
theorem d2_goOverFrames_78 : decode b2_goOverFrames 78 = .ok (.iload_n 1, 1) := by decide +kernel
theorem d2_goOverFrames_79 : decode b2_goOverFrames 79 = .ok (.invokevirtual 93, 3) := by decide +kernel
theorem d2_goOverFrames_82 : decode b2_goOverFrames 82 = .ok (.goto 11, 3) := by decide +kernel
theorem d2_goOverFrames_85 : decode b2_goOverFrames 85 = .ok (.aload_n 0, 1) := by decide +kernel
theorem d2_goOverFrames_86 : decode b2_goOverFrames 86 = .ok (.iload_n 1, 1) := by decide +kernel
theorem d2_goOverFrames_87 : decode b2_goOverFrames 87 = .ok (.invokevirtual 96, 3) := by decide +kernel
theorem d2_goOverFrames_90 : decode b2_goOverFrames 90 = .ok (.goto 3, 3) := by decide +kernel
theorem d2_goOverFrames_93 : decode b2_goOverFrames 93 = .ok (.return_, 1) := by decide +kernel
theorem d2_beginFrame_0 : decode b2_beginFrame 0 = .ok (.aload_n 0, 1) := by decide +kernel
theorem d2_beginFrame_1 : decode b2_beginFrame 1 = .ok (.getfield 38, 3) := by decide +kernel
theorem d2_beginFrame_4 : decode b2_beginFrame 4 = .ok (.ifCond .lt 17, 3) := by decide +kernel
theorem d2_beginFrame_7 : decode b2_beginFrame 7 = .ok (.aload_n 0, 1) := by decide +kernel
theorem d2_beginFrame_8 : decode b2_beginFrame 8 = .ok (.getfield 38, 3) := by decide +kernel
theorem d2_beginFrame_11 : decode b2_beginFrame 11 = .ok (.bipush 8, 2) := by decide +kernel
theorem d2_beginFrame_13 : decode b2_beginFrame 13 = .ok (.if_icmp .ge 8, 3) := by decide +kernel
theorem d2_beginFrame_16 : decode b2_beginFrame 16 = .ok (.iload_n 3, 1) := by decide +kernel
theorem d2_beginFrame_17 : decode b2_beginFrame 17 = .ok (.iconst 3, 1) := by decide +kernel
theorem d2_beginFrame_18 : decode b2_beginFrame 18 = .ok (.if_icmp .le 9, 3) := by decide +kernel
theorem d2_beginFrame_21 : decode b2_beginFrame 21 = .ok (.aload_n 0, 1) := by decide +kernel
theorem d2_beginFrame_22 : decode b2_beginFrame 22 = .ok (.iconst 1, 1) := by decide +kernel
theorem d2_beginFrame_23 : decode b2_beginFrame 23 = .ok (.putfield 41, 3) := by decide +kernel
theorem d2_beginFrame_26 : decode b2_beginFrame 26 = .ok (.return_, 1) := by decide +kernel
theorem d2_beginFrame_27 : decode b2_beginFrame 27 = .ok (.aload_n 0, 1) := by decide +kernel
theorem d2_beginFrame_28 : decode b2_beginFrame 28 = .ok (.aload_n 0, 1) := by decide +kernel
theorem d2_beginFrame_29 : decode b2_beginFrame 29 = .ok (.getfield 17, 3) := by decide +kernel
theorem d2_beginFrame_32 : decode b2_beginFrame 32 = .ok (.aload_n 0, 1) := by decide +kernel
theorem d2_beginFrame_33 : decode b2_beginFrame 33 = .ok (.getfield 38, 3) := by decide +kernel
theorem d2_beginFrame_36 : decode b2_beginFrame 36 = .ok (.aaload, 1) := by decide +kernel
theorem d2_beginFrame_37 : decode b2_beginFrame 37 = .ok (.putfield 30, 3) := by decide +kernel
theorem d2_beginFrame_40 : decode b2_beginFrame 40 = .ok (.aload_n 0, 1) := by decide +kernel
theorem d2_beginFrame_41 : decode b2_beginFrame 41 = .ok (.getfield 30, 3) := by decide +kernel
theorem d2_beginFrame_44 : decode b2_beginFrame 44 = .ok (.iload_n 1, 1) := by decide +kernel
theorem d2_beginFrame_45 : decode b2_beginFrame 45 = .ok (.iload_n 2, 1) := by decide +kernel
theorem d2_beginFrame_46 : decode b2_beginFrame 46 = .ok (.aload_n 0, 1) := by decide +kernel
theorem d2_beginFrame_47 : decode b2_beginFrame 47 = .ok (.getfield 34, 3) := by decide +kernel
theorem d2_beginFrame_50 : decode b2_beginFrame 50 = .ok (.iload_n 3, 1) := by decide +kernel
theorem d2_beginFrame_51 : decode b2_beginFrame 51 = .ok (.invokevirtual 99, 3) := by decide +kernel
theorem d2_beginFrame_54 : decode b2_beginFrame 54 = .ok (.aload_n 0, 1) := by decide +kernel
theorem d2_beginFrame_55 : decode b2_beginFrame 55 = .ok (.dup, 1) := by decide +kernel
theorem d2_beginFrame_56 : decode b2_beginFrame 56 = .ok (.getfield 38, 3) := by decide +kernel
theorem d2_beginFrame_59 : decode b2_beginFrame 59 = .ok (.iconst 1, 1) := by decide +kernel
theorem d2_beginFrame_60 : decode b2_beginFrame 60 = .ok (.iadd, 1) := by decide +kernel
theorem d2_beginFrame_61 : decode b2_beginFrame 61 = .ok (.putfield 38, 3) := by decide +kernel
theorem d2_beginFrame_64 : decode b2_beginFrame 64 = .ok (.aload_n 0, 1) := by decide +kernel
theorem d2_beginFrame_65 : decode b2_beginFrame 65 = .ok (.getfield 26, 3) := by decide +kernel
theorem d2_beginFrame_68 : decode b2_beginFrame 68 = .ok (.iload_n 1, 1) := by decide +kernel
theorem d2_beginFrame_69 : decode b2_beginFrame 69 = .ok (.iconst 0, 1) := by decide +kernel
theorem d2_beginFrame_70 : decode b2_beginFrame 70 = .ok (.invokevirtual 103, 3) := by decide +kernel
theorem d2_beginFrame_73 : decode b2_beginFrame 73 = .ok (.return_, 1) := by decide +kernel
theorem d2_turnToElse_0 : decode b2_turnToElse 0 = .ok (.aload_n 0, 1) := by decide +kernel
theorem d2_turnToElse_1 : decode b2_turnToElse 1 = .ok (.getfield 30, 3) := by decide +kernel
theorem d2_turnToElse_4 : decode b2_turnToElse 4 = .ok (.invokevirtual 106, 3) := by decide +kernel
theorem d2_turnToElse_7 : decode b2_turnToElse 7 = .ok (.ifCond .ne 9, 3) := by decide +kernel
theorem d2_turnToElse_10 : decode b2_turnToElse 10 = .ok (.aload_n 0, 1) := by decide +kernel
theorem d2_turnToElse_11 : decode b2_turnToElse 11 = .ok (.iconst 1, 1) := by decide +kernel
theorem d2_turnToElse_12 : decode b2_turnToElse 12 = .ok (.putfield 41, 3) := by decide +kernel
theorem d2_turnToElse_15 : decode b2_turnToElse 15 = .ok (.return_, 1) := by decide +kernel
theorem d2_turnToElse_16 : decode b2_turnToElse 16 = .ok (.aload_n 0, 1) := by decide +kernel
theorem d2_turnToElse_17 : decode b2_turnToElse 17 = .ok (.invokevirtual 110, 3) := by decide +kernel
theorem d2_turnToElse_20 : decode b2_turnToElse 20 = .ok (.aload_n 0, 1) := by decide +kernel
theorem d2_turnToElse_21 : decode b2_turnToElse 21 = .ok (.getfield 30, 3) := by decide +kernel
theorem d2_turnToElse_24 : decode b2_turnToElse 24 = .ok (.iconst 0, 1) := by decide +kernel
theorem d2_turnToElse_25 : decode b2_turnToElse 25 = .ok (.putfield 113, 3) := by decide +kernel
theorem d2_turnToElse_28 : decode b2_turnToElse 28 = .ok (.aload_n 0, 1) := by decide +kernel
theorem d2_turnToElse_29 : decode b2_turnToElse 29 = .ok (.getfield 30, 3) := by decide +kernel
theorem d2_turnToElse_32 : decode b2_turnToElse 32 = .ok (.iconst 1, 1) := by decide +kernel
theorem d2_turnToElse_33 : decode b2_turnToElse 33 = .ok (.putfield 116, 3) := by decide +kernel
theorem d2_turnToElse_36 : decode b2_turnToElse 36 = .ok (.aload_n 0, 1) := by decide +kernel
theorem d2_turnToElse_37 : decode b2_turnToElse 37 = .ok (.getfield 26, 3) := by decide +kernel
theorem d2_turnToElse_40 : decode b2_turnToElse 40 = .ok (.aload_n 0, 1) := by decide +kernel
theorem d2_turnToElse_41 : decode b2_turnToElse 41 = .ok (.getfield 30, 3) := by decide +kernel
theorem d2_turnToElse_44 : decode b2_turnToElse 44 = .ok (.getfield 119, 3) := by decide +kernel
theorem d2_turnToElse_47 : decode b2_turnToElse 47 = .ok (.iload_n 1, 1) := by decide +kernel
theorem d2_turnToElse_48 : decode b2_turnToElse 48 = .ok (.iconst 1, 1) := by decide +kernel
theorem d2_turnToElse_49 : decode b2_turnToElse 49 = .ok (.iadd, 1) := by decide +kernel
theorem d2_turnToElse_50 : decode b2_turnToElse 50 = .ok (.invokevirtual 103, 3) := by decide +kernel
theorem d2_turnToElse_53 : decode b2_turnToElse 53 = .ok (.return_, 1) := by decide +kernel
theorem d2_endFrame_0 : decode b2_endFrame 0 = .ok (.aload_n 0, 1) := by decide +kernel
theorem d2_endFrame_1 : decode b2_endFrame 1 = .ok (.getfield 30, 3) := by decide +kernel
theorem d2_endFrame_4 : decode b2_endFrame 4 = .ok (.getfield 122, 3) := by decide +kernel
theorem d2_endFrame_7 : decode b2_endFrame 7 = .ok (.ifCond .eq 19, 3) := by decide +kernel
theorem d2_endFrame_10 : decode b2_endFrame 10 = .ok (.aload_n 0, 1) := by decide +kernel
theorem d2_endFrame_11 : decode b2_endFrame 11 = .ok (.getfield 30, 3) := by decide +kernel
theorem d2_endFrame_14 : decode b2_endFrame 14 = .ok (.invokevirtual 106, 3) := by decide +kernel
theorem d2_endFrame_17 : decode b2_endFrame 17 = .ok (.ifCond .eq 9, 3) := by decide +kernel
theorem d2_endFrame_20 : decode b2_endFrame 20 = .ok (.aload_n 0, 1) := by decide +kernel
theorem d2_endFrame_21 : decode b2_endFrame 21 = .ok (.iconst 1, 1) := by decide +kernel
theorem d2_endFrame_22 : decode b2_endFrame 22 = .ok (.putfield 41, 3) := by decide +kernel
theorem d2_endFrame_25 : decode b2_endFrame 25 = .ok (.return_, 1) := by decide +kernel
theorem d2_endFrame_26 : decode b2_endFrame 26 = .ok (.aload_n 0, 1) := by decide +kernel
theorem d2_endFrame_27 : decode b2_endFrame 27 = .ok (.invokevirtual 110, 3) := by decide +kernel
theorem d2_endFrame_30 : decode b2_endFrame 30 = .ok (.aload_n 0, 1) := by decide +kernel
theorem d2_endFrame_31 : decode b2_endFrame 31 = .ok (.aload_n 0, 1) := by decide +kernel
theorem d2_endFrame_32 : decode b2_endFrame 32 = .ok (.getfield 30, 3) := by decide +kernel
theorem d2_endFrame_35 : decode b2_endFrame 35 = .ok (.getfield 122, 3) := by decide +kernel
theorem d2_endFrame_38 : decode b2_endFrame 38 = .ok (.invokevirtual 124, 3) := by decide +kernel
theorem d2_endFrame_41 : decode b2_endFrame 41 = .ok (.aload_n 0, 1) := by decide +kernel
theorem d2_endFrame_42 : decode b2_endFrame 42 = .ok (.getfield 26, 3) := by decide +kernel
theorem d2_endFrame_45 : decode b2_endFrame 45 = .ok (.aload_n 0, 1) := by decide +kernel
theorem d2_endFrame_46 : decode b2_endFrame 46 = .ok (.getfield 30, 3) := by decide +kernel
theorem d2_endFrame_49 : decode b2_endFrame 49 = .ok (.getfield 119, 3) := by decide +kernel
theorem d2_endFrame_52 : decode b2_endFrame 52 = .ok (.iload_n 1, 1) := by decide +kernel
theorem d2_endFrame_53 : decode b2_endFrame 53 = .ok (.iconst 1, 1) := by decide +kernel
theorem d2_endFrame_54 : decode b2_endFrame 54 = .ok (.iadd, 1) := by decide +kernel
theorem d2_endFrame_55 : decode b2_endFrame 55 = .ok (.invokevirtual 127, 3) := by decide +kernel
theorem d2_endFrame_58 : decode b2_endFrame 58 = .ok (.aload_n 0, 1) := by decide +kernel
theorem d2_endFrame_59 : decode b2_endFrame 59 = .ok (.dup, 1) := by decide +kernel
theorem d2_endFrame_60 : decode b2_endFrame 60 = .ok (.getfield 38, 3) := by decide +kernel
theorem d2_endFrame_63 : decode b2_endFrame 63 = .ok (.iconst 1, 1) := by decide +kernel
theorem d2_endFrame_64 : decode b2_endFrame 64 = .ok (.isub, 1) := by decide +kernel
theorem d2_endFrame_65 : decode b2_endFrame 65 = .ok (.putfield 38, 3) := by decide +kernel
theorem d2_endFrame_68 : decode b2_endFrame 68 = .ok (.aload_n 0, 1) := by decide +kernel
theorem d2_endFrame_69 : decode b2_endFrame 69 = .ok (.getfield 38, 3) := by decide +kernel
theorem d2_endFrame_72 : decode b2_endFrame 72 = .ok (.ifCond .le 27, 3) := by decide +kernel
theorem d2_endFrame_75 : decode b2_endFrame 75 = .ok (.aload_n 0, 1) := by decide +kernel
theorem d2_endFrame_76 : decode b2_endFrame 76 = .ok (.getfield 38, 3) := by decide +kernel
theorem d2_endFrame_79 : decode b2_endFrame 79 = .ok (.bipush 8, 2) := by decide +kernel
theorem d2_endFrame_81 : decode b2_endFrame 81 = .ok (.if_icmp .gt 18, 3) := by decide +kernel
theorem d2_endFrame_84 : decode b2_endFrame 84 = .ok (.aload_n 0, 1) := by decide +kernel
theorem d2_endFrame_85 : decode b2_endFrame 85 = .ok (.aload_n 0, 1) := by decide +kernel
theorem d2_endFrame_86 : decode b2_endFrame 86 = .ok (.getfield 17, 3) := by decide +kernel
theorem d2_endFrame_89 : decode b2_endFrame 89 = .ok (.aload_n 0, 1) := by decide +kernel
theorem d2_endFrame_90 : decode b2_endFrame 90 = .ok (.getfield 38, 3) := by decide +kernel
theorem d2_endFrame_93 : decode b2_endFrame 93 = .ok (.iconst 1, 1) := by decide +kernel
theorem d2_endFrame_94 : decode b2_endFrame 94 = .ok (.isub, 1) := by decide +kernel
theorem d2_endFrame_95 : decode b2_endFrame 95 = .ok (.aaload, 1) := by decide +kernel
theorem d2_endFrame_96 : decode b2_endFrame 96 = .ok (.putfield 30, 3) := by decide +kernel
theorem d2_endFrame_99 : decode b2_endFrame 99 = .ok (.return_, 1) := by decide +kernel
theorem d2_takeAllOfFrame_0 : decode b2_takeAllOfFrame 0 = .ok (.aload_n 0, 1) := by decide +kernel
theorem d2_takeAllOfFrame_1 : decode b2_takeAllOfFrame 1 = .ok (.aload_n 0, 1) := by decide +kernel
theorem d2_takeAllOfFrame_2 : decode b2_takeAllOfFrame 2 = .ok (.getfield 30, 3) := by decide +kernel
theorem d2_takeAllOfFrame_5 : decode b2_takeAllOfFrame 5 = .ok (.getfield 122, 3) := by decide +kernel
theorem d2_takeAllOfFrame_8 : decode b2_takeAllOfFrame 8 = .ok (.invokevirtual 90, 3) := by decide +kernel
theorem d2_takeAllOfFrame_11 : decode b2_takeAllOfFrame 11 = .ok (.pop, 1) := by decide +kernel
theorem d2_takeAllOfFrame_12 : decode b2_takeAllOfFrame 12 = .ok (.aload_n 0, 1) := by decide +kernel
theorem d2_takeAllOfFrame_13 : decode b2_takeAllOfFrame 13 = .ok (.getfield 34, 3) := by decide +kernel
theorem d2_takeAllOfFrame_16 : decode b2_takeAllOfFrame 16 = .ok (.aload_n 0, 1) := by decide +kernel
theorem d2_takeAllOfFrame_17 : decode b2_takeAllOfFrame 17 = .ok (.getfield 30, 3) := by decide +kernel
theorem d2_takeAllOfFrame_20 : decode b2_takeAllOfFrame 20 = .ok (.getfield 130, 3) := by decide +kernel
theorem d2_takeAllOfFrame_23 : decode b2_takeAllOfFrame 23 = .ok (.if_icmp .eq 8, 3) := by decide +kernel
theorem d2_takeAllOfFrame_26 : decode b2_takeAllOfFrame 26 = .ok (.aload_n 0, 1) := by decide +kernel
theorem d2_takeAllOfFrame_27 : decode b2_takeAllOfFrame 27 = .ok (.iconst 1, 1) := by decide +kernel
theorem d2_takeAllOfFrame_28 : decode b2_takeAllOfFrame 28 = .ok (.putfield 41, 3) := by decide +kernel
theorem d2_takeAllOfFrame_31 : decode b2_takeAllOfFrame 31 = .ok (.return_, 1) := by decide +kernel
theorem d2_goOverJumps_0 : decode b2_goOverJumps 0 = .ok (.iload_n 2, 1) := by decide +kernel
theorem d2_goOverJumps_1 : decode b2_goOverJumps 1 = .ok (.tableswitch 100 7 9 #[27, 44, 72], 27) := by decide +kernel
theorem d2_goOverJumps_28 : decode b2_goOverJumps 28 = .ok (.aload_n 0, 1) := by decide +kernel
theorem d2_goOverJumps_29 : decode b2_goOverJumps 29 = .ok (.aload_n 0, 1) := by decide +kernel
theorem d2_goOverJumps_30 : decode b2_goOverJumps 30 = .ok (.iload_n 3, 1) := by decide +kernel
theorem d2_goOverJumps_31 : decode b2_goOverJumps 31 = .ok (.invokevirtual 133, 3) := by decide +kernel
theorem d2_goOverJumps_34 : decode b2_goOverJumps 34 = .ok (.invokevirtual 90, 3) := by decide +kernel
theorem d2_goOverJumps_37 : decode b2_goOverJumps 37 = .ok (.pop, 1) := by decide +kernel
theorem d2_goOverJumps_38 : decode b2_goOverJumps 38 = .ok (.aload_n 0, 1) := by decide +kernel
theorem d2_goOverJumps_39 : decode b2_goOverJumps 39 = .ok (.invokevirtual 87, 3) := by decide +kernel
theorem d2_goOverJumps_42 : decode b2_goOverJumps 42 = .ok (.goto 75, 3) := by decide +kernel
theorem d2_goOverJumps_45 : decode b2_goOverJumps 45 = .ok (.aload_n 0, 1) := by decide +kernel
theorem d2_goOverJumps_46 : decode b2_goOverJumps 46 = .ok (.iconst 1, 1) := by decide +kernel
theorem d2_goOverJumps_47 : decode b2_goOverJumps 47 = .ok (.invokevirtual 90, 3) := by decide +kernel
theorem d2_goOverJumps_50 : decode b2_goOverJumps 50 = .ok (.pop, 1) := by decide +kernel
theorem d2_goOverJumps_51 : decode b2_goOverJumps 51 = .ok (.aload_n 0, 1) := by decide +kernel
theorem d2_goOverJumps_52 : decode b2_goOverJumps 52 = .ok (.aload_n 0, 1) := by decide +kernel
theorem d2_goOverJumps_53 : decode b2_goOverJumps 53 = .ok (.iload_n 3, 1) := by decide +kernel
theorem d2_goOverJumps_54 : decode b2_goOverJumps 54 = .ok (.invokevirtual 133, 3) := by decide +kernel
theorem d2_goOverJumps_57 : decode b2_goOverJumps 57 = .ok (.invokevirtual 90, 3) := by decide +kernel
theorem d2_goOverJumps_60 : decode b2_goOverJumps 60 = .ok (.pop, 1) := by decide +kernel
theorem d2_goOverJumps_61 : decode b2_goOverJumps 61 = .ok (.aload_n 0, 1) := by decide +kernel
theorem d2_goOverJumps_62 : decode b2_goOverJumps 62 = .ok (.aload_n 0, 1) := by decide +kernel
theorem d2_goOverJumps_63 : decode b2_goOverJumps 63 = .ok (.iload_n 3, 1) := by decide +kernel
theorem d2_goOverJumps_64 : decode b2_goOverJumps 64 = .ok (.invokevirtual 133, 3) := by decide +kernel
theorem d2_goOverJumps_67 : decode b2_goOverJumps 67 = .ok (.invokevirtual 124, 3) := by decide +kernel
theorem d2_goOverJumps_70 : decode b2_goOverJumps 70 = .ok (.goto 47, 3) := by decide +kernel
theorem d2_goOverJumps_73 : decode b2_goOverJumps 73 = .ok (.aload_n 0, 1) := by decide +kernel
theorem d2_goOverJumps_74 : decode b2_goOverJumps 74 = .ok (.iconst 1, 1) := by decide +kernel
theorem d2_goOverJumps_75 : decode b2_goOverJumps 75 = .ok (.invokevirtual 90, 3) := by decide +kernel
theorem d2_goOverJumps_78 : decode b2_goOverJumps 78 = .ok (.pop, 1) := by decide +kernel
theorem d2_goOverJumps_79 : decode b2_goOverJumps 79 = .ok (.aload_n 0, 1) := by decide +kernel
theorem d2_goOverJumps_80 : decode b2_goOverJumps 80 = .ok (.aload_n 0, 1) := by decide +kernel
theorem d2_goOverJumps_81 : decode b2_goOverJumps 81 = .ok (.iload_n 1, 1) := by decide +kernel
theorem d2_goOverJumps_82 : decode b2_goOverJumps 82 = .ok (.iconst 2, 1) := by decide +kernel
theorem d2_goOverJumps_83 : decode b2_goOverJumps 83 = .ok (.iadd, 1) := by decide +kernel
theorem d2_goOverJumps_84 : decode b2_goOverJumps 84 = .ok (.iload_n 3, 1) := by decide +kernel
theorem d2_goOverJumps_85 : decode b2_goOverJumps 85 = .ok (.iconst 1, 1) := by decide +kernel
theorem d2_goOverJumps_86 : decode b2_goOverJumps 86 = .ok (.iadd, 1) := by decide +kernel
theorem d2_goOverJumps_87 : decode b2_goOverJumps 87 = .ok (.invokevirtual 136, 3) := by decide +kernel
theorem d2_goOverJumps_90 : decode b2_goOverJumps 90 = .ok (.invokevirtual 90, 3) := by decide +kernel
theorem d2_goOverJumps_93 : decode b2_goOverJumps 93 = .ok (.pop, 1) := by decide +kernel
theorem d2_goOverJumps_94 : decode b2_goOverJumps 94 = .ok (.aload_n 0, 1) := by decide +kernel
theorem d2_goOverJumps_95 : decode b2_goOverJumps 95 = .ok (.invokevirtual 87, 3) := by decide +kernel
theorem d2_goOverJumps_98 : decode b2_goOverJumps 98 = .ok (.goto 19, 3) := by decide +kernel
theorem d2_goOverJumps_101 : decode b2_goOverJumps 101 = .ok (.aload_n 0, 1) := by decide +kernel
theorem d2_goOverJumps_102 : decode b2_goOverJumps 102 = .ok (.aload_n 0, 1) := by decide +kernel
theorem d2_goOverJumps_103 : decode b2_goOverJumps 103 = .ok (.getfield 26, 3) := by decide +kernel
theorem d2_goOverJumps_106 : decode b2_goOverJumps 106 = .ok (.invokevirtual 47, 3) := by decide +kernel
theorem d2_goOverJumps_109 : decode b2_goOverJumps 109 = .ok (.invokevirtual 90, 3) := by decide +kernel
theorem d2_goOverJumps_112 : decode b2_goOverJumps 112 = .ok (.pop, 1) := by decide +kernel
theorem d2_goOverJumps_113 : decode b2_goOverJumps 113 = .ok (.aload_n 0, 1) := by decide +kernel
theorem d2_goOverJumps_114 : decode b2_goOverJumps 114 = .ok (.invokevirtual 87, 3) := by decide +kernel
theorem d2_goOverJumps_117 : decode b2_goOverJumps 117 = .ok (.return_, 1) := by decide +kernel
theorem d2_kindOfJumps_0 : decode b2_kindOfJumps 0 = .ok (.aload_n 0, 1) := by decide +kernel
theorem d2_kindOfJumps_1 : decode b2_kindOfJumps 1 = .ok (.aload_n 0, 1) := by decide +kernel
theorem d2_kindOfJumps_2 : decode b2_kindOfJumps 2 = .ok (.getfield 26, 3) := by decide +kernel
theorem d2_kindOfJumps_5 : decode b2_kindOfJumps 5 = .ok (.iload_n 1, 1) := by decide +kernel
theorem d2_kindOfJumps_6 : decode b2_kindOfJumps 6 = .ok (.invokevirtual 68, 3) := by decide +kernel
theorem d2_kindOfJumps_9 : decode b2_kindOfJumps 9 = .ok (.invokevirtual 133, 3) := by decide +kernel
theorem d2_kindOfJumps_12 : decode b2_kindOfJumps 12 = .ok (.istore_n 3, 1) := by decide +kernel
theorem d2_kindOfJumps_13 : decode b2_kindOfJumps 13 = .ok (.iconst 1, 1) := by decide +kernel
theorem d2_kindOfJumps_14 : decode b2_kindOfJumps 14 = .ok (.istore 4, 2) := by decide +kernel
theorem d2_kindOfJumps_16 : decode b2_kindOfJumps 16 = .ok (.iload 4, 2) := by decide +kernel
theorem d2_kindOfJumps_18 : decode b2_kindOfJumps 18 = .ok (.iload_n 2, 1) := by decide +kernel
theorem d2_kindOfJumps_19 : decode b2_kindOfJumps 19 = .ok (.if_icmp .ge 33, 3) := by decide +kernel
theorem d2_kindOfJumps_22 : decode b2_kindOfJumps 22 = .ok (.aload_n 0, 1) := by decide +kernel
theorem d2_kindOfJumps_23 : decode b2_kindOfJumps 23 = .ok (.aload_n 0, 1) := by decide +kernel
theorem d2_kindOfJumps_24 : decode b2_kindOfJumps 24 = .ok (.getfield 26, 3) := by decide +kernel
theorem d2_kindOfJumps_27 : decode b2_kindOfJumps 27 = .ok (.iload_n 1, 1) := by decide +kernel
theorem d2_kindOfJumps_28 : decode b2_kindOfJumps 28 = .ok (.iload 4, 2) := by decide +kernel
theorem d2_kindOfJumps_30 : decode b2_kindOfJumps 30 = .ok (.iadd, 1) := by decide +kernel
theorem d2_kindOfJumps_31 : decode b2_kindOfJumps 31 = .ok (.invokevirtual 68, 3) := by decide +kernel
theorem d2_kindOfJumps_34 : decode b2_kindOfJumps 34 = .ok (.invokevirtual 133, 3) := by decide +kernel
theorem d2_kindOfJumps_37 : decode b2_kindOfJumps 37 = .ok (.iload_n 3, 1) := by decide +kernel
theorem d2_kindOfJumps_38 : decode b2_kindOfJumps 38 = .ok (.if_icmp .eq 8, 3) := by decide +kernel
theorem d2_kindOfJumps_41 : decode b2_kindOfJumps 41 = .ok (.aload_n 0, 1) := by decide +kernel
theorem d2_kindOfJumps_42 : decode b2_kindOfJumps 42 = .ok (.iconst 1, 1) := by decide +kernel
theorem d2_kindOfJumps_43 : decode b2_kindOfJumps 43 = .ok (.putfield 41, 3) := by decide +kernel
theorem d2_kindOfJumps_46 : decode b2_kindOfJumps 46 = .ok (.iinc 4 1, 3) := by decide +kernel
theorem d2_kindOfJumps_49 : decode b2_kindOfJumps 49 = .ok (.goto (-33), 3) := by decide +kernel
theorem d2_kindOfJumps_52 : decode b2_kindOfJumps 52 = .ok (.iload_n 3, 1) := by decide +kernel
theorem d2_kindOfJumps_53 : decode b2_kindOfJumps 53 = .ok (.ireturn, 1) := by decide +kernel
theorem d2_kindOfJump_0 : decode b2_kindOfJump 0 = .ok (.aload_n 0, 1) := by decide +kernel
theorem d2_kindOfJump_1 : decode b2_kindOfJump 1 = .ok (.getfield 38, 3) := by decide +kernel
theorem d2_kindOfJump_4 : decode b2_kindOfJump 4 = .ok (.iconst 1, 1) := by decide +kernel
theorem d2_kindOfJump_5 : decode b2_kindOfJump 5 = .ok (.isub, 1) := by decide +kernel
theorem d2_kindOfJump_6 : decode b2_kindOfJump 6 = .ok (.iload_n 1, 1) := by decide +kernel
theorem d2_kindOfJump_7 : decode b2_kindOfJump 7 = .ok (.isub, 1) := by decide +kernel
theorem d2_kindOfJump_8 : decode b2_kindOfJump 8 = .ok (.istore_n 2, 1) := by decide +kernel
theorem d2_kindOfJump_9 : decode b2_kindOfJump 9 = .ok (.iload_n 2, 1) := by decide +kernel
theorem d2_kindOfJump_10 : decode b2_kindOfJump 10 = .ok (.ifCond .lt 9, 3) := by decide +kernel
theorem d2_kindOfJump_13 : decode b2_kindOfJump 13 = .ok (.iload_n 2, 1) := by decide +kernel
theorem d2_kindOfJump_14 : decode b2_kindOfJump 14 = .ok (.bipush 8, 2) := by decide +kernel
theorem d2_kindOfJump_16 : decode b2_kindOfJump 16 = .ok (.if_icmp .lt 10, 3) := by decide +kernel
theorem d2_kindOfJump_19 : decode b2_kindOfJump 19 = .ok (.aload_n 0, 1) := by decide +kernel
theorem d2_kindOfJump_20 : decode b2_kindOfJump 20 = .ok (.iconst 1, 1) := by decide +kernel
theorem d2_kindOfJump_21 : decode b2_kindOfJump 21 = .ok (.putfield 41, 3) := by decide +kernel
theorem d2_kindOfJump_24 : decode b2_kindOfJump 24 = .ok (.iconst 0, 1) := by decide +kernel
theorem d2_kindOfJump_25 : decode b2_kindOfJump 25 = .ok (.ireturn, 1) := by decide +kernel
theorem d2_kindOfJump_26 : decode b2_kindOfJump 26 = .ok (.aload_n 0, 1) := by decide +kernel
theorem d2_kindOfJump_27 : decode b2_kindOfJump 27 = .ok (.getfield 17, 3) := by decide +kernel
theorem d2_kindOfJump_30 : decode b2_kindOfJump 30 = .ok (.iload_n 2, 1) := by decide +kernel
theorem d2_kindOfJump_31 : decode b2_kindOfJump 31 = .ok (.aaload, 1) := by decide +kernel
theorem d2_kindOfJump_32 : decode b2_kindOfJump 32 = .ok (.invokevirtual 140, 3) := by decide +kernel
theorem d2_kindOfJump_35 : decode b2_kindOfJump 35 = .ok (.ireturn, 1) := by decide +kernel
theorem d2_goOverValues_0 : decode b2_goOverValues 0 = .ok (.iload_n 1, 1) := by decide +kernel
theorem d2_goOverValues_1 : decode b2_goOverValues 1 = .ok (.tableswitch 100 11 19 #[51, 60, 75, 84, 100, 100, 100, 91, 91], 51) := by decide +kernel
theorem d2_goOverValues_52 : decode b2_goOverValues 52 = .ok (.aload_n 0, 1) := by decide +kernel
theorem d2_goOverValues_53 : decode b2_goOverValues 53 = .ok (.iload_n 2, 1) := by decide +kernel
theorem d2_goOverValues_54 : decode b2_goOverValues 54 = .ok (.iconst 1, 1) := by decide +kernel
theorem d2_goOverValues_55 : decode b2_goOverValues 55 = .ok (.invokevirtual 142, 3) := by decide +kernel
theorem d2_goOverValues_58 : decode b2_goOverValues 58 = .ok (.goto 56, 3) := by decide +kernel
theorem d2_goOverValues_61 : decode b2_goOverValues 61 = .ok (.aload_n 0, 1) := by decide +kernel
theorem d2_goOverValues_62 : decode b2_goOverValues 62 = .ok (.iconst 1, 1) := by decide +kernel
theorem d2_goOverValues_63 : decode b2_goOverValues 63 = .ok (.invokevirtual 90, 3) := by decide +kernel
theorem d2_goOverValues_66 : decode b2_goOverValues 66 = .ok (.pop, 1) := by decide +kernel
theorem d2_goOverValues_67 : decode b2_goOverValues 67 = .ok (.aload_n 0, 1) := by decide +kernel
theorem d2_goOverValues_68 : decode b2_goOverValues 68 = .ok (.iload_n 2, 1) := by decide +kernel
theorem d2_goOverValues_69 : decode b2_goOverValues 69 = .ok (.iconst 0, 1) := by decide +kernel
theorem d2_goOverValues_70 : decode b2_goOverValues 70 = .ok (.invokevirtual 142, 3) := by decide +kernel
theorem d2_goOverValues_73 : decode b2_goOverValues 73 = .ok (.goto 41, 3) := by decide +kernel
theorem d2_goOverValues_76 : decode b2_goOverValues 76 = .ok (.aload_n 0, 1) := by decide +kernel
theorem d2_goOverValues_77 : decode b2_goOverValues 77 = .ok (.iconst 4, 1) := by decide +kernel
theorem d2_goOverValues_78 : decode b2_goOverValues 78 = .ok (.invokevirtual 90, 3) := by decide +kernel
theorem d2_goOverValues_81 : decode b2_goOverValues 81 = .ok (.pop, 1) := by decide +kernel
theorem d2_goOverValues_82 : decode b2_goOverValues 82 = .ok (.goto 32, 3) := by decide +kernel
theorem d2_goOverValues_85 : decode b2_goOverValues 85 = .ok (.aload_n 0, 1) := by decide +kernel
theorem d2_goOverValues_86 : decode b2_goOverValues 86 = .ok (.invokevirtual 146, 3) := by decide +kernel
theorem d2_goOverValues_89 : decode b2_goOverValues 89 = .ok (.goto 25, 3) := by decide +kernel
theorem d2_goOverValues_92 : decode b2_goOverValues 92 = .ok (.aload_n 0, 1) := by decide +kernel
theorem d2_goOverValues_93 : decode b2_goOverValues 93 = .ok (.iload_n 1, 1) := by decide +kernel
theorem d2_goOverValues_94 : decode b2_goOverValues 94 = .ok (.iload_n 2, 1) := by decide +kernel
theorem d2_goOverValues_95 : decode b2_goOverValues 95 = .ok (.invokevirtual 149, 3) := by decide +kernel
theorem d2_goOverValues_98 : decode b2_goOverValues 98 = .ok (.goto 16, 3) := by decide +kernel
theorem d2_goOverValues_101 : decode b2_goOverValues 101 = .ok (.aload_n 0, 1) := by decide +kernel
theorem d2_goOverValues_102 : decode b2_goOverValues 102 = .ok (.iload_n 1, 1) := by decide +kernel
theorem d2_goOverValues_103 : decode b2_goOverValues 103 = .ok (.aload_n 0, 1) := by decide +kernel
theorem d2_goOverValues_104 : decode b2_goOverValues 104 = .ok (.getfield 26, 3) := by decide +kernel
theorem d2_goOverValues_107 : decode b2_goOverValues 107 = .ok (.iload_n 2, 1) := by decide +kernel
theorem d2_goOverValues_108 : decode b2_goOverValues 108 = .ok (.invokevirtual 152, 3) := by decide +kernel
theorem d2_goOverValues_111 : decode b2_goOverValues 111 = .ok (.invokevirtual 155, 3) := by decide +kernel
theorem d2_goOverValues_114 : decode b2_goOverValues 114 = .ok (.return_, 1) := by decide +kernel
