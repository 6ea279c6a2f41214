theorem dX7_text_146 : decode cX7_text 146 = .ok (.iaload, 1) := by decide +kernel
theorem dX7_text_147 : decode cX7_text 147 = .ok (.iastore, 1) := by decide +kernel
theorem dX7_text_148 : decode cX7_text 148 = .ok (.iinc 2 1, 3) := by decide +kernel
theorem dX7_text_151 : decode cX7_text 151 = .ok (.goto (-21), 3) := by decide +kernel
theorem dX7_text_154 : decode cX7_text 154 = .ok (.aload_n 0, 1) := by decide +kernel
theorem dX7_text_155 : decode cX7_text 155 = .ok (.aload_n 0, 1) := by decide +kernel
theorem dX7_text_156 : decode cX7_text 156 = .ok (.getfield 108, 3) := by decide +kernel
theorem dX7_text_159 : decode cX7_text 159 = .ok (.putfield 136, 3) := by decide +kernel
theorem dX7_text_162 : decode cX7_text 162 = .ok (.aload_n 0, 1) := by decide +kernel
theorem dX7_text_163 : decode cX7_text 163 = .ok (.iconst 0, 1) := by decide +kernel
theorem dX7_text_164 : decode cX7_text 164 = .ok (.putfield 139, 3) := by decide +kernel
theorem dX7_text_167 : decode cX7_text 167 = .ok (.aload_n 0, 1) := by decide +kernel
theorem dX7_text_168 : decode cX7_text 168 = .ok (.getfield 37, 3) := by decide +kernel
theorem dX7_text_171 : decode cX7_text 171 = .ok (.iconst 0, 1) := by decide +kernel
theorem dX7_text_172 : decode cX7_text 172 = .ok (.iconst 0, 1) := by decide +kernel
theorem dX7_text_173 : decode cX7_text 173 = .ok (.bastore, 1) := by decide +kernel
theorem dX7_text_174 : decode cX7_text 174 = .ok (.aload_n 0, 1) := by decide +kernel
theorem dX7_text_175 : decode cX7_text 175 = .ok (.getfield 37, 3) := by decide +kernel
theorem dX7_text_178 : decode cX7_text 178 = .ok (.iconst 1, 1) := by decide +kernel
theorem dX7_text_179 : decode cX7_text 179 = .ok (.iconst 0, 1) := by decide +kernel
theorem dX7_text_180 : decode cX7_text 180 = .ok (.bastore, 1) := by decide +kernel
theorem dX7_text_181 : decode cX7_text 181 = .ok (.iload_n 1, 1) := by decide +kernel
theorem dX7_text_182 : decode cX7_text 182 = .ok (.ireturn, 1) := by decide +kernel
theorem dX7_fault_0 : decode cX7_fault 0 = .ok (.aload_n 0, 1) := by decide +kernel
theorem dX7_fault_1 : decode cX7_fault 1 = .ok (.getfield 133, 3) := by decide +kernel
theorem dX7_fault_4 : decode cX7_fault 4 = .ok (.ireturn, 1) := by decide +kernel
theorem dX7_isTree_0 : decode cX7_isTree 0 = .ok (.iload_n 1, 1) := by decide +kernel
theorem dX7_isTree_1 : decode cX7_isTree 1 = .ok (.i2l, 1) := by decide +kernel
theorem dX7_isTree_2 : decode cX7_isTree 2 = .ok (.lconst 0, 1) := by decide +kernel
theorem dX7_isTree_3 : decode cX7_isTree 3 = .ok (.aload_n 0, 1) := by decide +kernel
theorem dX7_isTree_4 : decode cX7_isTree 4 = .ok (.getfield 136, 3) := by decide +kernel
theorem dX7_isTree_7 : decode cX7_isTree 7 = .ok (.iconst 1, 1) := by decide +kernel
theorem dX7_isTree_8 : decode cX7_isTree 8 = .ok (.isub, 1) := by decide +kernel
theorem dX7_isTree_9 : decode cX7_isTree 9 = .ok (.i2l, 1) := by decide +kernel
theorem dX7_isTree_10 : decode cX7_isTree 10 = .ok (.invokestatic 52, 3) := by decide +kernel
theorem dX7_isTree_13 : decode cX7_isTree 13 = .ok (.ireturn, 1) := by decide +kernel
theorem dX7_isRoot_0 : decode cX7_isRoot 0 = .ok (.iload_n 1, 1) := by decide +kernel
theorem dX7_isRoot_1 : decode cX7_isRoot 1 = .ok (.i2l, 1) := by decide +kernel
theorem dX7_isRoot_2 : decode cX7_isRoot 2 = .ok (.lconst 0, 1) := by decide +kernel
theorem dX7_isRoot_3 : decode cX7_isRoot 3 = .ok (.aload_n 0, 1) := by decide +kernel
theorem dX7_isRoot_4 : decode cX7_isRoot 4 = .ok (.getfield 7, 3) := by decide +kernel
theorem dX7_isRoot_7 : decode cX7_isRoot 7 = .ok (.bipush 42, 2) := by decide +kernel
theorem dX7_isRoot_9 : decode cX7_isRoot 9 = .ok (.iaload, 1) := by decide +kernel
theorem dX7_isRoot_10 : decode cX7_isRoot 10 = .ok (.iconst 1, 1) := by decide +kernel
theorem dX7_isRoot_11 : decode cX7_isRoot 11 = .ok (.isub, 1) := by decide +kernel
theorem dX7_isRoot_12 : decode cX7_isRoot 12 = .ok (.i2l, 1) := by decide +kernel
theorem dX7_isRoot_13 : decode cX7_isRoot 13 = .ok (.invokestatic 52, 3) := by decide +kernel
theorem dX7_isRoot_16 : decode cX7_isRoot 16 = .ok (.ireturn, 1) := by decide +kernel
theorem dX7_isTalk_0 : decode cX7_isTalk 0 = .ok (.iload_n 1, 1) := by decide +kernel
theorem dX7_isTalk_1 : decode cX7_isTalk 1 = .ok (.i2l, 1) := by decide +kernel
theorem dX7_isTalk_2 : decode cX7_isTalk 2 = .ok (.lconst 0, 1) := by decide +kernel
theorem dX7_isTalk_3 : decode cX7_isTalk 3 = .ok (.aload_n 0, 1) := by decide +kernel
theorem dX7_isTalk_4 : decode cX7_isTalk 4 = .ok (.getfield 7, 3) := by decide +kernel
theorem dX7_isTalk_7 : decode cX7_isTalk 7 = .ok (.bipush 62, 2) := by decide +kernel
theorem dX7_isTalk_9 : decode cX7_isTalk 9 = .ok (.iaload, 1) := by decide +kernel
theorem dX7_isTalk_10 : decode cX7_isTalk 10 = .ok (.iconst 1, 1) := by decide +kernel
theorem dX7_isTalk_11 : decode cX7_isTalk 11 = .ok (.isub, 1) := by decide +kernel
theorem dX7_isTalk_12 : decode cX7_isTalk 12 = .ok (.i2l, 1) := by decide +kernel
theorem dX7_isTalk_13 : decode cX7_isTalk 13 = .ok (.invokestatic 52, 3) := by decide +kernel
theorem dX7_isTalk_16 : decode cX7_isTalk 16 = .ok (.ireturn, 1) := by decide +kernel
theorem dX7_isBreath_0 : decode cX7_isBreath 0 = .ok (.iload_n 0, 1) := by decide +kernel
theorem dX7_isBreath_1 : decode cX7_isBreath 1 = .ok (.i2l, 1) := by decide +kernel
theorem dX7_isBreath_2 : decode cX7_isBreath 2 = .ok (.lconst 1, 1) := by decide +kernel
theorem dX7_isBreath_3 : decode cX7_isBreath 3 = .ok (.ldc2_w 142, 3) := by decide +kernel
theorem dX7_isBreath_6 : decode cX7_isBreath 6 = .ok (.invokestatic 52, 3) := by decide +kernel
theorem dX7_isBreath_9 : decode cX7_isBreath 9 = .ok (.ireturn, 1) := by decide +kernel
theorem dX7_isSome_0 : decode cX7_isSome 0 = .ok (.iload_n 1, 1) := by decide +kernel
theorem dX7_isSome_1 : decode cX7_isSome 1 = .ok (.i2l, 1) := by decide +kernel
theorem dX7_isSome_2 : decode cX7_isSome 2 = .ok (.lconst 0, 1) := by decide +kernel
theorem dX7_isSome_3 : decode cX7_isSome 3 = .ok (.iconst 1, 1) := by decide +kernel
theorem dX7_isSome_4 : decode cX7_isSome 4 = .ok (.aload_n 0, 1) := by decide +kernel
theorem dX7_isSome_5 : decode cX7_isSome 5 = .ok (.getfield 136, 3) := by decide +kernel
theorem dX7_isSome_8 : decode cX7_isSome 8 = .ok (.ishl, 1) := by decide +kernel
theorem dX7_isSome_9 : decode cX7_isSome 9 = .ok (.iconst 1, 1) := by decide +kernel
theorem dX7_isSome_10 : decode cX7_isSome 10 = .ok (.isub, 1) := by decide +kernel
theorem dX7_isSome_11 : decode cX7_isSome 11 = .ok (.i2l, 1) := by decide +kernel
theorem dX7_isSome_12 : decode cX7_isSome 12 = .ok (.invokestatic 52, 3) := by decide +kernel
theorem dX7_isSome_15 : decode cX7_isSome 15 = .ok (.ireturn, 1) := by decide +kernel
theorem dX7_waysOn_0 : decode cX7_waysOn 0 = .ok (.iconst 0, 1) := by decide +kernel
theorem dX7_waysOn_1 : decode cX7_waysOn 1 = .ok (.istore_n 3, 1) := by decide +kernel
theorem dX7_waysOn_2 : decode cX7_waysOn 2 = .ok (.iload_n 3, 1) := by decide +kernel
theorem dX7_waysOn_3 : decode cX7_waysOn 3 = .ok (.bipush 6, 2) := by decide +kernel
theorem dX7_waysOn_5 : decode cX7_waysOn 5 = .ok (.if_icmp .ge 27, 3) := by decide +kernel
theorem dX7_waysOn_8 : decode cX7_waysOn 8 = .ok (.aload_n 0, 1) := by decide +kernel
theorem dX7_waysOn_9 : decode cX7_waysOn 9 = .ok (.getfield 25, 3) := by decide +kernel
theorem dX7_waysOn_12 : decode cX7_waysOn 12 = .ok (.iload_n 3, 1) := by decide +kernel
theorem dX7_waysOn_13 : decode cX7_waysOn 13 = .ok (.iload_n 3, 1) := by decide +kernel
theorem dX7_waysOn_14 : decode cX7_waysOn 14 = .ok (.iload_n 2, 1) := by decide +kernel
theorem dX7_waysOn_15 : decode cX7_waysOn 15 = .ok (.if_icmp .ne 7, 3) := by decide +kernel
theorem dX7_waysOn_18 : decode cX7_waysOn 18 = .ok (.iconst 0, 1) := by decide +kernel
theorem dX7_waysOn_19 : decode cX7_waysOn 19 = .ok (.goto 6, 3) := by decide +kernel
theorem dX7_waysOn_22 : decode cX7_waysOn 22 = .ok (.sipush 1000, 3) := by decide +kernel
theorem dX7_waysOn_25 : decode cX7_waysOn 25 = .ok (.iastore, 1) := by decide +kernel
theorem dX7_waysOn_26 : decode cX7_waysOn 26 = .ok (.iinc 3 1, 3) := by decide +kernel
theorem dX7_waysOn_29 : decode cX7_waysOn 29 = .ok (.goto (-27), 3) := by decide +kernel
theorem dX7_waysOn_32 : decode cX7_waysOn 32 = .ok (.iconst 0, 1) := by decide +kernel
theorem dX7_waysOn_33 : decode cX7_waysOn 33 = .ok (.istore_n 3, 1) := by decide +kernel
theorem dX7_waysOn_34 : decode cX7_waysOn 34 = .ok (.iload_n 3, 1) := by decide +kernel
theorem dX7_waysOn_35 : decode cX7_waysOn 35 = .ok (.bipush 6, 2) := by decide +kernel
theorem dX7_waysOn_37 : decode cX7_waysOn 37 = .ok (.if_icmp .ge 200, 3) := by decide +kernel
theorem dX7_waysOn_40 : decode cX7_waysOn 40 = .ok (.iconst 0, 1) := by decide +kernel
theorem dX7_waysOn_41 : decode cX7_waysOn 41 = .ok (.istore 4, 2) := by decide +kernel
theorem dX7_waysOn_43 : decode cX7_waysOn 43 = .ok (.iload 4, 2) := by decide +kernel
theorem dX7_waysOn_45 : decode cX7_waysOn 45 = .ok (.aload_n 0, 1) := by decide +kernel
theorem dX7_waysOn_46 : decode cX7_waysOn 46 = .ok (.getfield 7, 3) := by decide +kernel
theorem dX7_waysOn_49 : decode cX7_waysOn 49 = .ok (.iload_n 1, 1) := by decide +kernel
theorem dX7_waysOn_50 : decode cX7_waysOn 50 = .ok (.bipush 42, 2) := by decide +kernel
theorem dX7_waysOn_52 : decode cX7_waysOn 52 = .ok (.iadd, 1) := by decide +kernel
theorem dX7_waysOn_53 : decode cX7_waysOn 53 = .ok (.iaload, 1) := by decide +kernel
theorem dX7_waysOn_54 : decode cX7_waysOn 54 = .ok (.if_icmp .ge 177, 3) := by decide +kernel
theorem dX7_waysOn_57 : decode cX7_waysOn 57 = .ok (.aload_n 0, 1) := by decide +kernel
theorem dX7_waysOn_58 : decode cX7_waysOn 58 = .ok (.getfield 7, 3) := by decide +kernel
theorem dX7_waysOn_61 : decode cX7_waysOn 61 = .ok (.iload_n 1, 1) := by decide +kernel
theorem dX7_waysOn_62 : decode cX7_waysOn 62 = .ok (.bipush 6, 2) := by decide +kernel
theorem dX7_waysOn_64 : decode cX7_waysOn 64 = .ok (.iadd, 1) := by decide +kernel
theorem dX7_waysOn_65 : decode cX7_waysOn 65 = .ok (.iload 4, 2) := by decide +kernel
theorem dX7_waysOn_67 : decode cX7_waysOn 67 = .ok (.iadd, 1) := by decide +kernel
theorem dX7_waysOn_68 : decode cX7_waysOn 68 = .ok (.iaload, 1) := by decide +kernel
theorem dX7_waysOn_69 : decode cX7_waysOn 69 = .ok (.istore 5, 2) := by decide +kernel
theorem dX7_waysOn_71 : decode cX7_waysOn 71 = .ok (.aload_n 0, 1) := by decide +kernel
theorem dX7_waysOn_72 : decode cX7_waysOn 72 = .ok (.getfield 7, 3) := by decide +kernel
theorem dX7_waysOn_75 : decode cX7_waysOn 75 = .ok (.iload_n 1, 1) := by decide +kernel
theorem dX7_waysOn_76 : decode cX7_waysOn 76 = .ok (.bipush 15, 2) := by decide +kernel
theorem dX7_waysOn_78 : decode cX7_waysOn 78 = .ok (.iadd, 1) := by decide +kernel
theorem dX7_waysOn_79 : decode cX7_waysOn 79 = .ok (.iload 4, 2) := by decide +kernel
theorem dX7_waysOn_81 : decode cX7_waysOn 81 = .ok (.iadd, 1) := by decide +kernel
theorem dX7_waysOn_82 : decode cX7_waysOn 82 = .ok (.iaload, 1) := by decide +kernel
theorem dX7_waysOn_83 : decode cX7_waysOn 83 = .ok (.istore 6, 2) := by decide +kernel
theorem dX7_waysOn_85 : decode cX7_waysOn 85 = .ok (.aload_n 0, 1) := by decide +kernel
theorem dX7_waysOn_86 : decode cX7_waysOn 86 = .ok (.getfield 7, 3) := by decide +kernel
theorem dX7_waysOn_89 : decode cX7_waysOn 89 = .ok (.iload_n 1, 1) := by decide +kernel
theorem dX7_waysOn_90 : decode cX7_waysOn 90 = .ok (.bipush 24, 2) := by decide +kernel
theorem dX7_waysOn_92 : decode cX7_waysOn 92 = .ok (.iadd, 1) := by decide +kernel
theorem dX7_waysOn_93 : decode cX7_waysOn 93 = .ok (.iload 4, 2) := by decide +kernel
theorem dX7_waysOn_95 : decode cX7_waysOn 95 = .ok (.iadd, 1) := by decide +kernel
theorem dX7_waysOn_96 : decode cX7_waysOn 96 = .ok (.iaload, 1) := by decide +kernel
theorem dX7_waysOn_97 : decode cX7_waysOn 97 = .ok (.istore 7, 2) := by decide +kernel
theorem dX7_waysOn_99 : decode cX7_waysOn 99 = .ok (.aload_n 0, 1) := by decide +kernel
theorem dX7_waysOn_100 : decode cX7_waysOn 100 = .ok (.getfield 7, 3) := by decide +kernel
theorem dX7_waysOn_103 : decode cX7_waysOn 103 = .ok (.iload_n 1, 1) := by decide +kernel
theorem dX7_waysOn_104 : decode cX7_waysOn 104 = .ok (.bipush 33, 2) := by decide +kernel
theorem dX7_waysOn_106 : decode cX7_waysOn 106 = .ok (.iadd, 1) := by decide +kernel
theorem dX7_waysOn_107 : decode cX7_waysOn 107 = .ok (.iload 4, 2) := by decide +kernel
theorem dX7_waysOn_109 : decode cX7_waysOn 109 = .ok (.iadd, 1) := by decide +kernel
theorem dX7_waysOn_110 : decode cX7_waysOn 110 = .ok (.iaload, 1) := by decide +kernel
theorem dX7_waysOn_111 : decode cX7_waysOn 111 = .ok (.ifCond .ne 7, 3) := by decide +kernel
theorem dX7_waysOn_114 : decode cX7_waysOn 114 = .ok (.iconst 1, 1) := by decide +kernel
theorem dX7_waysOn_115 : decode cX7_waysOn 115 = .ok (.goto 4, 3) := by decide +kernel
theorem dX7_waysOn_118 : decode cX7_waysOn 118 = .ok (.iconst 0, 1) := by decide +kernel
theorem dX7_waysOn_119 : decode cX7_waysOn 119 = .ok (.istore 8, 2) := by decide +kernel
theorem dX7_waysOn_121 : decode cX7_waysOn 121 = .ok (.aload_n 0, 1) := by decide +kernel
theorem dX7_waysOn_122 : decode cX7_waysOn 122 = .ok (.getfield 25, 3) := by decide +kernel
theorem dX7_waysOn_125 : decode cX7_waysOn 125 = .ok (.iload 5, 2) := by decide +kernel
theorem dX7_waysOn_127 : decode cX7_waysOn 127 = .ok (.iload 8, 2) := by decide +kernel
theorem dX7_waysOn_129 : decode cX7_waysOn 129 = .ok (.ifCond .eq 36, 3) := by decide +kernel
theorem dX7_waysOn_132 : decode cX7_waysOn 132 = .ok (.aload_n 0, 1) := by decide +kernel
theorem dX7_waysOn_133 : decode cX7_waysOn 133 = .ok (.getfield 25, 3) := by decide +kernel
theorem dX7_waysOn_136 : decode cX7_waysOn 136 = .ok (.iload 6, 2) := by decide +kernel
theorem dX7_waysOn_138 : decode cX7_waysOn 138 = .ok (.iaload, 1) := by decide +kernel
theorem dX7_waysOn_139 : decode cX7_waysOn 139 = .ok (.iload 7, 2) := by decide +kernel
theorem dX7_waysOn_141 : decode cX7_waysOn 141 = .ok (.iadd, 1) := by decide +kernel
theorem dX7_waysOn_142 : decode cX7_waysOn 142 = .ok (.aload_n 0, 1) := by decide +kernel
theorem dX7_waysOn_143 : decode cX7_waysOn 143 = .ok (.getfield 25, 3) := by decide +kernel
theorem dX7_waysOn_146 : decode cX7_waysOn 146 = .ok (.iload 5, 2) := by decide +kernel
theorem dX7_waysOn_148 : decode cX7_waysOn 148 = .ok (.iaload, 1) := by decide +kernel
theorem dX7_waysOn_149 : decode cX7_waysOn 149 = .ok (.if_icmp .ge 16, 3) := by decide +kernel
theorem dX7_waysOn_152 : decode cX7_waysOn 152 = .ok (.aload_n 0, 1) := by decide +kernel
theorem dX7_waysOn_153 : decode cX7_waysOn 153 = .ok (.getfield 25, 3) := by decide +kernel
theorem dX7_waysOn_156 : decode cX7_waysOn 156 = .ok (.iload 6, 2) := by decide +kernel
theorem dX7_waysOn_158 : decode cX7_waysOn 158 = .ok (.iaload, 1) := by decide +kernel
theorem dX7_waysOn_159 : decode cX7_waysOn 159 = .ok (.iload 7, 2) := by decide +kernel
theorem dX7_waysOn_161 : decode cX7_waysOn 161 = .ok (.iadd, 1) := by decide +kernel
theorem dX7_waysOn_162 : decode cX7_waysOn 162 = .ok (.goto 10, 3) := by decide +kernel
theorem dX7_waysOn_165 : decode cX7_waysOn 165 = .ok (.aload_n 0, 1) := by decide +kernel
theorem dX7_waysOn_166 : decode cX7_waysOn 166 = .ok (.getfield 25, 3) := by decide +kernel
theorem dX7_waysOn_169 : decode cX7_waysOn 169 = .ok (.iload 5, 2) := by decide +kernel
theorem dX7_waysOn_171 : decode cX7_waysOn 171 = .ok (.iaload, 1) := by decide +kernel
theorem dX7_waysOn_172 : decode cX7_waysOn 172 = .ok (.iastore, 1) := by decide +kernel
theorem dX7_waysOn_173 : decode cX7_waysOn 173 = .ok (.aload_n 0, 1) := by decide +kernel
theorem dX7_waysOn_174 : decode cX7_waysOn 174 = .ok (.getfield 25, 3) := by decide +kernel
theorem dX7_waysOn_177 : decode cX7_waysOn 177 = .ok (.iload 6, 2) := by decide +kernel
theorem dX7_waysOn_179 : decode cX7_waysOn 179 = .ok (.iload 8, 2) := by decide +kernel
theorem dX7_waysOn_181 : decode cX7_waysOn 181 = .ok (.ifCond .eq 36, 3) := by decide +kernel
theorem dX7_waysOn_184 : decode cX7_waysOn 184 = .ok (.aload_n 0, 1) := by decide +kernel
theorem dX7_waysOn_185 : decode cX7_waysOn 185 = .ok (.getfield 25, 3) := by decide +kernel
theorem dX7_waysOn_188 : decode cX7_waysOn 188 = .ok (.iload 5, 2) := by decide +kernel
theorem dX7_waysOn_190 : decode cX7_waysOn 190 = .ok (.iaload, 1) := by decide +kernel
theorem dX7_waysOn_191 : decode cX7_waysOn 191 = .ok (.iload 7, 2) := by decide +kernel
theorem dX7_waysOn_193 : decode cX7_waysOn 193 = .ok (.iadd, 1) := by decide +kernel
theorem dX7_waysOn_194 : decode cX7_waysOn 194 = .ok (.aload_n 0, 1) := by decide +kernel
theorem dX7_waysOn_195 : decode cX7_waysOn 195 = .ok (.getfield 25, 3) := by decide +kernel
theorem dX7_waysOn_198 : decode cX7_waysOn 198 = .ok (.iload 6, 2) := by decide +kernel
theorem dX7_waysOn_200 : decode cX7_waysOn 200 = .ok (.iaload, 1) := by decide +kernel
theorem dX7_waysOn_201 : decode cX7_waysOn 201 = .ok (.if_icmp .ge 16, 3) := by decide +kernel
theorem dX7_waysOn_204 : decode cX7_waysOn 204 = .ok (.aload_n 0, 1) := by decide +kernel
theorem dX7_waysOn_205 : decode cX7_waysOn 205 = .ok (.getfield 25, 3) := by decide +kernel
theorem dX7_waysOn_208 : decode cX7_waysOn 208 = .ok (.iload 5, 2) := by decide +kernel
theorem dX7_waysOn_210 : decode cX7_waysOn 210 = .ok (.iaload, 1) := by decide +kernel
theorem dX7_waysOn_211 : decode cX7_waysOn 211 = .ok (.iload 7, 2) := by decide +kernel
theorem dX7_waysOn_213 : decode cX7_waysOn 213 = .ok (.iadd, 1) := by decide +kernel
theorem dX7_waysOn_214 : decode cX7_waysOn 214 = .ok (.goto 10, 3) := by decide +kernel
theorem dX7_waysOn_217 : decode cX7_waysOn 217 = .ok (.aload_n 0, 1) := by decide +kernel
theorem dX7_waysOn_218 : decode cX7_waysOn 218 = .ok (.getfield 25, 3) := by decide +kernel
theorem dX7_waysOn_221 : decode cX7_waysOn 221 = .ok (.iload 6, 2) := by decide +kernel
theorem dX7_waysOn_223 : decode cX7_waysOn 223 = .ok (.iaload, 1) := by decide +kernel
theorem dX7_waysOn_224 : decode cX7_waysOn 224 = .ok (.iastore, 1) := by decide +kernel
theorem dX7_waysOn_225 : decode cX7_waysOn 225 = .ok (.iinc 4 1, 3) := by decide +kernel
theorem dX7_waysOn_228 : decode cX7_waysOn 228 = .ok (.goto (-185), 3) := by decide +kernel
theorem dX7_waysOn_231 : decode cX7_waysOn 231 = .ok (.iinc 3 1, 3) := by decide +kernel
theorem dX7_waysOn_234 : decode cX7_waysOn 234 = .ok (.goto (-200), 3) := by decide +kernel
theorem dX7_waysOn_237 : decode cX7_waysOn 237 = .ok (.return_, 1) := by decide +kernel
theorem dX7_loudOn_0 : decode cX7_loudOn 0 = .ok (.iload_n 3, 1) := by decide +kernel
theorem dX7_loudOn_1 : decode cX7_loudOn 1 = .ok (.aload_n 0, 1) := by decide +kernel
theorem dX7_loudOn_2 : decode cX7_loudOn 2 = .ok (.getfield 25, 3) := by decide +kernel
theorem dX7_loudOn_5 : decode cX7_loudOn 5 = .ok (.iload_n 2, 1) := by decide +kernel
theorem dX7_loudOn_6 : decode cX7_loudOn 6 = .ok (.iaload, 1) := by decide +kernel
theorem dX7_loudOn_7 : decode cX7_loudOn 7 = .ok (.if_icmp .le 14, 3) := by decide +kernel
theorem dX7_loudOn_10 : decode cX7_loudOn 10 = .ok (.iload_n 3, 1) := by decide +kernel
theorem dX7_loudOn_11 : decode cX7_loudOn 11 = .ok (.aload_n 0, 1) := by decide +kernel
theorem dX7_loudOn_12 : decode cX7_loudOn 12 = .ok (.getfield 25, 3) := by decide +kernel
theorem dX7_loudOn_15 : decode cX7_loudOn 15 = .ok (.iload_n 2, 1) := by decide +kernel
theorem dX7_loudOn_16 : decode cX7_loudOn 16 = .ok (.iaload, 1) := by decide +kernel
theorem dX7_loudOn_17 : decode cX7_loudOn 17 = .ok (.isub, 1) := by decide +kernel
theorem dX7_loudOn_18 : decode cX7_loudOn 18 = .ok (.goto 4, 3) := by decide +kernel
theorem dX7_loudOn_21 : decode cX7_loudOn 21 = .ok (.iconst 0, 1) := by decide +kernel
theorem dX7_loudOn_22 : decode cX7_loudOn 22 = .ok (.istore 4, 2) := by decide +kernel
theorem dX7_loudOn_24 : decode cX7_loudOn 24 = .ok (.aload_n 0, 1) := by decide +kernel
theorem dX7_loudOn_25 : decode cX7_loudOn 25 = .ok (.getfield 7, 3) := by decide +kernel
theorem dX7_loudOn_28 : decode cX7_loudOn 28 = .ok (.iload_n 1, 1) := by decide +kernel
theorem dX7_loudOn_29 : decode cX7_loudOn 29 = .ok (.iload_n 2, 1) := by decide +kernel
theorem dX7_loudOn_30 : decode cX7_loudOn 30 = .ok (.iadd, 1) := by decide +kernel
theorem dX7_loudOn_31 : decode cX7_loudOn 31 = .ok (.iaload, 1) := by decide +kernel
theorem dX7_loudOn_32 : decode cX7_loudOn 32 = .ok (.istore 5, 2) := by decide +kernel
theorem dX7_loudOn_34 : decode cX7_loudOn 34 = .ok (.iload 5, 2) := by decide +kernel
theorem dX7_loudOn_36 : decode cX7_loudOn 36 = .ok (.ifCond .ne 8, 3) := by decide +kernel
theorem dX7_loudOn_39 : decode cX7_loudOn 39 = .ok (.iload 4, 2) := by decide +kernel
theorem dX7_loudOn_41 : decode cX7_loudOn 41 = .ok (.goto 47, 3) := by decide +kernel
theorem dX7_loudOn_44 : decode cX7_loudOn 44 = .ok (.iload 5, 2) := by decide +kernel
theorem dX7_loudOn_46 : decode cX7_loudOn 46 = .ok (.iconst 1, 1) := by decide +kernel
theorem dX7_loudOn_47 : decode cX7_loudOn 47 = .ok (.if_icmp .ne 10, 3) := by decide +kernel
theorem dX7_loudOn_50 : decode cX7_loudOn 50 = .ok (.iconst 2, 1) := by decide +kernel
theorem dX7_loudOn_51 : decode cX7_loudOn 51 = .ok (.iload 4, 2) := by decide +kernel
theorem dX7_loudOn_53 : decode cX7_loudOn 53 = .ok (.imul, 1) := by decide +kernel
theorem dX7_loudOn_54 : decode cX7_loudOn 54 = .ok (.goto 34, 3) := by decide +kernel
theorem dX7_loudOn_57 : decode cX7_loudOn 57 = .ok (.iload 5, 2) := by decide +kernel
theorem dX7_loudOn_59 : decode cX7_loudOn 59 = .ok (.iconst 2, 1) := by decide +kernel
theorem dX7_loudOn_60 : decode cX7_loudOn 60 = .ok (.if_icmp .ne 10, 3) := by decide +kernel
theorem dX7_loudOn_63 : decode cX7_loudOn 63 = .ok (.iload 4, 2) := by decide +kernel
theorem dX7_loudOn_65 : decode cX7_loudOn 65 = .ok (.iconst 2, 1) := by decide +kernel
theorem dX7_loudOn_66 : decode cX7_loudOn 66 = .ok (.idiv, 1) := by decide +kernel
theorem dX7_loudOn_67 : decode cX7_loudOn 67 = .ok (.goto 21, 3) := by decide +kernel
theorem dX7_loudOn_70 : decode cX7_loudOn 70 = .ok (.iconst 2, 1) := by decide +kernel
theorem dX7_loudOn_71 : decode cX7_loudOn 71 = .ok (.iload 4, 2) := by decide +kernel
theorem dX7_loudOn_73 : decode cX7_loudOn 73 = .ok (.imul, 1) := by decide +kernel
theorem dX7_loudOn_74 : decode cX7_loudOn 74 = .ok (.iconst 3, 1) := by decide +kernel
theorem dX7_loudOn_75 : decode cX7_loudOn 75 = .ok (.if_icmp .le 12, 3) := by decide +kernel
theorem dX7_loudOn_78 : decode cX7_loudOn 78 = .ok (.iconst 2, 1) := by decide +kernel
theorem dX7_loudOn_79 : decode cX7_loudOn 79 = .ok (.iload 4, 2) := by decide +kernel
theorem dX7_loudOn_81 : decode cX7_loudOn 81 = .ok (.imul, 1) := by decide +kernel
theorem dX7_loudOn_82 : decode cX7_loudOn 82 = .ok (.iconst 3, 1) := by decide +kernel
theorem dX7_loudOn_83 : decode cX7_loudOn 83 = .ok (.isub, 1) := by decide +kernel
theorem dX7_loudOn_84 : decode cX7_loudOn 84 = .ok (.goto 4, 3) := by decide +kernel
theorem dX7_loudOn_87 : decode cX7_loudOn 87 = .ok (.iconst 0, 1) := by decide +kernel
theorem dX7_loudOn_88 : decode cX7_loudOn 88 = .ok (.ireturn, 1) := by decide +kernel
theorem dX7_hearersOn_0 : decode cX7_hearersOn 0 = .ok (.iconst 0, 1) := by decide +kernel
theorem dX7_hearersOn_1 : decode cX7_hearersOn 1 = .ok (.istore_n 3, 1) := by decide +kernel
theorem dX7_hearersOn_2 : decode cX7_hearersOn 2 = .ok (.iconst 0, 1) := by decide +kernel
theorem dX7_hearersOn_3 : decode cX7_hearersOn 3 = .ok (.istore 4, 2) := by decide +kernel
theorem dX7_hearersOn_5 : decode cX7_hearersOn 5 = .ok (.iload 4, 2) := by decide +kernel
theorem dX7_hearersOn_7 : decode cX7_hearersOn 7 = .ok (.aload_n 0, 1) := by decide +kernel
theorem dX7_hearersOn_8 : decode cX7_hearersOn 8 = .ok (.getfield 136, 3) := by decide +kernel
theorem dX7_hearersOn_11 : decode cX7_hearersOn 11 = .ok (.if_icmp .ge 40, 3) := by decide +kernel
theorem dX7_hearersOn_14 : decode cX7_hearersOn 14 = .ok (.iload_n 3, 1) := by decide +kernel
theorem dX7_hearersOn_15 : decode cX7_hearersOn 15 = .ok (.aload_n 0, 1) := by decide +kernel
theorem dX7_hearersOn_16 : decode cX7_hearersOn 16 = .ok (.iload_n 1, 1) := by decide +kernel
theorem dX7_hearersOn_17 : decode cX7_hearersOn 17 = .ok (.iload 4, 2) := by decide +kernel
theorem dX7_hearersOn_19 : decode cX7_hearersOn 19 = .ok (.iload_n 2, 1) := by decide +kernel
theorem dX7_hearersOn_20 : decode cX7_hearersOn 20 = .ok (.invokevirtual 144, 3) := by decide +kernel
theorem dX7_hearersOn_23 : decode cX7_hearersOn 23 = .ok (.aload_n 0, 1) := by decide +kernel
theorem dX7_hearersOn_24 : decode cX7_hearersOn 24 = .ok (.getfield 7, 3) := by decide +kernel
theorem dX7_hearersOn_27 : decode cX7_hearersOn 27 = .ok (.iload_n 1, 1) := by decide +kernel
theorem dX7_hearersOn_28 : decode cX7_hearersOn 28 = .ok (.bipush 43, 2) := by decide +kernel
theorem dX7_hearersOn_30 : decode cX7_hearersOn 30 = .ok (.iadd, 1) := by decide +kernel
theorem dX7_hearersOn_31 : decode cX7_hearersOn 31 = .ok (.iaload, 1) := by decide +kernel
theorem dX7_hearersOn_32 : decode cX7_hearersOn 32 = .ok (.if_icmp .le 10, 3) := by decide +kernel
theorem dX7_hearersOn_35 : decode cX7_hearersOn 35 = .ok (.iconst 1, 1) := by decide +kernel
theorem dX7_hearersOn_36 : decode cX7_hearersOn 36 = .ok (.iload 4, 2) := by decide +kernel
theorem dX7_hearersOn_38 : decode cX7_hearersOn 38 = .ok (.ishl, 1) := by decide +kernel
theorem dX7_hearersOn_39 : decode cX7_hearersOn 39 = .ok (.goto 4, 3) := by decide +kernel
theorem dX7_hearersOn_42 : decode cX7_hearersOn 42 = .ok (.iconst 0, 1) := by decide +kernel
theorem dX7_hearersOn_43 : decode cX7_hearersOn 43 = .ok (.ior, 1) := by decide +kernel
theorem dX7_hearersOn_44 : decode cX7_hearersOn 44 = .ok (.istore_n 3, 1) := by decide +kernel
theorem dX7_hearersOn_45 : decode cX7_hearersOn 45 = .ok (.iinc 4 1, 3) := by decide +kernel
theorem dX7_hearersOn_48 : decode cX7_hearersOn 48 = .ok (.goto (-43), 3) := by decide +kernel
theorem dX7_hearersOn_51 : decode cX7_hearersOn 51 = .ok (.iload_n 3, 1) := by decide +kernel
theorem dX7_hearersOn_52 : decode cX7_hearersOn 52 = .ok (.ireturn, 1) := by decide +kernel
theorem dX7_hearsOn_0 : decode cX7_hearsOn 0 = .ok (.aload_n 0, 1) := by decide +kernel
theorem dX7_hearsOn_1 : decode cX7_hearsOn 1 = .ok (.iload_n 1, 1) := by decide +kernel
theorem dX7_hearsOn_2 : decode cX7_hearsOn 2 = .ok (.iload_n 2, 1) := by decide +kernel
theorem dX7_hearsOn_3 : decode cX7_hearsOn 3 = .ok (.invokevirtual 148, 3) := by decide +kernel
theorem dX7_hearsOn_6 : decode cX7_hearsOn 6 = .ok (.aload_n 0, 1) := by decide +kernel
theorem dX7_hearsOn_7 : decode cX7_hearsOn 7 = .ok (.iload_n 1, 1) := by decide +kernel
theorem dX7_hearsOn_8 : decode cX7_hearsOn 8 = .ok (.iload_n 3, 1) := by decide +kernel
theorem dX7_hearsOn_9 : decode cX7_hearsOn 9 = .ok (.invokevirtual 152, 3) := by decide +kernel
theorem dX7_hearsOn_12 : decode cX7_hearsOn 12 = .ok (.ireturn, 1) := by decide +kernel
theorem dX7_bitsOf_0 : decode cX7_bitsOf 0 = .ok (.iconst 0, 1) := by decide +kernel
theorem dX7_bitsOf_1 : decode cX7_bitsOf 1 = .ok (.istore_n 1, 1) := by decide +kernel
theorem dX7_bitsOf_2 : decode cX7_bitsOf 2 = .ok (.iload_n 0, 1) := by decide +kernel
theorem dX7_bitsOf_3 : decode cX7_bitsOf 3 = .ok (.istore_n 2, 1) := by decide +kernel
theorem dX7_bitsOf_4 : decode cX7_bitsOf 4 = .ok (.iload_n 2, 1) := by decide +kernel
theorem dX7_bitsOf_5 : decode cX7_bitsOf 5 = .ok (.ifCond .le 16, 3) := by decide +kernel
theorem dX7_bitsOf_8 : decode cX7_bitsOf 8 = .ok (.iload_n 1, 1) := by decide +kernel
theorem dX7_bitsOf_9 : decode cX7_bitsOf 9 = .ok (.iload_n 2, 1) := by decide +kernel
theorem dX7_bitsOf_10 : decode cX7_bitsOf 10 = .ok (.iconst 1, 1) := by decide +kernel
theorem dX7_bitsOf_11 : decode cX7_bitsOf 11 = .ok (.iand, 1) := by decide +kernel
theorem dX7_bitsOf_12 : decode cX7_bitsOf 12 = .ok (.iadd, 1) := by decide +kernel
theorem dX7_bitsOf_13 : decode cX7_bitsOf 13 = .ok (.istore_n 1, 1) := by decide +kernel
theorem dX7_bitsOf_14 : decode cX7_bitsOf 14 = .ok (.iload_n 2, 1) := by decide +kernel
theorem dX7_bitsOf_15 : decode cX7_bitsOf 15 = .ok (.iconst 1, 1) := by decide +kernel
theorem dX7_bitsOf_16 : decode cX7_bitsOf 16 = .ok (.ishr, 1) := by decide +kernel
theorem dX7_bitsOf_17 : decode cX7_bitsOf 17 = .ok (.istore_n 2, 1) := by decide +kernel
theorem dX7_bitsOf_18 : decode cX7_bitsOf 18 = .ok (.goto (-14), 3) := by decide +kernel
theorem dX7_bitsOf_21 : decode cX7_bitsOf 21 = .ok (.iload_n 1, 1) := by decide +kernel
theorem dX7_bitsOf_22 : decode cX7_bitsOf 22 = .ok (.ireturn, 1) := by decide +kernel
theorem dX7_talksOn_0 : decode cX7_talksOn 0 = .ok (.iconst 0, 1) := by decide +kernel
theorem dX7_talksOn_1 : decode cX7_talksOn 1 = .ok (.istore_n 2, 1) := by decide +kernel
theorem dX7_talksOn_2 : decode cX7_talksOn 2 = .ok (.iconst 0, 1) := by decide +kernel
theorem dX7_talksOn_3 : decode cX7_talksOn 3 = .ok (.istore_n 3, 1) := by decide +kernel
theorem dX7_talksOn_4 : decode cX7_talksOn 4 = .ok (.iload_n 3, 1) := by decide +kernel
theorem dX7_talksOn_5 : decode cX7_talksOn 5 = .ok (.aload_n 0, 1) := by decide +kernel
theorem dX7_talksOn_6 : decode cX7_talksOn 6 = .ok (.getfield 7, 3) := by decide +kernel
theorem dX7_talksOn_9 : decode cX7_talksOn 9 = .ok (.iload_n 1, 1) := by decide +kernel
theorem dX7_talksOn_10 : decode cX7_talksOn 10 = .ok (.bipush 62, 2) := by decide +kernel
theorem dX7_talksOn_12 : decode cX7_talksOn 12 = .ok (.iadd, 1) := by decide +kernel
theorem dX7_talksOn_13 : decode cX7_talksOn 13 = .ok (.iaload, 1) := by decide +kernel
theorem dX7_talksOn_14 : decode cX7_talksOn 14 = .ok (.if_icmp .ge 54, 3) := by decide +kernel
theorem dX7_talksOn_17 : decode cX7_talksOn 17 = .ok (.aload_n 0, 1) := by decide +kernel
theorem dX7_talksOn_18 : decode cX7_talksOn 18 = .ok (.getfield 28, 3) := by decide +kernel
theorem dX7_talksOn_21 : decode cX7_talksOn 21 = .ok (.iload_n 3, 1) := by decide +kernel
theorem dX7_talksOn_22 : decode cX7_talksOn 22 = .ok (.aload_n 0, 1) := by decide +kernel
theorem dX7_talksOn_23 : decode cX7_talksOn 23 = .ok (.iload_n 1, 1) := by decide +kernel
theorem dX7_talksOn_24 : decode cX7_talksOn 24 = .ok (.aload_n 0, 1) := by decide +kernel
theorem dX7_talksOn_25 : decode cX7_talksOn 25 = .ok (.getfield 7, 3) := by decide +kernel
theorem dX7_talksOn_28 : decode cX7_talksOn 28 = .ok (.iload_n 1, 1) := by decide +kernel
theorem dX7_talksOn_29 : decode cX7_talksOn 29 = .ok (.bipush 50, 2) := by decide +kernel
theorem dX7_talksOn_31 : decode cX7_talksOn 31 = .ok (.iadd, 1) := by decide +kernel
theorem dX7_talksOn_32 : decode cX7_talksOn 32 = .ok (.iload_n 3, 1) := by decide +kernel
theorem dX7_talksOn_33 : decode cX7_talksOn 33 = .ok (.iadd, 1) := by decide +kernel
theorem dX7_talksOn_34 : decode cX7_talksOn 34 = .ok (.iaload, 1) := by decide +kernel
theorem dX7_talksOn_35 : decode cX7_talksOn 35 = .ok (.aload_n 0, 1) := by decide +kernel
theorem dX7_talksOn_36 : decode cX7_talksOn 36 = .ok (.getfield 7, 3) := by decide +kernel
theorem dX7_talksOn_39 : decode cX7_talksOn 39 = .ok (.iload_n 1, 1) := by decide +kernel
theorem dX7_talksOn_40 : decode cX7_talksOn 40 = .ok (.bipush 56, 2) := by decide +kernel
theorem dX7_talksOn_42 : decode cX7_talksOn 42 = .ok (.iadd, 1) := by decide +kernel
theorem dX7_talksOn_43 : decode cX7_talksOn 43 = .ok (.iload_n 3, 1) := by decide +kernel
theorem dX7_talksOn_44 : decode cX7_talksOn 44 = .ok (.iadd, 1) := by decide +kernel
theorem dX7_talksOn_45 : decode cX7_talksOn 45 = .ok (.iaload, 1) := by decide +kernel
theorem dX7_talksOn_46 : decode cX7_talksOn 46 = .ok (.invokevirtual 155, 3) := by decide +kernel
theorem dX7_talksOn_49 : decode cX7_talksOn 49 = .ok (.iastore, 1) := by decide +kernel
theorem dX7_talksOn_50 : decode cX7_talksOn 50 = .ok (.iload_n 2, 1) := by decide +kernel
theorem dX7_talksOn_51 : decode cX7_talksOn 51 = .ok (.aload_n 0, 1) := by decide +kernel
theorem dX7_talksOn_52 : decode cX7_talksOn 52 = .ok (.getfield 28, 3) := by decide +kernel
theorem dX7_talksOn_55 : decode cX7_talksOn 55 = .ok (.iload_n 3, 1) := by decide +kernel
theorem dX7_talksOn_56 : decode cX7_talksOn 56 = .ok (.iaload, 1) := by decide +kernel
theorem dX7_talksOn_57 : decode cX7_talksOn 57 = .ok (.invokestatic 158, 3) := by decide +kernel
theorem dX7_talksOn_60 : decode cX7_talksOn 60 = .ok (.iadd, 1) := by decide +kernel
theorem dX7_talksOn_61 : decode cX7_talksOn 61 = .ok (.istore_n 2, 1) := by decide +kernel
theorem dX7_talksOn_62 : decode cX7_talksOn 62 = .ok (.iinc 3 1, 3) := by decide +kernel
theorem dX7_talksOn_65 : decode cX7_talksOn 65 = .ok (.goto (-61), 3) := by decide +kernel
theorem dX7_talksOn_68 : decode cX7_talksOn 68 = .ok (.iload_n 2, 1) := by decide +kernel
theorem dX7_talksOn_69 : decode cX7_talksOn 69 = .ok (.ireturn, 1) := by decide +kernel
theorem dX7_crossedOn_0 : decode cX7_crossedOn 0 = .ok (.iconst 0, 1) := by decide +kernel
theorem dX7_crossedOn_1 : decode cX7_crossedOn 1 = .ok (.istore_n 2, 1) := by decide +kernel
theorem dX7_crossedOn_2 : decode cX7_crossedOn 2 = .ok (.aload_n 0, 1) := by decide +kernel
theorem dX7_crossedOn_3 : decode cX7_crossedOn 3 = .ok (.iload_n 1, 1) := by decide +kernel
theorem dX7_crossedOn_4 : decode cX7_crossedOn 4 = .ok (.invokevirtual 161, 3) := by decide +kernel
theorem dX7_crossedOn_7 : decode cX7_crossedOn 7 = .ok (.pop, 1) := by decide +kernel
theorem dX7_crossedOn_8 : decode cX7_crossedOn 8 = .ok (.iconst 0, 1) := by decide +kernel
theorem dX7_crossedOn_9 : decode cX7_crossedOn 9 = .ok (.istore_n 3, 1) := by decide +kernel
theorem dX7_crossedOn_10 : decode cX7_crossedOn 10 = .ok (.iload_n 3, 1) := by decide +kernel
theorem dX7_crossedOn_11 : decode cX7_crossedOn 11 = .ok (.aload_n 0, 1) := by decide +kernel
theorem dX7_crossedOn_12 : decode cX7_crossedOn 12 = .ok (.getfield 7, 3) := by decide +kernel
theorem dX7_crossedOn_15 : decode cX7_crossedOn 15 = .ok (.iload_n 1, 1) := by decide +kernel
theorem dX7_crossedOn_16 : decode cX7_crossedOn 16 = .ok (.bipush 62, 2) := by decide +kernel
theorem dX7_crossedOn_18 : decode cX7_crossedOn 18 = .ok (.iadd, 1) := by decide +kernel
theorem dX7_crossedOn_19 : decode cX7_crossedOn 19 = .ok (.iaload, 1) := by decide +kernel
theorem dX7_crossedOn_20 : decode cX7_crossedOn 20 = .ok (.if_icmp .ge 75, 3) := by decide +kernel
theorem dX7_crossedOn_23 : decode cX7_crossedOn 23 = .ok (.iconst 0, 1) := by decide +kernel
theorem dX7_crossedOn_24 : decode cX7_crossedOn 24 = .ok (.istore 4, 2) := by decide +kernel
theorem dX7_crossedOn_26 : decode cX7_crossedOn 26 = .ok (.iload 4, 2) := by decide +kernel
theorem dX7_crossedOn_28 : decode cX7_crossedOn 28 = .ok (.iload_n 3, 1) := by decide +kernel
theorem dX7_crossedOn_29 : decode cX7_crossedOn 29 = .ok (.if_icmp .ge 60, 3) := by decide +kernel
theorem dX7_crossedOn_32 : decode cX7_crossedOn 32 = .ok (.iload_n 2, 1) := by decide +kernel
theorem dX7_crossedOn_33 : decode cX7_crossedOn 33 = .ok (.aload_n 0, 1) := by decide +kernel
theorem dX7_crossedOn_34 : decode cX7_crossedOn 34 = .ok (.getfield 7, 3) := by decide +kernel
theorem dX7_crossedOn_37 : decode cX7_crossedOn 37 = .ok (.iload_n 1, 1) := by decide +kernel
theorem dX7_crossedOn_38 : decode cX7_crossedOn 38 = .ok (.bipush 44, 2) := by decide +kernel
theorem dX7_crossedOn_40 : decode cX7_crossedOn 40 = .ok (.iadd, 1) := by decide +kernel
theorem dX7_crossedOn_41 : decode cX7_crossedOn 41 = .ok (.iload_n 3, 1) := by decide +kernel
theorem dX7_crossedOn_42 : decode cX7_crossedOn 42 = .ok (.iadd, 1) := by decide +kernel
theorem dX7_crossedOn_43 : decode cX7_crossedOn 43 = .ok (.iaload, 1) := by decide +kernel
theorem dX7_crossedOn_44 : decode cX7_crossedOn 44 = .ok (.aload_n 0, 1) := by decide +kernel
theorem dX7_crossedOn_45 : decode cX7_crossedOn 45 = .ok (.getfield 7, 3) := by decide +kernel
theorem dX7_crossedOn_48 : decode cX7_crossedOn 48 = .ok (.iload_n 1, 1) := by decide +kernel
theorem dX7_crossedOn_49 : decode cX7_crossedOn 49 = .ok (.bipush 44, 2) := by decide +kernel
theorem dX7_crossedOn_51 : decode cX7_crossedOn 51 = .ok (.iadd, 1) := by decide +kernel
theorem dX7_crossedOn_52 : decode cX7_crossedOn 52 = .ok (.iload 4, 2) := by decide +kernel
theorem dX7_crossedOn_54 : decode cX7_crossedOn 54 = .ok (.iadd, 1) := by decide +kernel
theorem dX7_crossedOn_55 : decode cX7_crossedOn 55 = .ok (.iaload, 1) := by decide +kernel
theorem dX7_crossedOn_56 : decode cX7_crossedOn 56 = .ok (.if_icmp .ne 24, 3) := by decide +kernel
theorem dX7_crossedOn_59 : decode cX7_crossedOn 59 = .ok (.aload_n 0, 1) := by decide +kernel
theorem dX7_crossedOn_60 : decode cX7_crossedOn 60 = .ok (.getfield 28, 3) := by decide +kernel
theorem dX7_crossedOn_63 : decode cX7_crossedOn 63 = .ok (.iload_n 3, 1) := by decide +kernel
theorem dX7_crossedOn_64 : decode cX7_crossedOn 64 = .ok (.iaload, 1) := by decide +kernel
theorem dX7_crossedOn_65 : decode cX7_crossedOn 65 = .ok (.aload_n 0, 1) := by decide +kernel
theorem dX7_crossedOn_66 : decode cX7_crossedOn 66 = .ok (.getfield 28, 3) := by decide +kernel
theorem dX7_crossedOn_69 : decode cX7_crossedOn 69 = .ok (.iload 4, 2) := by decide +kernel
theorem dX7_crossedOn_71 : decode cX7_crossedOn 71 = .ok (.iaload, 1) := by decide +kernel
theorem dX7_crossedOn_72 : decode cX7_crossedOn 72 = .ok (.iand, 1) := by decide +kernel
theorem dX7_crossedOn_73 : decode cX7_crossedOn 73 = .ok (.ifCond .eq 7, 3) := by decide +kernel
theorem dX7_crossedOn_76 : decode cX7_crossedOn 76 = .ok (.iconst 1, 1) := by decide +kernel
theorem dX7_crossedOn_77 : decode cX7_crossedOn 77 = .ok (.goto 4, 3) := by decide +kernel
theorem dX7_crossedOn_80 : decode cX7_crossedOn 80 = .ok (.iconst 0, 1) := by decide +kernel
theorem dX7_crossedOn_81 : decode cX7_crossedOn 81 = .ok (.iadd, 1) := by decide +kernel
theorem dX7_crossedOn_82 : decode cX7_crossedOn 82 = .ok (.istore_n 2, 1) := by decide +kernel
theorem dX7_crossedOn_83 : decode cX7_crossedOn 83 = .ok (.iinc 4 1, 3) := by decide +kernel
theorem dX7_crossedOn_86 : decode cX7_crossedOn 86 = .ok (.goto (-60), 3) := by decide +kernel
theorem dX7_crossedOn_89 : decode cX7_crossedOn 89 = .ok (.iinc 3 1, 3) := by decide +kernel
theorem dX7_crossedOn_92 : decode cX7_crossedOn 92 = .ok (.goto (-82), 3) := by decide +kernel
theorem dX7_crossedOn_95 : decode cX7_crossedOn 95 = .ok (.iload_n 2, 1) := by decide +kernel
theorem dX7_crossedOn_96 : decode cX7_crossedOn 96 = .ok (.ireturn, 1) := by decide +kernel
theorem dX7_rule_0 : decode cX7_rule 0 = .ok (.iconst 0, 1) := by decide +kernel
theorem dX7_rule_1 : decode cX7_rule 1 = .ok (.istore_n 2, 1) := by decide +kernel
theorem dX7_rule_2 : decode cX7_rule 2 = .ok (.iconst 0, 1) := by decide +kernel
theorem dX7_rule_3 : decode cX7_rule 3 = .ok (.istore_n 3, 1) := by decide +kernel
theorem dX7_rule_4 : decode cX7_rule 4 = .ok (.iload_n 3, 1) := by decide +kernel
theorem dX7_rule_5 : decode cX7_rule 5 = .ok (.aload_n 0, 1) := by decide +kernel
theorem dX7_rule_6 : decode cX7_rule 6 = .ok (.getfield 7, 3) := by decide +kernel
theorem dX7_rule_9 : decode cX7_rule 9 = .ok (.bipush 42, 2) := by decide +kernel
theorem dX7_rule_11 : decode cX7_rule 11 = .ok (.iaload, 1) := by decide +kernel
theorem dX7_rule_12 : decode cX7_rule 12 = .ok (.if_icmp .ge 23, 3) := by decide +kernel
theorem dX7_rule_15 : decode cX7_rule 15 = .ok (.iload_n 2, 1) := by decide +kernel
theorem dX7_rule_16 : decode cX7_rule 16 = .ok (.aload_n 0, 1) := by decide +kernel
theorem dX7_rule_17 : decode cX7_rule 17 = .ok (.getfield 7, 3) := by decide +kernel
theorem dX7_rule_20 : decode cX7_rule 20 = .ok (.bipush 33, 2) := by decide +kernel
theorem dX7_rule_22 : decode cX7_rule 22 = .ok (.iload_n 3, 1) := by decide +kernel
theorem dX7_rule_23 : decode cX7_rule 23 = .ok (.iadd, 1) := by decide +kernel
theorem dX7_rule_24 : decode cX7_rule 24 = .ok (.iaload, 1) := by decide +kernel
theorem dX7_rule_25 : decode cX7_rule 25 = .ok (.iload_n 3, 1) := by decide +kernel
theorem dX7_rule_26 : decode cX7_rule 26 = .ok (.ishl, 1) := by decide +kernel
theorem dX7_rule_27 : decode cX7_rule 27 = .ok (.ior, 1) := by decide +kernel
theorem dX7_rule_28 : decode cX7_rule 28 = .ok (.istore_n 2, 1) := by decide +kernel
theorem dX7_rule_29 : decode cX7_rule 29 = .ok (.iinc 3 1, 3) := by decide +kernel
theorem dX7_rule_32 : decode cX7_rule 32 = .ok (.goto (-28), 3) := by decide +kernel
theorem dX7_rule_35 : decode cX7_rule 35 = .ok (.iload_n 1, 1) := by decide +kernel
theorem dX7_rule_36 : decode cX7_rule 36 = .ok (.tableswitch 77 0 5 #[40, 45, 53, 61, 69, 71], 40) := by decide +kernel
theorem dX7_rule_76 : decode cX7_rule 76 = .ok (.aload_n 0, 1) := by decide +kernel
theorem dX7_rule_77 : decode cX7_rule 77 = .ok (.getfield 136, 3) := by decide +kernel
theorem dX7_rule_80 : decode cX7_rule 80 = .ok (.ireturn, 1) := by decide +kernel
theorem dX7_rule_81 : decode cX7_rule 81 = .ok (.aload_n 0, 1) := by decide +kernel
theorem dX7_rule_82 : decode cX7_rule 82 = .ok (.getfield 7, 3) := by decide +kernel
theorem dX7_rule_85 : decode cX7_rule 85 = .ok (.bipush 42, 2) := by decide +kernel
theorem dX7_rule_87 : decode cX7_rule 87 = .ok (.iaload, 1) := by decide +kernel
theorem dX7_rule_88 : decode cX7_rule 88 = .ok (.ireturn, 1) := by decide +kernel
theorem dX7_rule_89 : decode cX7_rule 89 = .ok (.aload_n 0, 1) := by decide +kernel
theorem dX7_rule_90 : decode cX7_rule 90 = .ok (.getfield 7, 3) := by decide +kernel
theorem dX7_rule_93 : decode cX7_rule 93 = .ok (.bipush 43, 2) := by decide +kernel
theorem dX7_rule_95 : decode cX7_rule 95 = .ok (.iaload, 1) := by decide +kernel
theorem dX7_rule_96 : decode cX7_rule 96 = .ok (.ireturn, 1) := by decide +kernel
theorem dX7_rule_97 : decode cX7_rule 97 = .ok (.aload_n 0, 1) := by decide +kernel
theorem dX7_rule_98 : decode cX7_rule 98 = .ok (.getfield 7, 3) := by decide +kernel
theorem dX7_rule_101 : decode cX7_rule 101 = .ok (.bipush 62, 2) := by decide +kernel
theorem dX7_rule_103 : decode cX7_rule 103 = .ok (.iaload, 1) := by decide +kernel
theorem dX7_rule_104 : decode cX7_rule 104 = .ok (.ireturn, 1) := by decide +kernel
theorem dX7_rule_105 : decode cX7_rule 105 = .ok (.iload_n 2, 1) := by decide +kernel
theorem dX7_rule_106 : decode cX7_rule 106 = .ok (.ireturn, 1) := by decide +kernel
theorem dX7_rule_107 : decode cX7_rule 107 = .ok (.aload_n 0, 1) := by decide +kernel
theorem dX7_rule_108 : decode cX7_rule 108 = .ok (.iconst 0, 1) := by decide +kernel
theorem dX7_rule_109 : decode cX7_rule 109 = .ok (.invokevirtual 164, 3) := by decide +kernel
theorem dX7_rule_112 : decode cX7_rule 112 = .ok (.ireturn, 1) := by decide +kernel
theorem dX7_rule_113 : decode cX7_rule 113 = .ok (.iconst (-1), 1) := by decide +kernel
theorem dX7_rule_114 : decode cX7_rule 114 = .ok (.ireturn, 1) := by decide +kernel
theorem dX7_tree_0 : decode cX7_tree 0 = .ok (.aload_n 0, 1) := by decide +kernel
theorem dX7_tree_1 : decode cX7_tree 1 = .ok (.iload_n 1, 1) := by decide +kernel
theorem dX7_tree_2 : decode cX7_tree 2 = .ok (.invokevirtual 167, 3) := by decide +kernel
theorem dX7_tree_5 : decode cX7_tree 5 = .ok (.ifCond .eq 15, 3) := by decide +kernel
theorem dX7_tree_8 : decode cX7_tree 8 = .ok (.iload_n 2, 1) := by decide +kernel
theorem dX7_tree_9 : decode cX7_tree 9 = .ok (.i2l, 1) := by decide +kernel
theorem dX7_tree_10 : decode cX7_tree 10 = .ok (.lconst 0, 1) := by decide +kernel
theorem dX7_tree_11 : decode cX7_tree 11 = .ok (.ldc2_w 170, 3) := by decide +kernel
theorem dX7_tree_14 : decode cX7_tree 14 = .ok (.invokestatic 52, 3) := by decide +kernel
theorem dX7_tree_17 : decode cX7_tree 17 = .ok (.ifCond .ne 5, 3) := by decide +kernel
theorem dX7_tree_20 : decode cX7_tree 20 = .ok (.iconst (-1), 1) := by decide +kernel
theorem dX7_tree_21 : decode cX7_tree 21 = .ok (.ireturn, 1) := by decide +kernel
theorem dX7_tree_22 : decode cX7_tree 22 = .ok (.iconst 0, 1) := by decide +kernel
theorem dX7_tree_23 : decode cX7_tree 23 = .ok (.istore_n 3, 1) := by decide +kernel
theorem dX7_tree_24 : decode cX7_tree 24 = .ok (.iconst 0, 1) := by decide +kernel
theorem dX7_tree_25 : decode cX7_tree 25 = .ok (.istore 4, 2) := by decide +kernel
theorem dX7_tree_27 : decode cX7_tree 27 = .ok (.iconst 0, 1) := by decide +kernel
theorem dX7_tree_28 : decode cX7_tree 28 = .ok (.istore 5, 2) := by decide +kernel
theorem dX7_tree_30 : decode cX7_tree 30 = .ok (.iconst 0, 1) := by decide +kernel
theorem dX7_tree_31 : decode cX7_tree 31 = .ok (.istore 6, 2) := by decide +kernel
theorem dX7_tree_33 : decode cX7_tree 33 = .ok (.iload 6, 2) := by decide +kernel
theorem dX7_tree_35 : decode cX7_tree 35 = .ok (.aload_n 0, 1) := by decide +kernel
theorem dX7_tree_36 : decode cX7_tree 36 = .ok (.getfield 7, 3) := by decide +kernel
theorem dX7_tree_39 : decode cX7_tree 39 = .ok (.bipush 42, 2) := by decide +kernel
theorem dX7_tree_41 : decode cX7_tree 41 = .ok (.iaload, 1) := by decide +kernel
theorem dX7_tree_42 : decode cX7_tree 42 = .ok (.if_icmp .ge 58, 3) := by decide +kernel
theorem dX7_tree_45 : decode cX7_tree 45 = .ok (.iload_n 3, 1) := by decide +kernel
theorem dX7_tree_46 : decode cX7_tree 46 = .ok (.aload_n 0, 1) := by decide +kernel
theorem dX7_tree_47 : decode cX7_tree 47 = .ok (.getfield 7, 3) := by decide +kernel
theorem dX7_tree_50 : decode cX7_tree 50 = .ok (.bipush 33, 2) := by decide +kernel
theorem dX7_tree_52 : decode cX7_tree 52 = .ok (.iload 6, 2) := by decide +kernel
theorem dX7_tree_54 : decode cX7_tree 54 = .ok (.iadd, 1) := by decide +kernel
theorem dX7_tree_55 : decode cX7_tree 55 = .ok (.iaload, 1) := by decide +kernel
theorem dX7_tree_56 : decode cX7_tree 56 = .ok (.ifCond .ne 35, 3) := by decide +kernel
theorem dX7_tree_59 : decode cX7_tree 59 = .ok (.aload_n 0, 1) := by decide +kernel
theorem dX7_tree_60 : decode cX7_tree 60 = .ok (.getfield 7, 3) := by decide +kernel
theorem dX7_tree_63 : decode cX7_tree 63 = .ok (.bipush 6, 2) := by decide +kernel
theorem dX7_tree_65 : decode cX7_tree 65 = .ok (.iload 6, 2) := by decide +kernel
theorem dX7_tree_67 : decode cX7_tree 67 = .ok (.iadd, 1) := by decide +kernel
theorem dX7_tree_68 : decode cX7_tree 68 = .ok (.iaload, 1) := by decide +kernel
theorem dX7_tree_69 : decode cX7_tree 69 = .ok (.iload_n 1, 1) := by decide +kernel
theorem dX7_tree_70 : decode cX7_tree 70 = .ok (.if_icmp .eq 17, 3) := by decide +kernel
theorem dX7_tree_73 : decode cX7_tree 73 = .ok (.aload_n 0, 1) := by decide +kernel
theorem dX7_tree_74 : decode cX7_tree 74 = .ok (.getfield 7, 3) := by decide +kernel
theorem dX7_tree_77 : decode cX7_tree 77 = .ok (.bipush 15, 2) := by decide +kernel
theorem dX7_tree_79 : decode cX7_tree 79 = .ok (.iload 6, 2) := by decide +kernel
theorem dX7_tree_81 : decode cX7_tree 81 = .ok (.iadd, 1) := by decide +kernel
theorem dX7_tree_82 : decode cX7_tree 82 = .ok (.iaload, 1) := by decide +kernel
theorem dX7_tree_83 : decode cX7_tree 83 = .ok (.iload_n 1, 1) := by decide +kernel
theorem dX7_tree_84 : decode cX7_tree 84 = .ok (.if_icmp .ne 7, 3) := by decide +kernel
theorem dX7_tree_87 : decode cX7_tree 87 = .ok (.iconst 1, 1) := by decide +kernel
theorem dX7_tree_88 : decode cX7_tree 88 = .ok (.goto 4, 3) := by decide +kernel
theorem dX7_tree_91 : decode cX7_tree 91 = .ok (.iconst 0, 1) := by decide +kernel
theorem dX7_tree_92 : decode cX7_tree 92 = .ok (.iadd, 1) := by decide +kernel
theorem dX7_tree_93 : decode cX7_tree 93 = .ok (.istore_n 3, 1) := by decide +kernel
theorem dX7_tree_94 : decode cX7_tree 94 = .ok (.iinc 6 1, 3) := by decide +kernel
theorem dX7_tree_97 : decode cX7_tree 97 = .ok (.goto (-64), 3) := by decide +kernel
theorem dX7_tree_100 : decode cX7_tree 100 = .ok (.aload_n 0, 1) := by decide +kernel
theorem dX7_tree_101 : decode cX7_tree 101 = .ok (.iconst 0, 1) := by decide +kernel
theorem dX7_tree_102 : decode cX7_tree 102 = .ok (.iload_n 1, 1) := by decide +kernel
theorem dX7_tree_103 : decode cX7_tree 103 = .ok (.invokevirtual 148, 3) := by decide +kernel
theorem dX7_tree_106 : decode cX7_tree 106 = .ok (.iconst 0, 1) := by decide +kernel
theorem dX7_tree_107 : decode cX7_tree 107 = .ok (.istore 6, 2) := by decide +kernel
theorem dX7_tree_109 : decode cX7_tree 109 = .ok (.iload 6, 2) := by decide +kernel
theorem dX7_tree_111 : decode cX7_tree 111 = .ok (.aload_n 0, 1) := by decide +kernel
theorem dX7_tree_112 : decode cX7_tree 112 = .ok (.getfield 136, 3) := by decide +kernel
theorem dX7_tree_115 : decode cX7_tree 115 = .ok (.if_icmp .ge 35, 3) := by decide +kernel
theorem dX7_tree_118 : decode cX7_tree 118 = .ok (.iload 4, 2) := by decide +kernel
theorem dX7_tree_120 : decode cX7_tree 120 = .ok (.aload_n 0, 1) := by decide +kernel
theorem dX7_tree_121 : decode cX7_tree 121 = .ok (.getfield 25, 3) := by decide +kernel
theorem dX7_tree_124 : decode cX7_tree 124 = .ok (.iload 6, 2) := by decide +kernel
theorem dX7_tree_126 : decode cX7_tree 126 = .ok (.iaload, 1) := by decide +kernel
theorem dX7_tree_127 : decode cX7_tree 127 = .ok (.sipush 1000, 3) := by decide +kernel
theorem dX7_tree_130 : decode cX7_tree 130 = .ok (.if_icmp .ge 10, 3) := by decide +kernel
theorem dX7_tree_133 : decode cX7_tree 133 = .ok (.iconst 1, 1) := by decide +kernel
theorem dX7_tree_134 : decode cX7_tree 134 = .ok (.iload 6, 2) := by decide +kernel
theorem dX7_tree_136 : decode cX7_tree 136 = .ok (.ishl, 1) := by decide +kernel
theorem dX7_tree_137 : decode cX7_tree 137 = .ok (.goto 4, 3) := by decide +kernel
theorem dX7_tree_140 : decode cX7_tree 140 = .ok (.iconst 0, 1) := by decide +kernel
theorem dX7_tree_141 : decode cX7_tree 141 = .ok (.ior, 1) := by decide +kernel
theorem dX7_tree_142 : decode cX7_tree 142 = .ok (.istore 4, 2) := by decide +kernel
theorem dX7_tree_144 : decode cX7_tree 144 = .ok (.iinc 6 1, 3) := by decide +kernel
theorem dX7_tree_147 : decode cX7_tree 147 = .ok (.goto (-38), 3) := by decide +kernel
theorem dX7_tree_150 : decode cX7_tree 150 = .ok (.aload_n 0, 1) := by decide +kernel
theorem dX7_tree_151 : decode cX7_tree 151 = .ok (.iconst 0, 1) := by decide +kernel
theorem dX7_tree_152 : decode cX7_tree 152 = .ok (.invokevirtual 161, 3) := by decide +kernel
theorem dX7_tree_155 : decode cX7_tree 155 = .ok (.pop, 1) := by decide +kernel
theorem dX7_tree_156 : decode cX7_tree 156 = .ok (.iconst 0, 1) := by decide +kernel
theorem dX7_tree_157 : decode cX7_tree 157 = .ok (.istore 6, 2) := by decide +kernel
theorem dX7_tree_159 : decode cX7_tree 159 = .ok (.iload 6, 2) := by decide +kernel
theorem dX7_tree_161 : decode cX7_tree 161 = .ok (.aload_n 0, 1) := by decide +kernel
theorem dX7_tree_162 : decode cX7_tree 162 = .ok (.getfield 7, 3) := by decide +kernel
theorem dX7_tree_165 : decode cX7_tree 165 = .ok (.bipush 62, 2) := by decide +kernel
theorem dX7_tree_167 : decode cX7_tree 167 = .ok (.iaload, 1) := by decide +kernel
theorem dX7_tree_168 : decode cX7_tree 168 = .ok (.if_icmp .ge 28, 3) := by decide +kernel
theorem dX7_tree_171 : decode cX7_tree 171 = .ok (.iload 5, 2) := by decide +kernel
theorem dX7_tree_173 : decode cX7_tree 173 = .ok (.aload_n 0, 1) := by decide +kernel
theorem dX7_tree_174 : decode cX7_tree 174 = .ok (.getfield 28, 3) := by decide +kernel
theorem dX7_tree_177 : decode cX7_tree 177 = .ok (.iload 6, 2) := by decide +kernel
theorem dX7_tree_179 : decode cX7_tree 179 = .ok (.iaload, 1) := by decide +kernel
theorem dX7_tree_180 : decode cX7_tree 180 = .ok (.iload_n 1, 1) := by decide +kernel
theorem dX7_tree_181 : decode cX7_tree 181 = .ok (.ishr, 1) := by decide +kernel
theorem dX7_tree_182 : decode cX7_tree 182 = .ok (.iconst 1, 1) := by decide +kernel
theorem dX7_tree_183 : decode cX7_tree 183 = .ok (.iand, 1) := by decide +kernel
theorem dX7_tree_184 : decode cX7_tree 184 = .ok (.iload 6, 2) := by decide +kernel
theorem dX7_tree_186 : decode cX7_tree 186 = .ok (.ishl, 1) := by decide +kernel
theorem dX7_tree_187 : decode cX7_tree 187 = .ok (.ior, 1) := by decide +kernel
theorem dX7_tree_188 : decode cX7_tree 188 = .ok (.istore 5, 2) := by decide +kernel
theorem dX7_tree_190 : decode cX7_tree 190 = .ok (.iinc 6 1, 3) := by decide +kernel
theorem dX7_tree_193 : decode cX7_tree 193 = .ok (.goto (-34), 3) := by decide +kernel
theorem dX7_tree_196 : decode cX7_tree 196 = .ok (.iload_n 2, 1) := by decide +kernel
theorem dX7_tree_197 : decode cX7_tree 197 = .ok (.ifCond .ne 12, 3) := by decide +kernel
theorem dX7_tree_200 : decode cX7_tree 200 = .ok (.aload_n 0, 1) := by decide +kernel
theorem dX7_tree_201 : decode cX7_tree 201 = .ok (.getfield 7, 3) := by decide +kernel
theorem dX7_tree_204 : decode cX7_tree 204 = .ok (.iload_n 1, 1) := by decide +kernel
theorem dX7_tree_205 : decode cX7_tree 205 = .ok (.iaload, 1) := by decide +kernel
theorem dX7_tree_206 : decode cX7_tree 206 = .ok (.goto 24, 3) := by decide +kernel
theorem dX7_tree_209 : decode cX7_tree 209 = .ok (.iload_n 2, 1) := by decide +kernel
theorem dX7_tree_210 : decode cX7_tree 210 = .ok (.iconst 1, 1) := by decide +kernel
theorem dX7_tree_211 : decode cX7_tree 211 = .ok (.if_icmp .ne 7, 3) := by decide +kernel
theorem dX7_tree_214 : decode cX7_tree 214 = .ok (.iload_n 3, 1) := by decide +kernel
theorem dX7_tree_215 : decode cX7_tree 215 = .ok (.goto 15, 3) := by decide +kernel
theorem dX7_tree_218 : decode cX7_tree 218 = .ok (.iload_n 2, 1) := by decide +kernel
theorem dX7_tree_219 : decode cX7_tree 219 = .ok (.iconst 2, 1) := by decide +kernel
theorem dX7_tree_220 : decode cX7_tree 220 = .ok (.if_icmp .ne 8, 3) := by decide +kernel
theorem dX7_tree_223 : decode cX7_tree 223 = .ok (.iload 4, 2) := by decide +kernel
theorem dX7_tree_225 : decode cX7_tree 225 = .ok (.goto 5, 3) := by decide +kernel
theorem dX7_tree_228 : decode cX7_tree 228 = .ok (.iload 5, 2) := by decide +kernel
theorem dX7_tree_230 : decode cX7_tree 230 = .ok (.ireturn, 1) := by decide +kernel
theorem dX7_root_0 : decode cX7_root 0 = .ok (.aload_n 0, 1) := by decide +kernel
theorem dX7_root_1 : decode cX7_root 1 = .ok (.iload_n 1, 1) := by decide +kernel
theorem dX7_root_2 : decode cX7_root 2 = .ok (.invokevirtual 172, 3) := by decide +kernel
theorem dX7_root_5 : decode cX7_root 5 = .ok (.ifCond .eq 32, 3) := by decide +kernel
theorem dX7_root_8 : decode cX7_root 8 = .ok (.iload_n 2, 1) := by decide +kernel
theorem dX7_root_9 : decode cX7_root 9 = .ok (.i2l, 1) := by decide +kernel
theorem dX7_root_10 : decode cX7_root 10 = .ok (.lconst 0, 1) := by decide +kernel
theorem dX7_root_11 : decode cX7_root 11 = .ok (.ldc2_w 170, 3) := by decide +kernel
theorem dX7_root_14 : decode cX7_root 14 = .ok (.invokestatic 52, 3) := by decide +kernel
theorem dX7_root_17 : decode cX7_root 17 = .ok (.ifCond .eq 20, 3) := by decide +kernel
theorem dX7_root_20 : decode cX7_root 20 = .ok (.aload_n 0, 1) := by decide +kernel
theorem dX7_root_21 : decode cX7_root 21 = .ok (.getfield 7, 3) := by decide +kernel
theorem dX7_root_24 : decode cX7_root 24 = .ok (.bipush 6, 2) := by decide +kernel
theorem dX7_root_26 : decode cX7_root 26 = .ok (.bipush 9, 2) := by decide +kernel
theorem dX7_root_28 : decode cX7_root 28 = .ok (.iload_n 2, 1) := by decide +kernel
theorem dX7_root_29 : decode cX7_root 29 = .ok (.imul, 1) := by decide +kernel
theorem dX7_root_30 : decode cX7_root 30 = .ok (.iadd, 1) := by decide +kernel
theorem dX7_root_31 : decode cX7_root 31 = .ok (.iload_n 1, 1) := by decide +kernel
theorem dX7_root_32 : decode cX7_root 32 = .ok (.iadd, 1) := by decide +kernel
theorem dX7_root_33 : decode cX7_root 33 = .ok (.iaload, 1) := by decide +kernel
theorem dX7_root_34 : decode cX7_root 34 = .ok (.goto 4, 3) := by decide +kernel
theorem dX7_root_37 : decode cX7_root 37 = .ok (.iconst (-1), 1) := by decide +kernel
theorem dX7_root_38 : decode cX7_root 38 = .ok (.ireturn, 1) := by decide +kernel
theorem dX7_talk_0 : decode cX7_talk 0 = .ok (.aload_n 0, 1) := by decide +kernel
theorem dX7_talk_1 : decode cX7_talk 1 = .ok (.iload_n 1, 1) := by decide +kernel
theorem dX7_talk_2 : decode cX7_talk 2 = .ok (.invokevirtual 175, 3) := by decide +kernel
theorem dX7_talk_5 : decode cX7_talk 5 = .ok (.ifCond .eq 15, 3) := by decide +kernel
theorem dX7_talk_8 : decode cX7_talk 8 = .ok (.iload_n 2, 1) := by decide +kernel
theorem dX7_talk_9 : decode cX7_talk 9 = .ok (.i2l, 1) := by decide +kernel
theorem dX7_talk_10 : decode cX7_talk 10 = .ok (.lconst 0, 1) := by decide +kernel
theorem dX7_talk_11 : decode cX7_talk 11 = .ok (.ldc2_w 170, 3) := by decide +kernel
theorem dX7_talk_14 : decode cX7_talk 14 = .ok (.invokestatic 52, 3) := by decide +kernel
theorem dX7_talk_17 : decode cX7_talk 17 = .ok (.ifCond .ne 5, 3) := by decide +kernel
theorem dX7_talk_20 : decode cX7_talk 20 = .ok (.iconst (-1), 1) := by decide +kernel
theorem dX7_talk_21 : decode cX7_talk 21 = .ok (.ireturn, 1) := by decide +kernel
theorem dX7_talk_22 : decode cX7_talk 22 = .ok (.iload_n 2, 1) := by decide +kernel
theorem dX7_talk_23 : decode cX7_talk 23 = .ok (.iconst 3, 1) := by decide +kernel
theorem dX7_talk_24 : decode cX7_talk 24 = .ok (.if_icmp .ge 20, 3) := by decide +kernel
theorem dX7_talk_27 : decode cX7_talk 27 = .ok (.aload_n 0, 1) := by decide +kernel
theorem dX7_talk_28 : decode cX7_talk 28 = .ok (.getfield 7, 3) := by decide +kernel
theorem dX7_talk_31 : decode cX7_talk 31 = .ok (.bipush 44, 2) := by decide +kernel
theorem dX7_talk_33 : decode cX7_talk 33 = .ok (.bipush 6, 2) := by decide +kernel
theorem dX7_talk_35 : decode cX7_talk 35 = .ok (.iload_n 2, 1) := by decide +kernel
theorem dX7_talk_36 : decode cX7_talk 36 = .ok (.imul, 1) := by decide +kernel
theorem dX7_talk_37 : decode cX7_talk 37 = .ok (.iadd, 1) := by decide +kernel
theorem dX7_talk_38 : decode cX7_talk 38 = .ok (.iload_n 1, 1) := by decide +kernel
theorem dX7_talk_39 : decode cX7_talk 39 = .ok (.iadd, 1) := by decide +kernel
theorem dX7_talk_40 : decode cX7_talk 40 = .ok (.iaload, 1) := by decide +kernel
theorem dX7_talk_41 : decode cX7_talk 41 = .ok (.goto 26, 3) := by decide +kernel
theorem dX7_talk_44 : decode cX7_talk 44 = .ok (.aload_n 0, 1) := by decide +kernel
theorem dX7_talk_45 : decode cX7_talk 45 = .ok (.iconst 0, 1) := by decide +kernel
theorem dX7_talk_46 : decode cX7_talk 46 = .ok (.aload_n 0, 1) := by decide +kernel
theorem dX7_talk_47 : decode cX7_talk 47 = .ok (.getfield 7, 3) := by decide +kernel
theorem dX7_talk_50 : decode cX7_talk 50 = .ok (.bipush 50, 2) := by decide +kernel
theorem dX7_talk_52 : decode cX7_talk 52 = .ok (.iload_n 1, 1) := by decide +kernel
theorem dX7_talk_53 : decode cX7_talk 53 = .ok (.iadd, 1) := by decide +kernel
theorem dX7_talk_54 : decode cX7_talk 54 = .ok (.iaload, 1) := by decide +kernel
theorem dX7_talk_55 : decode cX7_talk 55 = .ok (.aload_n 0, 1) := by decide +kernel
theorem dX7_talk_56 : decode cX7_talk 56 = .ok (.getfield 7, 3) := by decide +kernel
theorem dX7_talk_59 : decode cX7_talk 59 = .ok (.bipush 56, 2) := by decide +kernel
theorem dX7_talk_61 : decode cX7_talk 61 = .ok (.iload_n 1, 1) := by decide +kernel
theorem dX7_talk_62 : decode cX7_talk 62 = .ok (.iadd, 1) := by decide +kernel
theorem dX7_talk_63 : decode cX7_talk 63 = .ok (.iaload, 1) := by decide +kernel
theorem dX7_talk_64 : decode cX7_talk 64 = .ok (.invokevirtual 155, 3) := by decide +kernel
theorem dX7_talk_67 : decode cX7_talk 67 = .ok (.ireturn, 1) := by decide +kernel
theorem dX7_far_0 : decode cX7_far 0 = .ok (.aload_n 0, 1) := by decide +kernel
theorem dX7_far_1 : decode cX7_far 1 = .ok (.iload_n 1, 1) := by decide +kernel
theorem dX7_far_2 : decode cX7_far 2 = .ok (.invokevirtual 167, 3) := by decide +kernel
theorem dX7_far_5 : decode cX7_far 5 = .ok (.ifCond .eq 11, 3) := by decide +kernel
theorem dX7_far_8 : decode cX7_far 8 = .ok (.aload_n 0, 1) := by decide +kernel
theorem dX7_far_9 : decode cX7_far 9 = .ok (.iload_n 2, 1) := by decide +kernel
theorem dX7_far_10 : decode cX7_far 10 = .ok (.invokevirtual 167, 3) := by decide +kernel
theorem dX7_far_13 : decode cX7_far 13 = .ok (.ifCond .ne 5, 3) := by decide +kernel
theorem dX7_far_16 : decode cX7_far 16 = .ok (.iconst (-1), 1) := by decide +kernel
theorem dX7_far_17 : decode cX7_far 17 = .ok (.ireturn, 1) := by decide +kernel
theorem dX7_far_18 : decode cX7_far 18 = .ok (.aload_n 0, 1) := by decide +kernel
theorem dX7_far_19 : decode cX7_far 19 = .ok (.iconst 0, 1) := by decide +kernel
theorem dX7_far_20 : decode cX7_far 20 = .ok (.iload_n 1, 1) := by decide +kernel
theorem dX7_far_21 : decode cX7_far 21 = .ok (.invokevirtual 148, 3) := by decide +kernel
theorem dX7_far_24 : decode cX7_far 24 = .ok (.aload_n 0, 1) := by decide +kernel
theorem dX7_far_25 : decode cX7_far 25 = .ok (.getfield 25, 3) := by decide +kernel
theorem dX7_far_28 : decode cX7_far 28 = .ok (.iload_n 2, 1) := by decide +kernel
theorem dX7_far_29 : decode cX7_far 29 = .ok (.iaload, 1) := by decide +kernel
theorem dX7_far_30 : decode cX7_far 30 = .ok (.sipush 1000, 3) := by decide +kernel
theorem dX7_far_33 : decode cX7_far 33 = .ok (.if_icmp .ge 12, 3) := by decide +kernel
theorem dX7_far_36 : decode cX7_far 36 = .ok (.aload_n 0, 1) := by decide +kernel
theorem dX7_far_37 : decode cX7_far 37 = .ok (.getfield 25, 3) := by decide +kernel
theorem dX7_far_40 : decode cX7_far 40 = .ok (.iload_n 2, 1) := by decide +kernel
theorem dX7_far_41 : decode cX7_far 41 = .ok (.iaload, 1) := by decide +kernel
theorem dX7_far_42 : decode cX7_far 42 = .ok (.goto 5, 3) := by decide +kernel
theorem dX7_far_45 : decode cX7_far 45 = .ok (.bipush (-4), 2) := by decide +kernel
theorem dX7_far_47 : decode cX7_far 47 = .ok (.ireturn, 1) := by decide +kernel
theorem dX7_loud_0 : decode cX7_loud 0 = .ok (.aload_n 0, 1) := by decide +kernel
theorem dX7_loud_1 : decode cX7_loud 1 = .ok (.iload_n 1, 1) := by decide +kernel
theorem dX7_loud_2 : decode cX7_loud 2 = .ok (.invokevirtual 167, 3) := by decide +kernel
theorem dX7_loud_5 : decode cX7_loud 5 = .ok (.ifCond .eq 18, 3) := by decide +kernel
theorem dX7_loud_8 : decode cX7_loud 8 = .ok (.aload_n 0, 1) := by decide +kernel
theorem dX7_loud_9 : decode cX7_loud 9 = .ok (.iload_n 2, 1) := by decide +kernel
theorem dX7_loud_10 : decode cX7_loud 10 = .ok (.invokevirtual 167, 3) := by decide +kernel
theorem dX7_loud_13 : decode cX7_loud 13 = .ok (.ifCond .eq 10, 3) := by decide +kernel
theorem dX7_loud_16 : decode cX7_loud 16 = .ok (.iload_n 3, 1) := by decide +kernel
theorem dX7_loud_17 : decode cX7_loud 17 = .ok (.invokestatic 178, 3) := by decide +kernel
theorem dX7_loud_20 : decode cX7_loud 20 = .ok (.ifCond .ne 5, 3) := by decide +kernel
theorem dX7_loud_23 : decode cX7_loud 23 = .ok (.iconst (-1), 1) := by decide +kernel
theorem dX7_loud_24 : decode cX7_loud 24 = .ok (.ireturn, 1) := by decide +kernel
theorem dX7_loud_25 : decode cX7_loud 25 = .ok (.aload_n 0, 1) := by decide +kernel
theorem dX7_loud_26 : decode cX7_loud 26 = .ok (.iconst 0, 1) := by decide +kernel
theorem dX7_loud_27 : decode cX7_loud 27 = .ok (.iload_n 1, 1) := by decide +kernel
theorem dX7_loud_28 : decode cX7_loud 28 = .ok (.invokevirtual 148, 3) := by decide +kernel
theorem dX7_loud_31 : decode cX7_loud 31 = .ok (.aload_n 0, 1) := by decide +kernel
theorem dX7_loud_32 : decode cX7_loud 32 = .ok (.iconst 0, 1) := by decide +kernel
theorem dX7_loud_33 : decode cX7_loud 33 = .ok (.iload_n 2, 1) := by decide +kernel
theorem dX7_loud_34 : decode cX7_loud 34 = .ok (.iload_n 3, 1) := by decide +kernel
theorem dX7_loud_35 : decode cX7_loud 35 = .ok (.invokevirtual 144, 3) := by decide +kernel
theorem dX7_loud_38 : decode cX7_loud 38 = .ok (.ireturn, 1) := by decide +kernel
theorem dX7_puts_0 : decode cX7_puts 0 = .ok (.iload_n 1, 1) := by decide +kernel
theorem dX7_puts_1 : decode cX7_puts 1 = .ok (.ifCond .ne 5, 3) := by decide +kernel
theorem dX7_puts_4 : decode cX7_puts 4 = .ok (.iconst (-1), 1) := by decide +kernel
theorem dX7_puts_5 : decode cX7_puts 5 = .ok (.ireturn, 1) := by decide +kernel
theorem dX7_puts_6 : decode cX7_puts 6 = .ok (.aload_n 0, 1) := by decide +kernel
theorem dX7_puts_7 : decode cX7_puts 7 = .ok (.getfield 7, 3) := by decide +kernel
theorem dX7_puts_10 : decode cX7_puts 10 = .ok (.iload_n 2, 1) := by decide +kernel
theorem dX7_puts_11 : decode cX7_puts 11 = .ok (.iaload, 1) := by decide +kernel
theorem dX7_puts_12 : decode cX7_puts 12 = .ok (.istore 4, 2) := by decide +kernel
theorem dX7_puts_14 : decode cX7_puts 14 = .ok (.aload_n 0, 1) := by decide +kernel
theorem dX7_puts_15 : decode cX7_puts 15 = .ok (.getfield 7, 3) := by decide +kernel
theorem dX7_puts_18 : decode cX7_puts 18 = .ok (.iload_n 2, 1) := by decide +kernel
theorem dX7_puts_19 : decode cX7_puts 19 = .ok (.iload_n 3, 1) := by decide +kernel
theorem dX7_puts_20 : decode cX7_puts 20 = .ok (.iastore, 1) := by decide +kernel
theorem dX7_puts_21 : decode cX7_puts 21 = .ok (.iload 4, 2) := by decide +kernel
theorem dX7_puts_23 : decode cX7_puts 23 = .ok (.ireturn, 1) := by decide +kernel
theorem dX7_graft_0 : decode cX7_graft 0 = .ok (.aload_n 0, 1) := by decide +kernel
theorem dX7_graft_1 : decode cX7_graft 1 = .ok (.aload_n 0, 1) := by decide +kernel
theorem dX7_graft_2 : decode cX7_graft 2 = .ok (.iload_n 1, 1) := by decide +kernel
theorem dX7_graft_3 : decode cX7_graft 3 = .ok (.invokevirtual 167, 3) := by decide +kernel
theorem dX7_graft_6 : decode cX7_graft 6 = .ok (.ifCond .eq 19, 3) := by decide +kernel
theorem dX7_graft_9 : decode cX7_graft 9 = .ok (.iload_n 2, 1) := by decide +kernel
theorem dX7_graft_10 : decode cX7_graft 10 = .ok (.i2l, 1) := by decide +kernel
theorem dX7_graft_11 : decode cX7_graft 11 = .ok (.lconst 0, 1) := by decide +kernel
theorem dX7_graft_12 : decode cX7_graft 12 = .ok (.ldc2_w 170, 3) := by decide +kernel
theorem dX7_graft_15 : decode cX7_graft 15 = .ok (.invokestatic 52, 3) := by decide +kernel
theorem dX7_graft_18 : decode cX7_graft 18 = .ok (.ifCond .eq 7, 3) := by decide +kernel
theorem dX7_graft_21 : decode cX7_graft 21 = .ok (.iconst 1, 1) := by decide +kernel
theorem dX7_graft_22 : decode cX7_graft 22 = .ok (.goto 4, 3) := by decide +kernel
theorem dX7_graft_25 : decode cX7_graft 25 = .ok (.iconst 0, 1) := by decide +kernel
theorem dX7_graft_26 : decode cX7_graft 26 = .ok (.iload_n 1, 1) := by decide +kernel
theorem dX7_graft_27 : decode cX7_graft 27 = .ok (.iload_n 2, 1) := by decide +kernel
theorem dX7_graft_28 : decode cX7_graft 28 = .ok (.invokevirtual 181, 3) := by decide +kernel
theorem dX7_graft_31 : decode cX7_graft 31 = .ok (.ireturn, 1) := by decide +kernel
theorem dX7_stretch_0 : decode cX7_stretch 0 = .ok (.aload_n 0, 1) := by decide +kernel
theorem dX7_stretch_1 : decode cX7_stretch 1 = .ok (.aload_n 0, 1) := by decide +kernel
theorem dX7_stretch_2 : decode cX7_stretch 2 = .ok (.iload_n 1, 1) := by decide +kernel
theorem dX7_stretch_3 : decode cX7_stretch 3 = .ok (.invokevirtual 172, 3) := by decide +kernel
theorem dX7_stretch_6 : decode cX7_stretch 6 = .ok (.ifCond .eq 19, 3) := by decide +kernel
theorem dX7_stretch_9 : decode cX7_stretch 9 = .ok (.iload_n 2, 1) := by decide +kernel
theorem dX7_stretch_10 : decode cX7_stretch 10 = .ok (.i2l, 1) := by decide +kernel
theorem dX7_stretch_11 : decode cX7_stretch 11 = .ok (.lconst 1, 1) := by decide +kernel
theorem dX7_stretch_12 : decode cX7_stretch 12 = .ok (.ldc2_w 185, 3) := by decide +kernel
theorem dX7_stretch_15 : decode cX7_stretch 15 = .ok (.invokestatic 52, 3) := by decide +kernel
theorem dX7_stretch_18 : decode cX7_stretch 18 = .ok (.ifCond .eq 7, 3) := by decide +kernel
theorem dX7_stretch_21 : decode cX7_stretch 21 = .ok (.iconst 1, 1) := by decide +kernel
theorem dX7_stretch_22 : decode cX7_stretch 22 = .ok (.goto 4, 3) := by decide +kernel
theorem dX7_stretch_25 : decode cX7_stretch 25 = .ok (.iconst 0, 1) := by decide +kernel
theorem dX7_stretch_26 : decode cX7_stretch 26 = .ok (.bipush 24, 2) := by decide +kernel
theorem dX7_stretch_28 : decode cX7_stretch 28 = .ok (.iload_n 1, 1) := by decide +kernel
theorem dX7_stretch_29 : decode cX7_stretch 29 = .ok (.iadd, 1) := by decide +kernel
theorem dX7_stretch_30 : decode cX7_stretch 30 = .ok (.iload_n 2, 1) := by decide +kernel
theorem dX7_stretch_31 : decode cX7_stretch 31 = .ok (.invokevirtual 181, 3) := by decide +kernel
theorem dX7_stretch_34 : decode cX7_stretch 34 = .ok (.ireturn, 1) := by decide +kernel
theorem dX7_growsOn_0 : decode cX7_growsOn 0 = .ok (.aload_n 0, 1) := by decide +kernel
theorem dX7_growsOn_1 : decode cX7_growsOn 1 = .ok (.getfield 7, 3) := by decide +kernel
theorem dX7_growsOn_4 : decode cX7_growsOn 4 = .ok (.iload_n 1, 1) := by decide +kernel
theorem dX7_growsOn_5 : decode cX7_growsOn 5 = .ok (.bipush 42, 2) := by decide +kernel
theorem dX7_growsOn_7 : decode cX7_growsOn 7 = .ok (.iadd, 1) := by decide +kernel
theorem dX7_growsOn_8 : decode cX7_growsOn 8 = .ok (.iaload, 1) := by decide +kernel
theorem dX7_growsOn_9 : decode cX7_growsOn 9 = .ok (.istore 5, 2) := by decide +kernel
theorem dX7_growsOn_11 : decode cX7_growsOn 11 = .ok (.aload_n 0, 1) := by decide +kernel
theorem dX7_growsOn_12 : decode cX7_growsOn 12 = .ok (.getfield 7, 3) := by decide +kernel
theorem dX7_growsOn_15 : decode cX7_growsOn 15 = .ok (.iload_n 1, 1) := by decide +kernel
theorem dX7_growsOn_16 : decode cX7_growsOn 16 = .ok (.bipush 6, 2) := by decide +kernel
theorem dX7_growsOn_18 : decode cX7_growsOn 18 = .ok (.iadd, 1) := by decide +kernel
theorem dX7_growsOn_19 : decode cX7_growsOn 19 = .ok (.iload 5, 2) := by decide +kernel
theorem dX7_growsOn_21 : decode cX7_growsOn 21 = .ok (.iadd, 1) := by decide +kernel
theorem dX7_growsOn_22 : decode cX7_growsOn 22 = .ok (.iload_n 2, 1) := by decide +kernel
theorem dX7_growsOn_23 : decode cX7_growsOn 23 = .ok (.iastore, 1) := by decide +kernel
theorem dX7_growsOn_24 : decode cX7_growsOn 24 = .ok (.aload_n 0, 1) := by decide +kernel
theorem dX7_growsOn_25 : decode cX7_growsOn 25 = .ok (.getfield 7, 3) := by decide +kernel
theorem dX7_growsOn_28 : decode cX7_growsOn 28 = .ok (.iload_n 1, 1) := by decide +kernel
theorem dX7_growsOn_29 : decode cX7_growsOn 29 = .ok (.bipush 15, 2) := by decide +kernel
theorem dX7_growsOn_31 : decode cX7_growsOn 31 = .ok (.iadd, 1) := by decide +kernel
theorem dX7_growsOn_32 : decode cX7_growsOn 32 = .ok (.iload 5, 2) := by decide +kernel
theorem dX7_growsOn_34 : decode cX7_growsOn 34 = .ok (.iadd, 1) := by decide +kernel
theorem dX7_growsOn_35 : decode cX7_growsOn 35 = .ok (.iload_n 3, 1) := by decide +kernel
theorem dX7_growsOn_36 : decode cX7_growsOn 36 = .ok (.iastore, 1) := by decide +kernel
theorem dX7_growsOn_37 : decode cX7_growsOn 37 = .ok (.aload_n 0, 1) := by decide +kernel
theorem dX7_growsOn_38 : decode cX7_growsOn 38 = .ok (.getfield 7, 3) := by decide +kernel
theorem dX7_growsOn_41 : decode cX7_growsOn 41 = .ok (.iload_n 1, 1) := by decide +kernel
theorem dX7_growsOn_42 : decode cX7_growsOn 42 = .ok (.bipush 24, 2) := by decide +kernel
theorem dX7_growsOn_44 : decode cX7_growsOn 44 = .ok (.iadd, 1) := by decide +kernel
theorem dX7_growsOn_45 : decode cX7_growsOn 45 = .ok (.iload 5, 2) := by decide +kernel
theorem dX7_growsOn_47 : decode cX7_growsOn 47 = .ok (.iadd, 1) := by decide +kernel
theorem dX7_growsOn_48 : decode cX7_growsOn 48 = .ok (.iload 4, 2) := by decide +kernel
theorem dX7_growsOn_50 : decode cX7_growsOn 50 = .ok (.iastore, 1) := by decide +kernel
theorem dX7_growsOn_51 : decode cX7_growsOn 51 = .ok (.aload_n 0, 1) := by decide +kernel
theorem dX7_growsOn_52 : decode cX7_growsOn 52 = .ok (.getfield 7, 3) := by decide +kernel
theorem dX7_growsOn_55 : decode cX7_growsOn 55 = .ok (.iload_n 1, 1) := by decide +kernel
theorem dX7_growsOn_56 : decode cX7_growsOn 56 = .ok (.bipush 33, 2) := by decide +kernel
theorem dX7_growsOn_58 : decode cX7_growsOn 58 = .ok (.iadd, 1) := by decide +kernel
theorem dX7_growsOn_59 : decode cX7_growsOn 59 = .ok (.iload 5, 2) := by decide +kernel
theorem dX7_growsOn_61 : decode cX7_growsOn 61 = .ok (.iadd, 1) := by decide +kernel
theorem dX7_growsOn_62 : decode cX7_growsOn 62 = .ok (.iconst 0, 1) := by decide +kernel
theorem dX7_growsOn_63 : decode cX7_growsOn 63 = .ok (.iastore, 1) := by decide +kernel
theorem dX7_growsOn_64 : decode cX7_growsOn 64 = .ok (.aload_n 0, 1) := by decide +kernel
theorem dX7_growsOn_65 : decode cX7_growsOn 65 = .ok (.getfield 7, 3) := by decide +kernel
theorem dX7_growsOn_68 : decode cX7_growsOn 68 = .ok (.iload_n 1, 1) := by decide +kernel
theorem dX7_growsOn_69 : decode cX7_growsOn 69 = .ok (.bipush 42, 2) := by decide +kernel
theorem dX7_growsOn_71 : decode cX7_growsOn 71 = .ok (.iadd, 1) := by decide +kernel
theorem dX7_growsOn_72 : decode cX7_growsOn 72 = .ok (.dup2, 1) := by decide +kernel
theorem dX7_growsOn_73 : decode cX7_growsOn 73 = .ok (.iaload, 1) := by decide +kernel
theorem dX7_growsOn_74 : decode cX7_growsOn 74 = .ok (.iconst 1, 1) := by decide +kernel
theorem dX7_growsOn_75 : decode cX7_growsOn 75 = .ok (.iadd, 1) := by decide +kernel
theorem dX7_growsOn_76 : decode cX7_growsOn 76 = .ok (.iastore, 1) := by decide +kernel
theorem dX7_growsOn_77 : decode cX7_growsOn 77 = .ok (.return_, 1) := by decide +kernel
theorem dX7_grow_0 : decode cX7_grow 0 = .ok (.aload_n 0, 1) := by decide +kernel
theorem dX7_grow_1 : decode cX7_grow 1 = .ok (.iload_n 1, 1) := by decide +kernel
theorem dX7_grow_2 : decode cX7_grow 2 = .ok (.invokevirtual 167, 3) := by decide +kernel
theorem dX7_grow_5 : decode cX7_grow 5 = .ok (.ifCond .eq 28, 3) := by decide +kernel
theorem dX7_grow_8 : decode cX7_grow 8 = .ok (.aload_n 0, 1) := by decide +kernel
theorem dX7_grow_9 : decode cX7_grow 9 = .ok (.iload_n 2, 1) := by decide +kernel
theorem dX7_grow_10 : decode cX7_grow 10 = .ok (.invokevirtual 167, 3) := by decide +kernel
theorem dX7_grow_13 : decode cX7_grow 13 = .ok (.ifCond .eq 20, 3) := by decide +kernel
theorem dX7_grow_16 : decode cX7_grow 16 = .ok (.iload_n 1, 1) := by decide +kernel
theorem dX7_grow_17 : decode cX7_grow 17 = .ok (.iload_n 2, 1) := by decide +kernel
theorem dX7_grow_18 : decode cX7_grow 18 = .ok (.if_icmp .eq 15, 3) := by decide +kernel
theorem dX7_grow_21 : decode cX7_grow 21 = .ok (.iload_n 3, 1) := by decide +kernel
theorem dX7_grow_22 : decode cX7_grow 22 = .ok (.i2l, 1) := by decide +kernel
theorem dX7_grow_23 : decode cX7_grow 23 = .ok (.lconst 1, 1) := by decide +kernel
theorem dX7_grow_24 : decode cX7_grow 24 = .ok (.ldc2_w 185, 3) := by decide +kernel
theorem dX7_grow_27 : decode cX7_grow 27 = .ok (.invokestatic 52, 3) := by decide +kernel
theorem dX7_grow_30 : decode cX7_grow 30 = .ok (.ifCond .ne 5, 3) := by decide +kernel
theorem dX7_grow_33 : decode cX7_grow 33 = .ok (.iconst (-1), 1) := by decide +kernel
theorem dX7_grow_34 : decode cX7_grow 34 = .ok (.ireturn, 1) := by decide +kernel
theorem dX7_grow_35 : decode cX7_grow 35 = .ok (.aload_n 0, 1) := by decide +kernel
theorem dX7_grow_36 : decode cX7_grow 36 = .ok (.getfield 7, 3) := by decide +kernel
theorem dX7_grow_39 : decode cX7_grow 39 = .ok (.bipush 42, 2) := by decide +kernel
theorem dX7_grow_41 : decode cX7_grow 41 = .ok (.iaload, 1) := by decide +kernel
theorem dX7_grow_42 : decode cX7_grow 42 = .ok (.bipush 9, 2) := by decide +kernel
theorem dX7_grow_44 : decode cX7_grow 44 = .ok (.if_icmp .ne 6, 3) := by decide +kernel
theorem dX7_grow_47 : decode cX7_grow 47 = .ok (.bipush (-3), 2) := by decide +kernel
theorem dX7_grow_49 : decode cX7_grow 49 = .ok (.ireturn, 1) := by decide +kernel
theorem dX7_grow_50 : decode cX7_grow 50 = .ok (.aload_n 0, 1) := by decide +kernel
theorem dX7_grow_51 : decode cX7_grow 51 = .ok (.iconst 0, 1) := by decide +kernel
theorem dX7_grow_52 : decode cX7_grow 52 = .ok (.iload_n 1, 1) := by decide +kernel
theorem dX7_grow_53 : decode cX7_grow 53 = .ok (.iload_n 2, 1) := by decide +kernel
theorem dX7_grow_54 : decode cX7_grow 54 = .ok (.iload_n 3, 1) := by decide +kernel
theorem dX7_grow_55 : decode cX7_grow 55 = .ok (.invokevirtual 187, 3) := by decide +kernel
theorem dX7_grow_58 : decode cX7_grow 58 = .ok (.aload_n 0, 1) := by decide +kernel
theorem dX7_grow_59 : decode cX7_grow 59 = .ok (.getfield 7, 3) := by decide +kernel
theorem dX7_grow_62 : decode cX7_grow 62 = .ok (.bipush 42, 2) := by decide +kernel
theorem dX7_grow_64 : decode cX7_grow 64 = .ok (.iaload, 1) := by decide +kernel
theorem dX7_grow_65 : decode cX7_grow 65 = .ok (.ireturn, 1) := by decide +kernel
theorem dX7_cut_0 : decode cX7_cut 0 = .ok (.aload_n 0, 1) := by decide +kernel
theorem dX7_cut_1 : decode cX7_cut 1 = .ok (.aload_n 0, 1) := by decide +kernel
theorem dX7_cut_2 : decode cX7_cut 2 = .ok (.iload_n 1, 1) := by decide +kernel
theorem dX7_cut_3 : decode cX7_cut 3 = .ok (.invokevirtual 172, 3) := by decide +kernel
theorem dX7_cut_6 : decode cX7_cut 6 = .ok (.bipush 33, 2) := by decide +kernel
theorem dX7_cut_8 : decode cX7_cut 8 = .ok (.iload_n 1, 1) := by decide +kernel
theorem dX7_cut_9 : decode cX7_cut 9 = .ok (.iadd, 1) := by decide +kernel
theorem dX7_cut_10 : decode cX7_cut 10 = .ok (.iload_n 2, 1) := by decide +kernel
theorem dX7_cut_11 : decode cX7_cut 11 = .ok (.ifCond .eq 7, 3) := by decide +kernel
theorem dX7_cut_14 : decode cX7_cut 14 = .ok (.iconst 1, 1) := by decide +kernel
theorem dX7_cut_15 : decode cX7_cut 15 = .ok (.goto 4, 3) := by decide +kernel
theorem dX7_cut_18 : decode cX7_cut 18 = .ok (.iconst 0, 1) := by decide +kernel
theorem dX7_cut_19 : decode cX7_cut 19 = .ok (.invokevirtual 181, 3) := by decide +kernel
theorem dX7_cut_22 : decode cX7_cut 22 = .ok (.ireturn, 1) := by decide +kernel
theorem dX7_wind_0 : decode cX7_wind 0 = .ok (.aload_n 0, 1) := by decide +kernel
theorem dX7_wind_1 : decode cX7_wind 1 = .ok (.iload_n 1, 1) := by decide +kernel
theorem dX7_wind_2 : decode cX7_wind 2 = .ok (.i2l, 1) := by decide +kernel
theorem dX7_wind_3 : decode cX7_wind 3 = .ok (.lconst 0, 1) := by decide +kernel
theorem dX7_wind_4 : decode cX7_wind 4 = .ok (.ldc2_w 191, 3) := by decide +kernel
theorem dX7_wind_7 : decode cX7_wind 7 = .ok (.invokestatic 52, 3) := by decide +kernel
theorem dX7_wind_10 : decode cX7_wind 10 = .ok (.bipush 43, 2) := by decide +kernel
theorem dX7_wind_12 : decode cX7_wind 12 = .ok (.iload_n 1, 1) := by decide +kernel
theorem dX7_wind_13 : decode cX7_wind 13 = .ok (.invokevirtual 181, 3) := by decide +kernel
theorem dX7_wind_16 : decode cX7_wind 16 = .ok (.ireturn, 1) := by decide +kernel
theorem dX7_books_0 : decode cX7_books 0 = .ok (.iload_n 1, 1) := by decide +kernel
theorem dX7_books_1 : decode cX7_books 1 = .ok (.i2l, 1) := by decide +kernel
theorem dX7_books_2 : decode cX7_books 2 = .ok (.lconst 0, 1) := by decide +kernel
theorem dX7_books_3 : decode cX7_books 3 = .ok (.ldc2_w 193, 3) := by decide +kernel
theorem dX7_books_6 : decode cX7_books 6 = .ok (.invokestatic 52, 3) := by decide +kernel
theorem dX7_books_9 : decode cX7_books 9 = .ok (.ifCond .eq 18, 3) := by decide +kernel
theorem dX7_books_12 : decode cX7_books 12 = .ok (.aload_n 0, 1) := by decide +kernel
theorem dX7_books_13 : decode cX7_books 13 = .ok (.iload_n 2, 1) := by decide +kernel
theorem dX7_books_14 : decode cX7_books 14 = .ok (.invokevirtual 167, 3) := by decide +kernel
theorem dX7_books_17 : decode cX7_books 17 = .ok (.ifCond .eq 10, 3) := by decide +kernel
theorem dX7_books_20 : decode cX7_books 20 = .ok (.iload_n 3, 1) := by decide +kernel
theorem dX7_books_21 : decode cX7_books 21 = .ok (.invokestatic 178, 3) := by decide +kernel
theorem dX7_books_24 : decode cX7_books 24 = .ok (.ifCond .ne 5, 3) := by decide +kernel
theorem dX7_books_27 : decode cX7_books 27 = .ok (.iconst (-1), 1) := by decide +kernel
theorem dX7_books_28 : decode cX7_books 28 = .ok (.ireturn, 1) := by decide +kernel
theorem dX7_books_29 : decode cX7_books 29 = .ok (.aload_n 0, 1) := by decide +kernel
theorem dX7_books_30 : decode cX7_books 30 = .ok (.getfield 7, 3) := by decide +kernel
theorem dX7_books_33 : decode cX7_books 33 = .ok (.bipush 62, 2) := by decide +kernel
theorem dX7_books_35 : decode cX7_books 35 = .ok (.iaload, 1) := by decide +kernel
theorem dX7_books_36 : decode cX7_books 36 = .ok (.istore 4, 2) := by decide +kernel
theorem dX7_books_38 : decode cX7_books 38 = .ok (.iload 4, 2) := by decide +kernel
theorem dX7_books_40 : decode cX7_books 40 = .ok (.bipush 6, 2) := by decide +kernel
theorem dX7_books_42 : decode cX7_books 42 = .ok (.if_icmp .ne 6, 3) := by decide +kernel
theorem dX7_books_45 : decode cX7_books 45 = .ok (.bipush (-3), 2) := by decide +kernel
theorem dX7_books_47 : decode cX7_books 47 = .ok (.ireturn, 1) := by decide +kernel
theorem dX7_books_48 : decode cX7_books 48 = .ok (.aload_n 0, 1) := by decide +kernel
theorem dX7_books_49 : decode cX7_books 49 = .ok (.getfield 7, 3) := by decide +kernel
theorem dX7_books_52 : decode cX7_books 52 = .ok (.bipush 44, 2) := by decide +kernel
theorem dX7_books_54 : decode cX7_books 54 = .ok (.iload 4, 2) := by decide +kernel
theorem dX7_books_56 : decode cX7_books 56 = .ok (.iadd, 1) := by decide +kernel
theorem dX7_books_57 : decode cX7_books 57 = .ok (.iload_n 1, 1) := by decide +kernel
theorem dX7_books_58 : decode cX7_books 58 = .ok (.iastore, 1) := by decide +kernel
theorem dX7_books_59 : decode cX7_books 59 = .ok (.aload_n 0, 1) := by decide +kernel
theorem dX7_books_60 : decode cX7_books 60 = .ok (.getfield 7, 3) := by decide +kernel
theorem dX7_books_63 : decode cX7_books 63 = .ok (.bipush 50, 2) := by decide +kernel
theorem dX7_books_65 : decode cX7_books 65 = .ok (.iload 4, 2) := by decide +kernel
theorem dX7_books_67 : decode cX7_books 67 = .ok (.iadd, 1) := by decide +kernel
theorem dX7_books_68 : decode cX7_books 68 = .ok (.iload_n 2, 1) := by decide +kernel
theorem dX7_books_69 : decode cX7_books 69 = .ok (.iastore, 1) := by decide +kernel
theorem dX7_books_70 : decode cX7_books 70 = .ok (.aload_n 0, 1) := by decide +kernel
theorem dX7_books_71 : decode cX7_books 71 = .ok (.getfield 7, 3) := by decide +kernel
theorem dX7_books_74 : decode cX7_books 74 = .ok (.bipush 56, 2) := by decide +kernel
theorem dX7_books_76 : decode cX7_books 76 = .ok (.iload 4, 2) := by decide +kernel
theorem dX7_books_78 : decode cX7_books 78 = .ok (.iadd, 1) := by decide +kernel
theorem dX7_books_79 : decode cX7_books 79 = .ok (.iload_n 3, 1) := by decide +kernel
theorem dX7_books_80 : decode cX7_books 80 = .ok (.iastore, 1) := by decide +kernel
theorem dX7_books_81 : decode cX7_books 81 = .ok (.aload_n 0, 1) := by decide +kernel
theorem dX7_books_82 : decode cX7_books 82 = .ok (.getfield 7, 3) := by decide +kernel
theorem dX7_books_85 : decode cX7_books 85 = .ok (.bipush 62, 2) := by decide +kernel
theorem dX7_books_87 : decode cX7_books 87 = .ok (.dup2, 1) := by decide +kernel
theorem dX7_books_88 : decode cX7_books 88 = .ok (.iaload, 1) := by decide +kernel
theorem dX7_books_89 : decode cX7_books 89 = .ok (.iconst 1, 1) := by decide +kernel
theorem dX7_books_90 : decode cX7_books 90 = .ok (.iadd, 1) := by decide +kernel
theorem dX7_books_91 : decode cX7_books 91 = .ok (.iastore, 1) := by decide +kernel
theorem dX7_books_92 : decode cX7_books 92 = .ok (.aload_n 0, 1) := by decide +kernel
theorem dX7_books_93 : decode cX7_books 93 = .ok (.getfield 7, 3) := by decide +kernel
theorem dX7_books_96 : decode cX7_books 96 = .ok (.bipush 62, 2) := by decide +kernel
theorem dX7_books_98 : decode cX7_books 98 = .ok (.iaload, 1) := by decide +kernel
theorem dX7_books_99 : decode cX7_books 99 = .ok (.ireturn, 1) := by decide +kernel
theorem dX7_book_0 : decode cX7_book 0 = .ok (.aload_n 0, 1) := by decide +kernel
theorem dX7_book_1 : decode cX7_book 1 = .ok (.iload_n 1, 1) := by decide +kernel
theorem dX7_book_2 : decode cX7_book 2 = .ok (.iload_n 2, 1) := by decide +kernel
theorem dX7_book_3 : decode cX7_book 3 = .ok (.iload_n 3, 1) := by decide +kernel
theorem dX7_book_4 : decode cX7_book 4 = .ok (.invokevirtual 195, 3) := by decide +kernel
theorem dX7_book_7 : decode cX7_book 7 = .ok (.ireturn, 1) := by decide +kernel
theorem dX7_shift_0 : decode cX7_shift 0 = .ok (.iload_n 2, 1) := by decide +kernel
theorem dX7_shift_1 : decode cX7_shift 1 = .ok (.ifCond .ne 15, 3) := by decide +kernel
theorem dX7_shift_4 : decode cX7_shift 4 = .ok (.iload_n 3, 1) := by decide +kernel
theorem dX7_shift_5 : decode cX7_shift 5 = .ok (.i2l, 1) := by decide +kernel
theorem dX7_shift_6 : decode cX7_shift 6 = .ok (.lconst 0, 1) := by decide +kernel
theorem dX7_shift_7 : decode cX7_shift 7 = .ok (.ldc2_w 193, 3) := by decide +kernel
theorem dX7_shift_10 : decode cX7_shift 10 = .ok (.invokestatic 52, 3) := by decide +kernel
theorem dX7_shift_13 : decode cX7_shift 13 = .ok (.goto 33, 3) := by decide +kernel
theorem dX7_shift_16 : decode cX7_shift 16 = .ok (.iload_n 2, 1) := by decide +kernel
theorem dX7_shift_17 : decode cX7_shift 17 = .ok (.iconst 1, 1) := by decide +kernel
theorem dX7_shift_18 : decode cX7_shift 18 = .ok (.if_icmp .ne 11, 3) := by decide +kernel
theorem dX7_shift_21 : decode cX7_shift 21 = .ok (.aload_n 0, 1) := by decide +kernel
theorem dX7_shift_22 : decode cX7_shift 22 = .ok (.iload_n 3, 1) := by decide +kernel
theorem dX7_shift_23 : decode cX7_shift 23 = .ok (.invokevirtual 167, 3) := by decide +kernel
theorem dX7_shift_26 : decode cX7_shift 26 = .ok (.goto 20, 3) := by decide +kernel
theorem dX7_shift_29 : decode cX7_shift 29 = .ok (.iload_n 2, 1) := by decide +kernel
theorem dX7_shift_30 : decode cX7_shift 30 = .ok (.iconst 2, 1) := by decide +kernel
theorem dX7_shift_31 : decode cX7_shift 31 = .ok (.if_icmp .ne 14, 3) := by decide +kernel
theorem dX7_shift_34 : decode cX7_shift 34 = .ok (.iload_n 3, 1) := by decide +kernel
theorem dX7_shift_35 : decode cX7_shift 35 = .ok (.invokestatic 178, 3) := by decide +kernel
theorem dX7_shift_38 : decode cX7_shift 38 = .ok (.ifCond .eq 7, 3) := by decide +kernel
theorem dX7_shift_41 : decode cX7_shift 41 = .ok (.iconst 1, 1) := by decide +kernel
theorem dX7_shift_42 : decode cX7_shift 42 = .ok (.goto 4, 3) := by decide +kernel
theorem dX7_shift_45 : decode cX7_shift 45 = .ok (.iconst 0, 1) := by decide +kernel
theorem dX7_shift_46 : decode cX7_shift 46 = .ok (.istore 4, 2) := by decide +kernel
theorem dX7_shift_48 : decode cX7_shift 48 = .ok (.aload_n 0, 1) := by decide +kernel
theorem dX7_shift_49 : decode cX7_shift 49 = .ok (.aload_n 0, 1) := by decide +kernel
theorem dX7_shift_50 : decode cX7_shift 50 = .ok (.iload_n 1, 1) := by decide +kernel
theorem dX7_shift_51 : decode cX7_shift 51 = .ok (.invokevirtual 175, 3) := by decide +kernel
theorem dX7_shift_54 : decode cX7_shift 54 = .ok (.ifCond .eq 12, 3) := by decide +kernel
theorem dX7_shift_57 : decode cX7_shift 57 = .ok (.iload 4, 2) := by decide +kernel
theorem dX7_shift_59 : decode cX7_shift 59 = .ok (.ifCond .eq 7, 3) := by decide +kernel
theorem dX7_shift_62 : decode cX7_shift 62 = .ok (.iconst 1, 1) := by decide +kernel
theorem dX7_shift_63 : decode cX7_shift 63 = .ok (.goto 4, 3) := by decide +kernel
theorem dX7_shift_66 : decode cX7_shift 66 = .ok (.iconst 0, 1) := by decide +kernel
theorem dX7_shift_67 : decode cX7_shift 67 = .ok (.bipush 44, 2) := by decide +kernel
theorem dX7_shift_69 : decode cX7_shift 69 = .ok (.bipush 6, 2) := by decide +kernel
theorem dX7_shift_71 : decode cX7_shift 71 = .ok (.iload_n 2, 1) := by decide +kernel
theorem dX7_shift_72 : decode cX7_shift 72 = .ok (.imul, 1) := by decide +kernel
theorem dX7_shift_73 : decode cX7_shift 73 = .ok (.iadd, 1) := by decide +kernel
theorem dX7_shift_74 : decode cX7_shift 74 = .ok (.iload_n 1, 1) := by decide +kernel
theorem dX7_shift_75 : decode cX7_shift 75 = .ok (.iadd, 1) := by decide +kernel
theorem dX7_shift_76 : decode cX7_shift 76 = .ok (.iload_n 3, 1) := by decide +kernel
theorem dX7_shift_77 : decode cX7_shift 77 = .ok (.invokevirtual 181, 3) := by decide +kernel
theorem dX7_shift_80 : decode cX7_shift 80 = .ok (.ireturn, 1) := by decide +kernel
theorem dX7_drop_0 : decode cX7_drop 0 = .ok (.aload_n 0, 1) := by decide +kernel
theorem dX7_drop_1 : decode cX7_drop 1 = .ok (.iload_n 1, 1) := by decide +kernel
theorem dX7_drop_2 : decode cX7_drop 2 = .ok (.i2l, 1) := by decide +kernel
theorem dX7_drop_3 : decode cX7_drop 3 = .ok (.lconst 0, 1) := by decide +kernel
theorem dX7_drop_4 : decode cX7_drop 4 = .ok (.aload_n 0, 1) := by decide +kernel
theorem dX7_drop_5 : decode cX7_drop 5 = .ok (.getfield 7, 3) := by decide +kernel
theorem dX7_drop_8 : decode cX7_drop 8 = .ok (.bipush 62, 2) := by decide +kernel
theorem dX7_drop_10 : decode cX7_drop 10 = .ok (.iaload, 1) := by decide +kernel
theorem dX7_drop_11 : decode cX7_drop 11 = .ok (.i2l, 1) := by decide +kernel
theorem dX7_drop_12 : decode cX7_drop 12 = .ok (.invokestatic 52, 3) := by decide +kernel
theorem dX7_drop_15 : decode cX7_drop 15 = .ok (.bipush 62, 2) := by decide +kernel
theorem dX7_drop_17 : decode cX7_drop 17 = .ok (.iload_n 1, 1) := by decide +kernel
theorem dX7_drop_18 : decode cX7_drop 18 = .ok (.invokevirtual 181, 3) := by decide +kernel
theorem dX7_drop_21 : decode cX7_drop 21 = .ok (.ireturn, 1) := by decide +kernel
theorem dX7_hears_0 : decode cX7_hears 0 = .ok (.aload_n 0, 1) := by decide +kernel
theorem dX7_hears_1 : decode cX7_hears 1 = .ok (.iload_n 1, 1) := by decide +kernel
theorem dX7_hears_2 : decode cX7_hears 2 = .ok (.invokevirtual 167, 3) := by decide +kernel
theorem dX7_hears_5 : decode cX7_hears 5 = .ok (.ifCond .eq 20, 3) := by decide +kernel
theorem dX7_hears_8 : decode cX7_hears 8 = .ok (.iload_n 2, 1) := by decide +kernel
theorem dX7_hears_9 : decode cX7_hears 9 = .ok (.invokestatic 178, 3) := by decide +kernel
theorem dX7_hears_12 : decode cX7_hears 12 = .ok (.ifCond .eq 13, 3) := by decide +kernel
theorem dX7_hears_15 : decode cX7_hears 15 = .ok (.aload_n 0, 1) := by decide +kernel
theorem dX7_hears_16 : decode cX7_hears 16 = .ok (.iconst 0, 1) := by decide +kernel
theorem dX7_hears_17 : decode cX7_hears 17 = .ok (.iload_n 1, 1) := by decide +kernel
theorem dX7_hears_18 : decode cX7_hears 18 = .ok (.iload_n 2, 1) := by decide +kernel
theorem dX7_hears_19 : decode cX7_hears 19 = .ok (.invokevirtual 155, 3) := by decide +kernel
theorem dX7_hears_22 : decode cX7_hears 22 = .ok (.goto 4, 3) := by decide +kernel
theorem dX7_hears_25 : decode cX7_hears 25 = .ok (.iconst (-1), 1) := by decide +kernel
theorem dX7_hears_26 : decode cX7_hears 26 = .ok (.ireturn, 1) := by decide +kernel
theorem dX7_crossed_0 : decode cX7_crossed 0 = .ok (.aload_n 0, 1) := by decide +kernel
theorem dX7_crossed_1 : decode cX7_crossed 1 = .ok (.iload_n 1, 1) := by decide +kernel
theorem dX7_crossed_2 : decode cX7_crossed 2 = .ok (.invokevirtual 175, 3) := by decide +kernel
theorem dX7_crossed_5 : decode cX7_crossed 5 = .ok (.ifCond .eq 16, 3) := by decide +kernel
theorem dX7_crossed_8 : decode cX7_crossed 8 = .ok (.aload_n 0, 1) := by decide +kernel
theorem dX7_crossed_9 : decode cX7_crossed 9 = .ok (.iload_n 2, 1) := by decide +kernel
theorem dX7_crossed_10 : decode cX7_crossed 10 = .ok (.invokevirtual 175, 3) := by decide +kernel
theorem dX7_crossed_13 : decode cX7_crossed 13 = .ok (.ifCond .eq 8, 3) := by decide +kernel
theorem dX7_crossed_16 : decode cX7_crossed 16 = .ok (.iload_n 1, 1) := by decide +kernel
theorem dX7_crossed_17 : decode cX7_crossed 17 = .ok (.iload_n 2, 1) := by decide +kernel
theorem dX7_crossed_18 : decode cX7_crossed 18 = .ok (.if_icmp .ne 5, 3) := by decide +kernel
theorem dX7_crossed_21 : decode cX7_crossed 21 = .ok (.iconst (-1), 1) := by decide +kernel
theorem dX7_crossed_22 : decode cX7_crossed 22 = .ok (.ireturn, 1) := by decide +kernel
theorem dX7_crossed_23 : decode cX7_crossed 23 = .ok (.aload_n 0, 1) := by decide +kernel
theorem dX7_crossed_24 : decode cX7_crossed 24 = .ok (.iconst 0, 1) := by decide +kernel
theorem dX7_crossed_25 : decode cX7_crossed 25 = .ok (.invokevirtual 161, 3) := by decide +kernel
theorem dX7_crossed_28 : decode cX7_crossed 28 = .ok (.pop, 1) := by decide +kernel
theorem dX7_crossed_29 : decode cX7_crossed 29 = .ok (.aload_n 0, 1) := by decide +kernel
theorem dX7_crossed_30 : decode cX7_crossed 30 = .ok (.getfield 7, 3) := by decide +kernel
theorem dX7_crossed_33 : decode cX7_crossed 33 = .ok (.bipush 44, 2) := by decide +kernel
theorem dX7_crossed_35 : decode cX7_crossed 35 = .ok (.iload_n 1, 1) := by decide +kernel
theorem dX7_crossed_36 : decode cX7_crossed 36 = .ok (.iadd, 1) := by decide +kernel
theorem dX7_crossed_37 : decode cX7_crossed 37 = .ok (.iaload, 1) := by decide +kernel
theorem dX7_crossed_38 : decode cX7_crossed 38 = .ok (.aload_n 0, 1) := by decide +kernel
theorem dX7_crossed_39 : decode cX7_crossed 39 = .ok (.getfield 7, 3) := by decide +kernel
theorem dX7_crossed_42 : decode cX7_crossed 42 = .ok (.bipush 44, 2) := by decide +kernel
theorem dX7_crossed_44 : decode cX7_crossed 44 = .ok (.iload_n 2, 1) := by decide +kernel
theorem dX7_crossed_45 : decode cX7_crossed 45 = .ok (.iadd, 1) := by decide +kernel
theorem dX7_crossed_46 : decode cX7_crossed 46 = .ok (.iaload, 1) := by decide +kernel
theorem dX7_crossed_47 : decode cX7_crossed 47 = .ok (.if_icmp .ne 23, 3) := by decide +kernel
theorem dX7_crossed_50 : decode cX7_crossed 50 = .ok (.aload_n 0, 1) := by decide +kernel
theorem dX7_crossed_51 : decode cX7_crossed 51 = .ok (.getfield 28, 3) := by decide +kernel
theorem dX7_crossed_54 : decode cX7_crossed 54 = .ok (.iload_n 1, 1) := by decide +kernel
theorem dX7_crossed_55 : decode cX7_crossed 55 = .ok (.iaload, 1) := by decide +kernel
theorem dX7_crossed_56 : decode cX7_crossed 56 = .ok (.aload_n 0, 1) := by decide +kernel
theorem dX7_crossed_57 : decode cX7_crossed 57 = .ok (.getfield 28, 3) := by decide +kernel
theorem dX7_crossed_60 : decode cX7_crossed 60 = .ok (.iload_n 2, 1) := by decide +kernel
theorem dX7_crossed_61 : decode cX7_crossed 61 = .ok (.iaload, 1) := by decide +kernel
theorem dX7_crossed_62 : decode cX7_crossed 62 = .ok (.iand, 1) := by decide +kernel
theorem dX7_crossed_63 : decode cX7_crossed 63 = .ok (.ifCond .eq 7, 3) := by decide +kernel
theorem dX7_crossed_66 : decode cX7_crossed 66 = .ok (.iconst 1, 1) := by decide +kernel
theorem dX7_crossed_67 : decode cX7_crossed 67 = .ok (.goto 4, 3) := by decide +kernel
theorem dX7_crossed_70 : decode cX7_crossed 70 = .ok (.iconst 0, 1) := by decide +kernel
theorem dX7_crossed_71 : decode cX7_crossed 71 = .ok (.ireturn, 1) := by decide +kernel
theorem dX7_leastOf_0 : decode cX7_leastOf 0 = .ok (.aload_n 0, 1) := by decide +kernel
theorem dX7_leastOf_1 : decode cX7_leastOf 1 = .ok (.iconst 0, 1) := by decide +kernel
theorem dX7_leastOf_2 : decode cX7_leastOf 2 = .ok (.iload_n 1, 1) := by decide +kernel
theorem dX7_leastOf_3 : decode cX7_leastOf 3 = .ok (.invokevirtual 148, 3) := by decide +kernel
theorem dX7_leastOf_6 : decode cX7_leastOf 6 = .ok (.iconst 1, 1) := by decide +kernel
theorem dX7_leastOf_7 : decode cX7_leastOf 7 = .ok (.istore_n 3, 1) := by decide +kernel
theorem dX7_leastOf_8 : decode cX7_leastOf 8 = .ok (.iload_n 3, 1) := by decide +kernel
theorem dX7_leastOf_9 : decode cX7_leastOf 9 = .ok (.bipush 60, 2) := by decide +kernel
theorem dX7_leastOf_11 : decode cX7_leastOf 11 = .ok (.if_icmp .gt 23, 3) := by decide +kernel
theorem dX7_leastOf_14 : decode cX7_leastOf 14 = .ok (.aload_n 0, 1) := by decide +kernel
theorem dX7_leastOf_15 : decode cX7_leastOf 15 = .ok (.iconst 0, 1) := by decide +kernel
theorem dX7_leastOf_16 : decode cX7_leastOf 16 = .ok (.iload_n 3, 1) := by decide +kernel
theorem dX7_leastOf_17 : decode cX7_leastOf 17 = .ok (.invokevirtual 152, 3) := by decide +kernel
theorem dX7_leastOf_20 : decode cX7_leastOf 20 = .ok (.iload_n 2, 1) := by decide +kernel
theorem dX7_leastOf_21 : decode cX7_leastOf 21 = .ok (.iand, 1) := by decide +kernel
theorem dX7_leastOf_22 : decode cX7_leastOf 22 = .ok (.iload_n 2, 1) := by decide +kernel
theorem dX7_leastOf_23 : decode cX7_leastOf 23 = .ok (.if_icmp .ne 5, 3) := by decide +kernel
theorem dX7_leastOf_26 : decode cX7_leastOf 26 = .ok (.iload_n 3, 1) := by decide +kernel
theorem dX7_leastOf_27 : decode cX7_leastOf 27 = .ok (.ireturn, 1) := by decide +kernel
theorem dX7_leastOf_28 : decode cX7_leastOf 28 = .ok (.iinc 3 1, 3) := by decide +kernel
theorem dX7_leastOf_31 : decode cX7_leastOf 31 = .ok (.goto (-23), 3) := by decide +kernel
theorem dX7_leastOf_34 : decode cX7_leastOf 34 = .ok (.bipush (-4), 2) := by decide +kernel
theorem dX7_leastOf_36 : decode cX7_leastOf 36 = .ok (.ireturn, 1) := by decide +kernel
theorem dX7_least_0 : decode cX7_least 0 = .ok (.aload_n 0, 1) := by decide +kernel
theorem dX7_least_1 : decode cX7_least 1 = .ok (.iload_n 1, 1) := by decide +kernel
theorem dX7_least_2 : decode cX7_least 2 = .ok (.invokevirtual 167, 3) := by decide +kernel
theorem dX7_least_5 : decode cX7_least 5 = .ok (.ifCond .eq 20, 3) := by decide +kernel
theorem dX7_least_8 : decode cX7_least 8 = .ok (.aload_n 0, 1) := by decide +kernel
theorem dX7_least_9 : decode cX7_least 9 = .ok (.iload_n 2, 1) := by decide +kernel
theorem dX7_least_10 : decode cX7_least 10 = .ok (.invokevirtual 198, 3) := by decide +kernel
theorem dX7_least_13 : decode cX7_least 13 = .ok (.ifCond .eq 12, 3) := by decide +kernel
theorem dX7_least_16 : decode cX7_least 16 = .ok (.aload_n 0, 1) := by decide +kernel
theorem dX7_least_17 : decode cX7_least 17 = .ok (.iload_n 1, 1) := by decide +kernel
theorem dX7_least_18 : decode cX7_least 18 = .ok (.iload_n 2, 1) := by decide +kernel
theorem dX7_least_19 : decode cX7_least 19 = .ok (.invokevirtual 201, 3) := by decide +kernel
theorem dX7_least_22 : decode cX7_least 22 = .ok (.goto 4, 3) := by decide +kernel
theorem dX7_least_25 : decode cX7_least 25 = .ok (.iconst (-1), 1) := by decide +kernel
theorem dX7_least_26 : decode cX7_least 26 = .ok (.ireturn, 1) := by decide +kernel
theorem dX7_just_0 : decode cX7_just 0 = .ok (.aload_n 0, 1) := by decide +kernel
theorem dX7_just_1 : decode cX7_just 1 = .ok (.iload_n 1, 1) := by decide +kernel
theorem dX7_just_2 : decode cX7_just 2 = .ok (.invokevirtual 167, 3) := by decide +kernel
theorem dX7_just_5 : decode cX7_just 5 = .ok (.ifCond .eq 11, 3) := by decide +kernel
theorem dX7_just_8 : decode cX7_just 8 = .ok (.aload_n 0, 1) := by decide +kernel
theorem dX7_just_9 : decode cX7_just 9 = .ok (.iload_n 2, 1) := by decide +kernel
theorem dX7_just_10 : decode cX7_just 10 = .ok (.invokevirtual 198, 3) := by decide +kernel
theorem dX7_just_13 : decode cX7_just 13 = .ok (.ifCond .ne 5, 3) := by decide +kernel
theorem dX7_just_16 : decode cX7_just 16 = .ok (.iconst (-1), 1) := by decide +kernel
theorem dX7_just_17 : decode cX7_just 17 = .ok (.ireturn, 1) := by decide +kernel
theorem dX7_just_18 : decode cX7_just 18 = .ok (.aload_n 0, 1) := by decide +kernel
theorem dX7_just_19 : decode cX7_just 19 = .ok (.iconst 0, 1) := by decide +kernel
theorem dX7_just_20 : decode cX7_just 20 = .ok (.iload_n 1, 1) := by decide +kernel
theorem dX7_just_21 : decode cX7_just 21 = .ok (.invokevirtual 148, 3) := by decide +kernel
theorem dX7_just_24 : decode cX7_just 24 = .ok (.iconst 1, 1) := by decide +kernel
theorem dX7_just_25 : decode cX7_just 25 = .ok (.istore_n 3, 1) := by decide +kernel
theorem dX7_just_26 : decode cX7_just 26 = .ok (.iload_n 3, 1) := by decide +kernel
theorem dX7_just_27 : decode cX7_just 27 = .ok (.bipush 60, 2) := by decide +kernel
theorem dX7_just_29 : decode cX7_just 29 = .ok (.if_icmp .gt 21, 3) := by decide +kernel
theorem dX7_just_32 : decode cX7_just 32 = .ok (.aload_n 0, 1) := by decide +kernel
theorem dX7_just_33 : decode cX7_just 33 = .ok (.iconst 0, 1) := by decide +kernel
theorem dX7_just_34 : decode cX7_just 34 = .ok (.iload_n 3, 1) := by decide +kernel
theorem dX7_just_35 : decode cX7_just 35 = .ok (.invokevirtual 152, 3) := by decide +kernel
theorem dX7_just_38 : decode cX7_just 38 = .ok (.iload_n 2, 1) := by decide +kernel
theorem dX7_just_39 : decode cX7_just 39 = .ok (.if_icmp .ne 5, 3) := by decide +kernel
theorem dX7_just_42 : decode cX7_just 42 = .ok (.iload_n 3, 1) := by decide +kernel
theorem dX7_just_43 : decode cX7_just 43 = .ok (.ireturn, 1) := by decide +kernel
theorem dX7_just_44 : decode cX7_just 44 = .ok (.iinc 3 1, 3) := by decide +kernel
theorem dX7_just_47 : decode cX7_just 47 = .ok (.goto (-21), 3) := by decide +kernel
theorem dX7_just_50 : decode cX7_just 50 = .ok (.bipush (-4), 2) := by decide +kernel
theorem dX7_just_52 : decode cX7_just 52 = .ok (.ireturn, 1) := by decide +kernel
theorem dX7_from_0 : decode cX7_from 0 = .ok (.aload_n 0, 1) := by decide +kernel
theorem dX7_from_1 : decode cX7_from 1 = .ok (.iload_n 1, 1) := by decide +kernel
theorem dX7_from_2 : decode cX7_from 2 = .ok (.invokevirtual 198, 3) := by decide +kernel
theorem dX7_from_5 : decode cX7_from 5 = .ok (.ifCond .eq 13, 3) := by decide +kernel
theorem dX7_from_8 : decode cX7_from 8 = .ok (.iload_n 2, 1) := by decide +kernel
theorem dX7_from_9 : decode cX7_from 9 = .ok (.i2l, 1) := by decide +kernel
theorem dX7_from_10 : decode cX7_from 10 = .ok (.lconst 0, 1) := by decide +kernel
theorem dX7_from_11 : decode cX7_from 11 = .ok (.lconst 1, 1) := by decide +kernel
theorem dX7_from_12 : decode cX7_from 12 = .ok (.invokestatic 52, 3) := by decide +kernel
theorem dX7_from_15 : decode cX7_from 15 = .ok (.ifCond .ne 5, 3) := by decide +kernel
theorem dX7_from_18 : decode cX7_from 18 = .ok (.iconst (-1), 1) := by decide +kernel
theorem dX7_from_19 : decode cX7_from 19 = .ok (.ireturn, 1) := by decide +kernel
theorem dX7_from_20 : decode cX7_from 20 = .ok (.sipush 1000, 3) := by decide +kernel
theorem dX7_from_23 : decode cX7_from 23 = .ok (.istore_n 3, 1) := by decide +kernel
theorem dX7_from_24 : decode cX7_from 24 = .ok (.bipush (-4), 2) := by decide +kernel
theorem dX7_from_26 : decode cX7_from 26 = .ok (.istore 4, 2) := by decide +kernel
theorem dX7_from_28 : decode cX7_from 28 = .ok (.iconst 0, 1) := by decide +kernel
theorem dX7_from_29 : decode cX7_from 29 = .ok (.istore 5, 2) := by decide +kernel
theorem dX7_from_31 : decode cX7_from 31 = .ok (.iload 5, 2) := by decide +kernel
theorem dX7_from_33 : decode cX7_from 33 = .ok (.aload_n 0, 1) := by decide +kernel
theorem dX7_from_34 : decode cX7_from 34 = .ok (.getfield 136, 3) := by decide +kernel
theorem dX7_from_37 : decode cX7_from 37 = .ok (.if_icmp .ge 60, 3) := by decide +kernel
theorem dX7_from_40 : decode cX7_from 40 = .ok (.aload_n 0, 1) := by decide +kernel
theorem dX7_from_41 : decode cX7_from 41 = .ok (.iload 5, 2) := by decide +kernel
theorem dX7_from_43 : decode cX7_from 43 = .ok (.iload_n 1, 1) := by decide +kernel
theorem dX7_from_44 : decode cX7_from 44 = .ok (.invokevirtual 201, 3) := by decide +kernel
theorem dX7_from_47 : decode cX7_from 47 = .ok (.istore 6, 2) := by decide +kernel
theorem dX7_from_49 : decode cX7_from 49 = .ok (.iload 6, 2) := by decide +kernel
theorem dX7_from_51 : decode cX7_from 51 = .ok (.bipush (-4), 2) := by decide +kernel
theorem dX7_from_53 : decode cX7_from 53 = .ok (.if_icmp .eq 14, 3) := by decide +kernel
theorem dX7_from_56 : decode cX7_from 56 = .ok (.iload 6, 2) := by decide +kernel
theorem dX7_from_58 : decode cX7_from 58 = .ok (.iload_n 3, 1) := by decide +kernel
theorem dX7_from_59 : decode cX7_from 59 = .ok (.if_icmp .ge 8, 3) := by decide +kernel
theorem dX7_from_62 : decode cX7_from 62 = .ok (.iload 5, 2) := by decide +kernel
theorem dX7_from_64 : decode cX7_from 64 = .ok (.goto 5, 3) := by decide +kernel
theorem dX7_from_67 : decode cX7_from 67 = .ok (.iload 4, 2) := by decide +kernel
theorem dX7_from_69 : decode cX7_from 69 = .ok (.istore 4, 2) := by decide +kernel
theorem dX7_from_71 : decode cX7_from 71 = .ok (.iload 6, 2) := by decide +kernel
theorem dX7_from_73 : decode cX7_from 73 = .ok (.bipush (-4), 2) := by decide +kernel
theorem dX7_from_75 : decode cX7_from 75 = .ok (.if_icmp .eq 14, 3) := by decide +kernel
theorem dX7_from_78 : decode cX7_from 78 = .ok (.iload 6, 2) := by decide +kernel
theorem dX7_from_80 : decode cX7_from 80 = .ok (.iload_n 3, 1) := by decide +kernel
theorem dX7_from_81 : decode cX7_from 81 = .ok (.if_icmp .ge 8, 3) := by decide +kernel
theorem dX7_from_84 : decode cX7_from 84 = .ok (.iload 6, 2) := by decide +kernel
theorem dX7_from_86 : decode cX7_from 86 = .ok (.goto 4, 3) := by decide +kernel
theorem dX7_from_89 : decode cX7_from 89 = .ok (.iload_n 3, 1) := by decide +kernel
theorem dX7_from_90 : decode cX7_from 90 = .ok (.istore_n 3, 1) := by decide +kernel
theorem dX7_from_91 : decode cX7_from 91 = .ok (.iinc 5 1, 3) := by decide +kernel
theorem dX7_from_94 : decode cX7_from 94 = .ok (.goto (-63), 3) := by decide +kernel
theorem dX7_from_97 : decode cX7_from 97 = .ok (.iload 4, 2) := by decide +kernel
theorem dX7_from_99 : decode cX7_from 99 = .ok (.bipush (-4), 2) := by decide +kernel
theorem dX7_from_101 : decode cX7_from 101 = .ok (.if_icmp .eq 7, 3) := by decide +kernel
theorem dX7_from_104 : decode cX7_from 104 = .ok (.iload_n 2, 1) := by decide +kernel
theorem dX7_from_105 : decode cX7_from 105 = .ok (.ifCond .ne 8, 3) := by decide +kernel
theorem dX7_from_108 : decode cX7_from 108 = .ok (.iload 4, 2) := by decide +kernel
theorem dX7_from_110 : decode cX7_from 110 = .ok (.goto 4, 3) := by decide +kernel
theorem dX7_from_113 : decode cX7_from 113 = .ok (.iload_n 3, 1) := by decide +kernel
theorem dX7_from_114 : decode cX7_from 114 = .ok (.ireturn, 1) := by decide +kernel
theorem dX7_copies_0 : decode cX7_copies 0 = .ok (.iconst 0, 1) := by decide +kernel
theorem dX7_copies_1 : decode cX7_copies 1 = .ok (.istore_n 3, 1) := by decide +kernel
theorem dX7_copies_2 : decode cX7_copies 2 = .ok (.iload_n 3, 1) := by decide +kernel
theorem dX7_copies_3 : decode cX7_copies 3 = .ok (.bipush 63, 2) := by decide +kernel
theorem dX7_copies_5 : decode cX7_copies 5 = .ok (.if_icmp .ge 25, 3) := by decide +kernel
theorem dX7_copies_8 : decode cX7_copies 8 = .ok (.aload_n 0, 1) := by decide +kernel
theorem dX7_copies_9 : decode cX7_copies 9 = .ok (.getfield 7, 3) := by decide +kernel
theorem dX7_copies_12 : decode cX7_copies 12 = .ok (.iload_n 2, 1) := by decide +kernel
theorem dX7_copies_13 : decode cX7_copies 13 = .ok (.iload_n 3, 1) := by decide +kernel
theorem dX7_copies_14 : decode cX7_copies 14 = .ok (.iadd, 1) := by decide +kernel
theorem dX7_copies_15 : decode cX7_copies 15 = .ok (.aload_n 0, 1) := by decide +kernel
theorem dX7_copies_16 : decode cX7_copies 16 = .ok (.getfield 7, 3) := by decide +kernel
theorem dX7_copies_19 : decode cX7_copies 19 = .ok (.iload_n 1, 1) := by decide +kernel
theorem dX7_copies_20 : decode cX7_copies 20 = .ok (.iload_n 3, 1) := by decide +kernel
theorem dX7_copies_21 : decode cX7_copies 21 = .ok (.iadd, 1) := by decide +kernel
theorem dX7_copies_22 : decode cX7_copies 22 = .ok (.iaload, 1) := by decide +kernel
theorem dX7_copies_23 : decode cX7_copies 23 = .ok (.iastore, 1) := by decide +kernel
theorem dX7_copies_24 : decode cX7_copies 24 = .ok (.iinc 3 1, 3) := by decide +kernel
theorem dX7_copies_27 : decode cX7_copies 27 = .ok (.goto (-25), 3) := by decide +kernel
theorem dX7_copies_30 : decode cX7_copies 30 = .ok (.return_, 1) := by decide +kernel
theorem dX7_cuts_0 : decode cX7_cuts 0 = .ok (.aload_n 0, 1) := by decide +kernel
theorem dX7_cuts_1 : decode cX7_cuts 1 = .ok (.iconst 0, 1) := by decide +kernel
theorem dX7_cuts_2 : decode cX7_cuts 2 = .ok (.sipush 252, 3) := by decide +kernel
theorem dX7_cuts_5 : decode cX7_cuts 5 = .ok (.invokevirtual 204, 3) := by decide +kernel
theorem dX7_cuts_8 : decode cX7_cuts 8 = .ok (.iconst 1, 1) := by decide +kernel
theorem dX7_cuts_9 : decode cX7_cuts 9 = .ok (.istore_n 2, 1) := by decide +kernel
theorem dX7_cuts_10 : decode cX7_cuts 10 = .ok (.iconst 0, 1) := by decide +kernel
theorem dX7_cuts_11 : decode cX7_cuts 11 = .ok (.istore_n 3, 1) := by decide +kernel
theorem dX7_cuts_12 : decode cX7_cuts 12 = .ok (.iload_n 3, 1) := by decide +kernel
theorem dX7_cuts_13 : decode cX7_cuts 13 = .ok (.aload_n 0, 1) := by decide +kernel
theorem dX7_cuts_14 : decode cX7_cuts 14 = .ok (.getfield 7, 3) := by decide +kernel
theorem dX7_cuts_17 : decode cX7_cuts 17 = .ok (.bipush 42, 2) := by decide +kernel
theorem dX7_cuts_19 : decode cX7_cuts 19 = .ok (.iaload, 1) := by decide +kernel
theorem dX7_cuts_20 : decode cX7_cuts 20 = .ok (.if_icmp .ge 51, 3) := by decide +kernel
theorem dX7_cuts_23 : decode cX7_cuts 23 = .ok (.iload_n 1, 1) := by decide +kernel
theorem dX7_cuts_24 : decode cX7_cuts 24 = .ok (.iload_n 3, 1) := by decide +kernel
theorem dX7_cuts_25 : decode cX7_cuts 25 = .ok (.ishr, 1) := by decide +kernel
theorem dX7_cuts_26 : decode cX7_cuts 26 = .ok (.iconst 1, 1) := by decide +kernel
theorem dX7_cuts_27 : decode cX7_cuts 27 = .ok (.iand, 1) := by decide +kernel
theorem dX7_cuts_28 : decode cX7_cuts 28 = .ok (.iconst 1, 1) := by decide +kernel
theorem dX7_cuts_29 : decode cX7_cuts 29 = .ok (.if_icmp .ne 36, 3) := by decide +kernel
theorem dX7_cuts_32 : decode cX7_cuts 32 = .ok (.iload_n 2, 1) := by decide +kernel
theorem dX7_cuts_33 : decode cX7_cuts 33 = .ok (.ifCond .eq 19, 3) := by decide +kernel
theorem dX7_cuts_36 : decode cX7_cuts 36 = .ok (.aload_n 0, 1) := by decide +kernel
theorem dX7_cuts_37 : decode cX7_cuts 37 = .ok (.getfield 7, 3) := by decide +kernel
theorem dX7_cuts_40 : decode cX7_cuts 40 = .ok (.bipush 33, 2) := by decide +kernel
theorem dX7_cuts_42 : decode cX7_cuts 42 = .ok (.iload_n 3, 1) := by decide +kernel
theorem dX7_cuts_43 : decode cX7_cuts 43 = .ok (.iadd, 1) := by decide +kernel
theorem dX7_cuts_44 : decode cX7_cuts 44 = .ok (.iaload, 1) := by decide +kernel
theorem dX7_cuts_45 : decode cX7_cuts 45 = .ok (.ifCond .ne 7, 3) := by decide +kernel
theorem dX7_cuts_48 : decode cX7_cuts 48 = .ok (.iconst 1, 1) := by decide +kernel
theorem dX7_cuts_49 : decode cX7_cuts 49 = .ok (.goto 4, 3) := by decide +kernel
theorem dX7_cuts_52 : decode cX7_cuts 52 = .ok (.iconst 0, 1) := by decide +kernel
theorem dX7_cuts_53 : decode cX7_cuts 53 = .ok (.istore_n 2, 1) := by decide +kernel
theorem dX7_cuts_54 : decode cX7_cuts 54 = .ok (.aload_n 0, 1) := by decide +kernel
theorem dX7_cuts_55 : decode cX7_cuts 55 = .ok (.getfield 7, 3) := by decide +kernel
theorem dX7_cuts_58 : decode cX7_cuts 58 = .ok (.sipush 285, 3) := by decide +kernel
theorem dX7_cuts_61 : decode cX7_cuts 61 = .ok (.iload_n 3, 1) := by decide +kernel
theorem dX7_cuts_62 : decode cX7_cuts 62 = .ok (.iadd, 1) := by decide +kernel
theorem dX7_cuts_63 : decode cX7_cuts 63 = .ok (.iconst 1, 1) := by decide +kernel
theorem dX7_cuts_64 : decode cX7_cuts 64 = .ok (.iastore, 1) := by decide +kernel
theorem dX7_cuts_65 : decode cX7_cuts 65 = .ok (.iinc 3 1, 3) := by decide +kernel
theorem dX7_cuts_68 : decode cX7_cuts 68 = .ok (.goto (-56), 3) := by decide +kernel
theorem dX7_cuts_71 : decode cX7_cuts 71 = .ok (.iload_n 2, 1) := by decide +kernel
theorem dX7_cuts_72 : decode cX7_cuts 72 = .ok (.ireturn, 1) := by decide +kernel
theorem dX7_hush_0 : decode cX7_hush 0 = .ok (.aload_n 0, 1) := by decide +kernel
theorem dX7_hush_1 : decode cX7_hush 1 = .ok (.iload_n 1, 1) := by decide +kernel
theorem dX7_hush_2 : decode cX7_hush 2 = .ok (.invokevirtual 167, 3) := by decide +kernel
theorem dX7_hush_5 : decode cX7_hush 5 = .ok (.ifCond .eq 29, 3) := by decide +kernel
theorem dX7_hush_8 : decode cX7_hush 8 = .ok (.aload_n 0, 1) := by decide +kernel
theorem dX7_hush_9 : decode cX7_hush 9 = .ok (.iload_n 2, 1) := by decide +kernel
theorem dX7_hush_10 : decode cX7_hush 10 = .ok (.invokevirtual 167, 3) := by decide +kernel
theorem dX7_hush_13 : decode cX7_hush 13 = .ok (.ifCond .eq 21, 3) := by decide +kernel
theorem dX7_hush_16 : decode cX7_hush 16 = .ok (.iload_n 3, 1) := by decide +kernel
theorem dX7_hush_17 : decode cX7_hush 17 = .ok (.invokestatic 178, 3) := by decide +kernel
theorem dX7_hush_20 : decode cX7_hush 20 = .ok (.ifCond .eq 14, 3) := by decide +kernel
theorem dX7_hush_23 : decode cX7_hush 23 = .ok (.iload 4, 2) := by decide +kernel
theorem dX7_hush_25 : decode cX7_hush 25 = .ok (.i2l, 1) := by decide +kernel
theorem dX7_hush_26 : decode cX7_hush 26 = .ok (.lconst 0, 1) := by decide +kernel
theorem dX7_hush_27 : decode cX7_hush 27 = .ok (.lconst 1, 1) := by decide +kernel
theorem dX7_hush_28 : decode cX7_hush 28 = .ok (.invokestatic 52, 3) := by decide +kernel
theorem dX7_hush_31 : decode cX7_hush 31 = .ok (.ifCond .ne 5, 3) := by decide +kernel
theorem dX7_hush_34 : decode cX7_hush 34 = .ok (.iconst (-1), 1) := by decide +kernel
theorem dX7_hush_35 : decode cX7_hush 35 = .ok (.ireturn, 1) := by decide +kernel
theorem dX7_hush_36 : decode cX7_hush 36 = .ok (.sipush 1000, 3) := by decide +kernel
theorem dX7_hush_39 : decode cX7_hush 39 = .ok (.istore 5, 2) := by decide +kernel
theorem dX7_hush_41 : decode cX7_hush 41 = .ok (.bipush (-4), 2) := by decide +kernel
theorem dX7_hush_43 : decode cX7_hush 43 = .ok (.istore 6, 2) := by decide +kernel
theorem dX7_hush_45 : decode cX7_hush 45 = .ok (.iconst 0, 1) := by decide +kernel
theorem dX7_hush_46 : decode cX7_hush 46 = .ok (.istore 7, 2) := by decide +kernel
theorem dX7_hush_48 : decode cX7_hush 48 = .ok (.iload 7, 2) := by decide +kernel
theorem dX7_hush_50 : decode cX7_hush 50 = .ok (.iconst 1, 1) := by decide +kernel
theorem dX7_hush_51 : decode cX7_hush 51 = .ok (.aload_n 0, 1) := by decide +kernel
theorem dX7_hush_52 : decode cX7_hush 52 = .ok (.getfield 7, 3) := by decide +kernel
theorem dX7_hush_55 : decode cX7_hush 55 = .ok (.bipush 42, 2) := by decide +kernel
theorem dX7_hush_57 : decode cX7_hush 57 = .ok (.iaload, 1) := by decide +kernel
theorem dX7_hush_58 : decode cX7_hush 58 = .ok (.ishl, 1) := by decide +kernel
theorem dX7_hush_59 : decode cX7_hush 59 = .ok (.if_icmp .ge 55, 3) := by decide +kernel
theorem dX7_hush_62 : decode cX7_hush 62 = .ok (.iload 7, 2) := by decide +kernel
theorem dX7_hush_64 : decode cX7_hush 64 = .ok (.invokestatic 158, 3) := by decide +kernel
theorem dX7_hush_67 : decode cX7_hush 67 = .ok (.iload 5, 2) := by decide +kernel
theorem dX7_hush_69 : decode cX7_hush 69 = .ok (.if_icmp .ge 39, 3) := by decide +kernel
theorem dX7_hush_72 : decode cX7_hush 72 = .ok (.aload_n 0, 1) := by decide +kernel
theorem dX7_hush_73 : decode cX7_hush 73 = .ok (.iload 7, 2) := by decide +kernel
theorem dX7_hush_75 : decode cX7_hush 75 = .ok (.invokevirtual 207, 3) := by decide +kernel
theorem dX7_hush_78 : decode cX7_hush 78 = .ok (.ifCond .eq 30, 3) := by decide +kernel
theorem dX7_hush_81 : decode cX7_hush 81 = .ok (.aload_n 0, 1) := by decide +kernel
theorem dX7_hush_82 : decode cX7_hush 82 = .ok (.sipush 252, 3) := by decide +kernel
theorem dX7_hush_85 : decode cX7_hush 85 = .ok (.iload_n 1, 1) := by decide +kernel
theorem dX7_hush_86 : decode cX7_hush 86 = .ok (.iload_n 3, 1) := by decide +kernel
theorem dX7_hush_87 : decode cX7_hush 87 = .ok (.invokevirtual 155, 3) := by decide +kernel
theorem dX7_hush_90 : decode cX7_hush 90 = .ok (.iload_n 2, 1) := by decide +kernel
theorem dX7_hush_91 : decode cX7_hush 91 = .ok (.ishr, 1) := by decide +kernel
theorem dX7_hush_92 : decode cX7_hush 92 = .ok (.iconst 1, 1) := by decide +kernel
theorem dX7_hush_93 : decode cX7_hush 93 = .ok (.iand, 1) := by decide +kernel
theorem dX7_hush_94 : decode cX7_hush 94 = .ok (.ifCond .ne 14, 3) := by decide +kernel
theorem dX7_hush_97 : decode cX7_hush 97 = .ok (.iload 7, 2) := by decide +kernel
theorem dX7_hush_99 : decode cX7_hush 99 = .ok (.invokestatic 158, 3) := by decide +kernel
theorem dX7_hush_102 : decode cX7_hush 102 = .ok (.istore 5, 2) := by decide +kernel
theorem dX7_hush_104 : decode cX7_hush 104 = .ok (.iload 7, 2) := by decide +kernel
theorem dX7_hush_106 : decode cX7_hush 106 = .ok (.istore 6, 2) := by decide +kernel
theorem dX7_hush_108 : decode cX7_hush 108 = .ok (.iinc 7 1, 3) := by decide +kernel
theorem dX7_hush_111 : decode cX7_hush 111 = .ok (.goto (-63), 3) := by decide +kernel
theorem dX7_hush_114 : decode cX7_hush 114 = .ok (.iload 6, 2) := by decide +kernel
theorem dX7_hush_116 : decode cX7_hush 116 = .ok (.bipush (-4), 2) := by decide +kernel
theorem dX7_hush_118 : decode cX7_hush 118 = .ok (.if_icmp .eq 9, 3) := by decide +kernel
theorem dX7_hush_121 : decode cX7_hush 121 = .ok (.iload 4, 2) := by decide +kernel
theorem dX7_hush_123 : decode cX7_hush 123 = .ok (.iconst 1, 1) := by decide +kernel
theorem dX7_hush_124 : decode cX7_hush 124 = .ok (.if_icmp .ne 8, 3) := by decide +kernel
theorem dX7_hush_127 : decode cX7_hush 127 = .ok (.iload 6, 2) := by decide +kernel
theorem dX7_hush_129 : decode cX7_hush 129 = .ok (.goto 5, 3) := by decide +kernel
theorem dX7_hush_132 : decode cX7_hush 132 = .ok (.iload 5, 2) := by decide +kernel
theorem dX7_hush_134 : decode cX7_hush 134 = .ok (.ireturn, 1) := by decide +kernel
theorem dX7_join_0 : decode cX7_join 0 = .ok (.aload_n 0, 1) := by decide +kernel
theorem dX7_join_1 : decode cX7_join 1 = .ok (.iload_n 1, 1) := by decide +kernel
theorem dX7_join_2 : decode cX7_join 2 = .ok (.invokevirtual 167, 3) := by decide +kernel
theorem dX7_join_5 : decode cX7_join 5 = .ok (.ifCond .eq 33, 3) := by decide +kernel
theorem dX7_join_8 : decode cX7_join 8 = .ok (.iload_n 2, 1) := by decide +kernel
theorem dX7_join_9 : decode cX7_join 9 = .ok (.invokestatic 178, 3) := by decide +kernel
theorem dX7_join_12 : decode cX7_join 12 = .ok (.ifCond .eq 26, 3) := by decide +kernel
theorem dX7_join_15 : decode cX7_join 15 = .ok (.iload_n 3, 1) := by decide +kernel
theorem dX7_join_16 : decode cX7_join 16 = .ok (.i2l, 1) := by decide +kernel
theorem dX7_join_17 : decode cX7_join 17 = .ok (.lconst 1, 1) := by decide +kernel
theorem dX7_join_18 : decode cX7_join 18 = .ok (.ldc2_w 185, 3) := by decide +kernel
theorem dX7_join_21 : decode cX7_join 21 = .ok (.invokestatic 52, 3) := by decide +kernel
theorem dX7_join_24 : decode cX7_join 24 = .ok (.ifCond .eq 14, 3) := by decide +kernel
theorem dX7_join_27 : decode cX7_join 27 = .ok (.iload 4, 2) := by decide +kernel
theorem dX7_join_29 : decode cX7_join 29 = .ok (.i2l, 1) := by decide +kernel
theorem dX7_join_30 : decode cX7_join 30 = .ok (.lconst 0, 1) := by decide +kernel
theorem dX7_join_31 : decode cX7_join 31 = .ok (.lconst 1, 1) := by decide +kernel
theorem dX7_join_32 : decode cX7_join 32 = .ok (.invokestatic 52, 3) := by decide +kernel
theorem dX7_join_35 : decode cX7_join 35 = .ok (.ifCond .ne 5, 3) := by decide +kernel
theorem dX7_join_38 : decode cX7_join 38 = .ok (.iconst (-1), 1) := by decide +kernel
theorem dX7_join_39 : decode cX7_join 39 = .ok (.ireturn, 1) := by decide +kernel
theorem dX7_join_40 : decode cX7_join 40 = .ok (.aload_n 0, 1) := by decide +kernel
theorem dX7_join_41 : decode cX7_join 41 = .ok (.getfield 7, 3) := by decide +kernel
theorem dX7_join_44 : decode cX7_join 44 = .ok (.bipush 42, 2) := by decide +kernel
theorem dX7_join_46 : decode cX7_join 46 = .ok (.iaload, 1) := by decide +kernel
theorem dX7_join_47 : decode cX7_join 47 = .ok (.bipush 9, 2) := by decide +kernel
theorem dX7_join_49 : decode cX7_join 49 = .ok (.if_icmp .ne 6, 3) := by decide +kernel
theorem dX7_join_52 : decode cX7_join 52 = .ok (.bipush (-3), 2) := by decide +kernel
theorem dX7_join_54 : decode cX7_join 54 = .ok (.ireturn, 1) := by decide +kernel
theorem dX7_join_55 : decode cX7_join 55 = .ok (.aload_n 0, 1) := by decide +kernel
theorem dX7_join_56 : decode cX7_join 56 = .ok (.iconst 0, 1) := by decide +kernel
theorem dX7_join_57 : decode cX7_join 57 = .ok (.iload_n 1, 1) := by decide +kernel
theorem dX7_join_58 : decode cX7_join 58 = .ok (.iload_n 2, 1) := by decide +kernel
theorem dX7_join_59 : decode cX7_join 59 = .ok (.invokevirtual 155, 3) := by decide +kernel
theorem dX7_join_62 : decode cX7_join 62 = .ok (.invokestatic 158, 3) := by decide +kernel
theorem dX7_join_65 : decode cX7_join 65 = .ok (.istore 5, 2) := by decide +kernel
theorem dX7_join_67 : decode cX7_join 67 = .ok (.bipush (-4), 2) := by decide +kernel
theorem dX7_join_69 : decode cX7_join 69 = .ok (.istore 6, 2) := by decide +kernel
theorem dX7_join_71 : decode cX7_join 71 = .ok (.iconst 0, 1) := by decide +kernel
theorem dX7_join_72 : decode cX7_join 72 = .ok (.istore 7, 2) := by decide +kernel
theorem dX7_join_74 : decode cX7_join 74 = .ok (.iload 7, 2) := by decide +kernel
theorem dX7_join_76 : decode cX7_join 76 = .ok (.aload_n 0, 1) := by decide +kernel
theorem dX7_join_77 : decode cX7_join 77 = .ok (.getfield 136, 3) := by decide +kernel
theorem dX7_join_80 : decode cX7_join 80 = .ok (.if_icmp .ge 102, 3) := by decide +kernel
theorem dX7_join_83 : decode cX7_join 83 = .ok (.iload 7, 2) := by decide +kernel
theorem dX7_join_85 : decode cX7_join 85 = .ok (.iconst 1, 1) := by decide +kernel
theorem dX7_join_86 : decode cX7_join 86 = .ok (.iadd, 1) := by decide +kernel
theorem dX7_join_87 : decode cX7_join 87 = .ok (.istore 8, 2) := by decide +kernel
theorem dX7_join_89 : decode cX7_join 89 = .ok (.iload 8, 2) := by decide +kernel
theorem dX7_join_91 : decode cX7_join 91 = .ok (.aload_n 0, 1) := by decide +kernel
theorem dX7_join_92 : decode cX7_join 92 = .ok (.getfield 136, 3) := by decide +kernel
theorem dX7_join_95 : decode cX7_join 95 = .ok (.if_icmp .ge 81, 3) := by decide +kernel
theorem dX7_join_98 : decode cX7_join 98 = .ok (.aload_n 0, 1) := by decide +kernel
theorem dX7_join_99 : decode cX7_join 99 = .ok (.iconst 0, 1) := by decide +kernel
theorem dX7_join_100 : decode cX7_join 100 = .ok (.sipush 252, 3) := by decide +kernel
theorem dX7_join_103 : decode cX7_join 103 = .ok (.invokevirtual 204, 3) := by decide +kernel
theorem dX7_join_106 : decode cX7_join 106 = .ok (.aload_n 0, 1) := by decide +kernel
theorem dX7_join_107 : decode cX7_join 107 = .ok (.sipush 252, 3) := by decide +kernel
theorem dX7_join_110 : decode cX7_join 110 = .ok (.iload 7, 2) := by decide +kernel
theorem dX7_join_112 : decode cX7_join 112 = .ok (.iload 8, 2) := by decide +kernel
theorem dX7_join_114 : decode cX7_join 114 = .ok (.iload_n 3, 1) := by decide +kernel
theorem dX7_join_115 : decode cX7_join 115 = .ok (.invokevirtual 187, 3) := by decide +kernel
theorem dX7_join_118 : decode cX7_join 118 = .ok (.aload_n 0, 1) := by decide +kernel
theorem dX7_join_119 : decode cX7_join 119 = .ok (.sipush 252, 3) := by decide +kernel
theorem dX7_join_122 : decode cX7_join 122 = .ok (.iload_n 1, 1) := by decide +kernel
theorem dX7_join_123 : decode cX7_join 123 = .ok (.iload_n 2, 1) := by decide +kernel
theorem dX7_join_124 : decode cX7_join 124 = .ok (.invokevirtual 155, 3) := by decide +kernel
theorem dX7_join_127 : decode cX7_join 127 = .ok (.invokestatic 158, 3) := by decide +kernel
theorem dX7_join_130 : decode cX7_join 130 = .ok (.istore 9, 2) := by decide +kernel
theorem dX7_join_132 : decode cX7_join 132 = .ok (.iload 9, 2) := by decide +kernel
theorem dX7_join_134 : decode cX7_join 134 = .ok (.iload 5, 2) := by decide +kernel
theorem dX7_join_136 : decode cX7_join 136 = .ok (.if_icmp .le 14, 3) := by decide +kernel
theorem dX7_join_139 : decode cX7_join 139 = .ok (.bipush 10, 2) := by decide +kernel
theorem dX7_join_141 : decode cX7_join 141 = .ok (.iload 7, 2) := by decide +kernel
theorem dX7_join_143 : decode cX7_join 143 = .ok (.imul, 1) := by decide +kernel
theorem dX7_join_144 : decode cX7_join 144 = .ok (.iload 8, 2) := by decide +kernel
theorem dX7_join_146 : decode cX7_join 146 = .ok (.iadd, 1) := by decide +kernel
theorem dX7_join_147 : decode cX7_join 147 = .ok (.goto 5, 3) := by decide +kernel
theorem dX7_join_150 : decode cX7_join 150 = .ok (.iload 6, 2) := by decide +kernel
theorem dX7_join_152 : decode cX7_join 152 = .ok (.istore 6, 2) := by decide +kernel
theorem dX7_join_154 : decode cX7_join 154 = .ok (.iload 9, 2) := by decide +kernel
theorem dX7_join_156 : decode cX7_join 156 = .ok (.iload 5, 2) := by decide +kernel
theorem dX7_join_158 : decode cX7_join 158 = .ok (.if_icmp .le 8, 3) := by decide +kernel
theorem dX7_join_161 : decode cX7_join 161 = .ok (.iload 9, 2) := by decide +kernel
theorem dX7_join_163 : decode cX7_join 163 = .ok (.goto 5, 3) := by decide +kernel
theorem dX7_join_166 : decode cX7_join 166 = .ok (.iload 5, 2) := by decide +kernel
theorem dX7_join_168 : decode cX7_join 168 = .ok (.istore 5, 2) := by decide +kernel
theorem dX7_join_170 : decode cX7_join 170 = .ok (.iinc 8 1, 3) := by decide +kernel
theorem dX7_join_173 : decode cX7_join 173 = .ok (.goto (-84), 3) := by decide +kernel
theorem dX7_join_176 : decode cX7_join 176 = .ok (.iinc 7 1, 3) := by decide +kernel
theorem dX7_join_179 : decode cX7_join 179 = .ok (.goto (-105), 3) := by decide +kernel
theorem dX7_join_182 : decode cX7_join 182 = .ok (.iload 6, 2) := by decide +kernel
theorem dX7_join_184 : decode cX7_join 184 = .ok (.bipush (-4), 2) := by decide +kernel
theorem dX7_join_186 : decode cX7_join 186 = .ok (.if_icmp .eq 8, 3) := by decide +kernel
theorem dX7_join_189 : decode cX7_join 189 = .ok (.iload 4, 2) := by decide +kernel
theorem dX7_join_191 : decode cX7_join 191 = .ok (.ifCond .ne 8, 3) := by decide +kernel
theorem dX7_join_194 : decode cX7_join 194 = .ok (.iload 6, 2) := by decide +kernel
theorem dX7_join_196 : decode cX7_join 196 = .ok (.goto 5, 3) := by decide +kernel
theorem dX7_join_199 : decode cX7_join 199 = .ok (.iload 5, 2) := by decide +kernel
theorem dX7_join_201 : decode cX7_join 201 = .ok (.ireturn, 1) := by decide +kernel
theorem dX7_dear_0 : decode cX7_dear 0 = .ok (.iload_n 1, 1) := by decide +kernel
theorem dX7_dear_1 : decode cX7_dear 1 = .ok (.i2l, 1) := by decide +kernel
theorem dX7_dear_2 : decode cX7_dear 2 = .ok (.lconst 0, 1) := by decide +kernel
theorem dX7_dear_3 : decode cX7_dear 3 = .ok (.lconst 1, 1) := by decide +kernel
theorem dX7_dear_4 : decode cX7_dear 4 = .ok (.invokestatic 52, 3) := by decide +kernel
theorem dX7_dear_7 : decode cX7_dear 7 = .ok (.ifCond .ne 5, 3) := by decide +kernel
theorem dX7_dear_10 : decode cX7_dear 10 = .ok (.iconst (-1), 1) := by decide +kernel
theorem dX7_dear_11 : decode cX7_dear 11 = .ok (.ireturn, 1) := by decide +kernel
theorem dX7_dear_12 : decode cX7_dear 12 = .ok (.aload_n 0, 1) := by decide +kernel
theorem dX7_dear_13 : decode cX7_dear 13 = .ok (.iconst 0, 1) := by decide +kernel
theorem dX7_dear_14 : decode cX7_dear 14 = .ok (.invokevirtual 161, 3) := by decide +kernel
theorem dX7_dear_17 : decode cX7_dear 17 = .ok (.istore_n 2, 1) := by decide +kernel
theorem dX7_dear_18 : decode cX7_dear 18 = .ok (.bipush (-4), 2) := by decide +kernel
theorem dX7_dear_20 : decode cX7_dear 20 = .ok (.istore_n 3, 1) := by decide +kernel
theorem dX7_dear_21 : decode cX7_dear 21 = .ok (.iconst 0, 1) := by decide +kernel
theorem dX7_dear_22 : decode cX7_dear 22 = .ok (.istore 4, 2) := by decide +kernel
theorem dX7_dear_24 : decode cX7_dear 24 = .ok (.iload 4, 2) := by decide +kernel
theorem dX7_dear_26 : decode cX7_dear 26 = .ok (.aload_n 0, 1) := by decide +kernel
theorem dX7_dear_27 : decode cX7_dear 27 = .ok (.getfield 7, 3) := by decide +kernel
theorem dX7_dear_30 : decode cX7_dear 30 = .ok (.bipush 42, 2) := by decide +kernel
theorem dX7_dear_32 : decode cX7_dear 32 = .ok (.iaload, 1) := by decide +kernel
theorem dX7_dear_33 : decode cX7_dear 33 = .ok (.if_icmp .ge 55, 3) := by decide +kernel
theorem dX7_dear_36 : decode cX7_dear 36 = .ok (.aload_n 0, 1) := by decide +kernel
theorem dX7_dear_37 : decode cX7_dear 37 = .ok (.iconst 1, 1) := by decide +kernel
theorem dX7_dear_38 : decode cX7_dear 38 = .ok (.iload 4, 2) := by decide +kernel
theorem dX7_dear_40 : decode cX7_dear 40 = .ok (.ishl, 1) := by decide +kernel
theorem dX7_dear_41 : decode cX7_dear 41 = .ok (.invokevirtual 207, 3) := by decide +kernel
theorem dX7_dear_44 : decode cX7_dear 44 = .ok (.ifCond .eq 38, 3) := by decide +kernel
theorem dX7_dear_47 : decode cX7_dear 47 = .ok (.aload_n 0, 1) := by decide +kernel
theorem dX7_dear_48 : decode cX7_dear 48 = .ok (.sipush 252, 3) := by decide +kernel
theorem dX7_dear_51 : decode cX7_dear 51 = .ok (.invokevirtual 161, 3) := by decide +kernel
theorem dX7_dear_54 : decode cX7_dear 54 = .ok (.istore 5, 2) := by decide +kernel
theorem dX7_dear_56 : decode cX7_dear 56 = .ok (.iload 5, 2) := by decide +kernel
theorem dX7_dear_58 : decode cX7_dear 58 = .ok (.iload_n 2, 1) := by decide +kernel
theorem dX7_dear_59 : decode cX7_dear 59 = .ok (.if_icmp .ge 8, 3) := by decide +kernel
theorem dX7_dear_62 : decode cX7_dear 62 = .ok (.iload 4, 2) := by decide +kernel
theorem dX7_dear_64 : decode cX7_dear 64 = .ok (.goto 4, 3) := by decide +kernel
theorem dX7_dear_67 : decode cX7_dear 67 = .ok (.iload_n 3, 1) := by decide +kernel
theorem dX7_dear_68 : decode cX7_dear 68 = .ok (.istore_n 3, 1) := by decide +kernel
theorem dX7_dear_69 : decode cX7_dear 69 = .ok (.iload 5, 2) := by decide +kernel
theorem dX7_dear_71 : decode cX7_dear 71 = .ok (.iload_n 2, 1) := by decide +kernel
theorem dX7_dear_72 : decode cX7_dear 72 = .ok (.if_icmp .ge 8, 3) := by decide +kernel
theorem dX7_dear_75 : decode cX7_dear 75 = .ok (.iload 5, 2) := by decide +kernel
theorem dX7_dear_77 : decode cX7_dear 77 = .ok (.goto 4, 3) := by decide +kernel
theorem dX7_dear_80 : decode cX7_dear 80 = .ok (.iload_n 2, 1) := by decide +kernel
theorem dX7_dear_81 : decode cX7_dear 81 = .ok (.istore_n 2, 1) := by decide +kernel
theorem dX7_dear_82 : decode cX7_dear 82 = .ok (.iinc 4 1, 3) := by decide +kernel
theorem dX7_dear_85 : decode cX7_dear 85 = .ok (.goto (-61), 3) := by decide +kernel
theorem dX7_dear_88 : decode cX7_dear 88 = .ok (.iload_n 3, 1) := by decide +kernel
theorem dX7_dear_89 : decode cX7_dear 89 = .ok (.bipush (-4), 2) := by decide +kernel
theorem dX7_dear_91 : decode cX7_dear 91 = .ok (.if_icmp .eq 7, 3) := by decide +kernel
theorem dX7_dear_94 : decode cX7_dear 94 = .ok (.iload_n 1, 1) := by decide +kernel
theorem dX7_dear_95 : decode cX7_dear 95 = .ok (.ifCond .ne 7, 3) := by decide +kernel
theorem dX7_dear_98 : decode cX7_dear 98 = .ok (.iload_n 3, 1) := by decide +kernel
theorem dX7_dear_99 : decode cX7_dear 99 = .ok (.goto 4, 3) := by decide +kernel
theorem dX7_dear_102 : decode cX7_dear 102 = .ok (.iload_n 2, 1) := by decide +kernel
theorem dX7_dear_103 : decode cX7_dear 103 = .ok (.ireturn, 1) := by decide +kernel
theorem dX7_hour_0 : decode cX7_hour 0 = .ok (.aload_n 0, 1) := by decide +kernel
theorem dX7_hour_1 : decode cX7_hour 1 = .ok (.iload_n 1, 1) := by decide +kernel
theorem dX7_hour_2 : decode cX7_hour 2 = .ok (.invokevirtual 175, 3) := by decide +kernel
theorem dX7_hour_5 : decode cX7_hour 5 = .ok (.ifCond .eq 13, 3) := by decide +kernel
theorem dX7_hour_8 : decode cX7_hour 8 = .ok (.iload_n 2, 1) := by decide +kernel
theorem dX7_hour_9 : decode cX7_hour 9 = .ok (.i2l, 1) := by decide +kernel
theorem dX7_hour_10 : decode cX7_hour 10 = .ok (.lconst 0, 1) := by decide +kernel
theorem dX7_hour_11 : decode cX7_hour 11 = .ok (.lconst 1, 1) := by decide +kernel
theorem dX7_hour_12 : decode cX7_hour 12 = .ok (.invokestatic 52, 3) := by decide +kernel
theorem dX7_hour_15 : decode cX7_hour 15 = .ok (.ifCond .ne 5, 3) := by decide +kernel
theorem dX7_hour_18 : decode cX7_hour 18 = .ok (.iconst (-1), 1) := by decide +kernel
theorem dX7_hour_19 : decode cX7_hour 19 = .ok (.ireturn, 1) := by decide +kernel
theorem dX7_hour_20 : decode cX7_hour 20 = .ok (.sipush 1000, 3) := by decide +kernel
theorem dX7_hour_23 : decode cX7_hour 23 = .ok (.istore_n 3, 1) := by decide +kernel
theorem dX7_hour_24 : decode cX7_hour 24 = .ok (.iconst 0, 1) := by decide +kernel
theorem dX7_hour_25 : decode cX7_hour 25 = .ok (.istore 4, 2) := by decide +kernel
theorem dX7_hour_27 : decode cX7_hour 27 = .ok (.aload_n 0, 1) := by decide +kernel
theorem dX7_hour_28 : decode cX7_hour 28 = .ok (.iconst 0, 1) := by decide +kernel
theorem dX7_hour_29 : decode cX7_hour 29 = .ok (.sipush 252, 3) := by decide +kernel
theorem dX7_hour_32 : decode cX7_hour 32 = .ok (.invokevirtual 204, 3) := by decide +kernel
theorem dX7_hour_35 : decode cX7_hour 35 = .ok (.iconst 0, 1) := by decide +kernel
theorem dX7_hour_36 : decode cX7_hour 36 = .ok (.istore 5, 2) := by decide +kernel
theorem dX7_hour_38 : decode cX7_hour 38 = .ok (.iload 5, 2) := by decide +kernel
theorem dX7_hour_40 : decode cX7_hour 40 = .ok (.bipush 24, 2) := by decide +kernel
theorem dX7_hour_42 : decode cX7_hour 42 = .ok (.if_icmp .ge 58, 3) := by decide +kernel
theorem dX7_hour_45 : decode cX7_hour 45 = .ok (.aload_n 0, 1) := by decide +kernel
theorem dX7_hour_46 : decode cX7_hour 46 = .ok (.getfield 7, 3) := by decide +kernel
theorem dX7_hour_49 : decode cX7_hour 49 = .ok (.sipush 296, 3) := by decide +kernel
theorem dX7_hour_52 : decode cX7_hour 52 = .ok (.iload_n 1, 1) := by decide +kernel
theorem dX7_hour_53 : decode cX7_hour 53 = .ok (.iadd, 1) := by decide +kernel
theorem dX7_hour_54 : decode cX7_hour 54 = .ok (.iload 5, 2) := by decide +kernel
theorem dX7_hour_56 : decode cX7_hour 56 = .ok (.iastore, 1) := by decide +kernel
theorem dX7_hour_57 : decode cX7_hour 57 = .ok (.aload_n 0, 1) := by decide +kernel
theorem dX7_hour_58 : decode cX7_hour 58 = .ok (.sipush 252, 3) := by decide +kernel
theorem dX7_hour_61 : decode cX7_hour 61 = .ok (.invokevirtual 164, 3) := by decide +kernel
theorem dX7_hour_64 : decode cX7_hour 64 = .ok (.istore 6, 2) := by decide +kernel
theorem dX7_hour_66 : decode cX7_hour 66 = .ok (.iload 6, 2) := by decide +kernel
theorem dX7_hour_68 : decode cX7_hour 68 = .ok (.iload_n 3, 1) := by decide +kernel
theorem dX7_hour_69 : decode cX7_hour 69 = .ok (.if_icmp .ge 8, 3) := by decide +kernel
theorem dX7_hour_72 : decode cX7_hour 72 = .ok (.iload 5, 2) := by decide +kernel
theorem dX7_hour_74 : decode cX7_hour 74 = .ok (.goto 5, 3) := by decide +kernel
theorem dX7_hour_77 : decode cX7_hour 77 = .ok (.iload 4, 2) := by decide +kernel
theorem dX7_hour_79 : decode cX7_hour 79 = .ok (.istore 4, 2) := by decide +kernel
theorem dX7_hour_81 : decode cX7_hour 81 = .ok (.iload 6, 2) := by decide +kernel
theorem dX7_hour_83 : decode cX7_hour 83 = .ok (.iload_n 3, 1) := by decide +kernel
theorem dX7_hour_84 : decode cX7_hour 84 = .ok (.if_icmp .ge 8, 3) := by decide +kernel
theorem dX7_hour_87 : decode cX7_hour 87 = .ok (.iload 6, 2) := by decide +kernel
theorem dX7_hour_89 : decode cX7_hour 89 = .ok (.goto 4, 3) := by decide +kernel
theorem dX7_hour_92 : decode cX7_hour 92 = .ok (.iload_n 3, 1) := by decide +kernel
theorem dX7_hour_93 : decode cX7_hour 93 = .ok (.istore_n 3, 1) := by decide +kernel
theorem dX7_hour_94 : decode cX7_hour 94 = .ok (.iinc 5 1, 3) := by decide +kernel
theorem dX7_hour_97 : decode cX7_hour 97 = .ok (.goto (-59), 3) := by decide +kernel
theorem dX7_hour_100 : decode cX7_hour 100 = .ok (.iload_n 2, 1) := by decide +kernel
theorem dX7_hour_101 : decode cX7_hour 101 = .ok (.ifCond .ne 8, 3) := by decide +kernel
theorem dX7_hour_104 : decode cX7_hour 104 = .ok (.iload 4, 2) := by decide +kernel
theorem dX7_hour_106 : decode cX7_hour 106 = .ok (.goto 4, 3) := by decide +kernel
theorem dX7_hour_109 : decode cX7_hour 109 = .ok (.iload_n 3, 1) := by decide +kernel
theorem dX7_hour_110 : decode cX7_hour 110 = .ok (.ireturn, 1) := by decide +kernel
theorem dX7_kind_0 : decode cX7_kind 0 = .ok (.aload_n 0, 1) := by decide +kernel
theorem dX7_kind_1 : decode cX7_kind 1 = .ok (.iload_n 1, 1) := by decide +kernel
theorem dX7_kind_2 : decode cX7_kind 2 = .ok (.invokevirtual 167, 3) := by decide +kernel
theorem dX7_kind_5 : decode cX7_kind 5 = .ok (.ifCond .eq 13, 3) := by decide +kernel
theorem dX7_kind_8 : decode cX7_kind 8 = .ok (.iload_n 2, 1) := by decide +kernel
theorem dX7_kind_9 : decode cX7_kind 9 = .ok (.i2l, 1) := by decide +kernel
theorem dX7_kind_10 : decode cX7_kind 10 = .ok (.lconst 0, 1) := by decide +kernel
theorem dX7_kind_11 : decode cX7_kind 11 = .ok (.lconst 1, 1) := by decide +kernel
theorem dX7_kind_12 : decode cX7_kind 12 = .ok (.invokestatic 52, 3) := by decide +kernel
theorem dX7_kind_15 : decode cX7_kind 15 = .ok (.ifCond .ne 5, 3) := by decide +kernel
theorem dX7_kind_18 : decode cX7_kind 18 = .ok (.iconst (-1), 1) := by decide +kernel
theorem dX7_kind_19 : decode cX7_kind 19 = .ok (.ireturn, 1) := by decide +kernel
theorem dX7_kind_20 : decode cX7_kind 20 = .ok (.sipush 1000, 3) := by decide +kernel
theorem dX7_kind_23 : decode cX7_kind 23 = .ok (.istore_n 3, 1) := by decide +kernel
theorem dX7_kind_24 : decode cX7_kind 24 = .ok (.iconst 0, 1) := by decide +kernel
theorem dX7_kind_25 : decode cX7_kind 25 = .ok (.istore 4, 2) := by decide +kernel
theorem dX7_kind_27 : decode cX7_kind 27 = .ok (.aload_n 0, 1) := by decide +kernel
theorem dX7_kind_28 : decode cX7_kind 28 = .ok (.iconst 0, 1) := by decide +kernel
theorem dX7_kind_29 : decode cX7_kind 29 = .ok (.sipush 252, 3) := by decide +kernel
theorem dX7_kind_32 : decode cX7_kind 32 = .ok (.invokevirtual 204, 3) := by decide +kernel
theorem dX7_kind_35 : decode cX7_kind 35 = .ok (.iconst 0, 1) := by decide +kernel
theorem dX7_kind_36 : decode cX7_kind 36 = .ok (.istore 5, 2) := by decide +kernel
theorem dX7_kind_38 : decode cX7_kind 38 = .ok (.iload 5, 2) := by decide +kernel
theorem dX7_kind_40 : decode cX7_kind 40 = .ok (.iconst 4, 1) := by decide +kernel
theorem dX7_kind_41 : decode cX7_kind 41 = .ok (.if_icmp .ge 58, 3) := by decide +kernel
theorem dX7_kind_44 : decode cX7_kind 44 = .ok (.aload_n 0, 1) := by decide +kernel
theorem dX7_kind_45 : decode cX7_kind 45 = .ok (.getfield 7, 3) := by decide +kernel
theorem dX7_kind_48 : decode cX7_kind 48 = .ok (.sipush 252, 3) := by decide +kernel
theorem dX7_kind_51 : decode cX7_kind 51 = .ok (.iload_n 1, 1) := by decide +kernel
theorem dX7_kind_52 : decode cX7_kind 52 = .ok (.iadd, 1) := by decide +kernel
theorem dX7_kind_53 : decode cX7_kind 53 = .ok (.iload 5, 2) := by decide +kernel
theorem dX7_kind_55 : decode cX7_kind 55 = .ok (.iastore, 1) := by decide +kernel
theorem dX7_kind_56 : decode cX7_kind 56 = .ok (.aload_n 0, 1) := by decide +kernel
theorem dX7_kind_57 : decode cX7_kind 57 = .ok (.sipush 252, 3) := by decide +kernel
theorem dX7_kind_60 : decode cX7_kind 60 = .ok (.invokevirtual 164, 3) := by decide +kernel
theorem dX7_kind_63 : decode cX7_kind 63 = .ok (.istore 6, 2) := by decide +kernel
theorem dX7_kind_65 : decode cX7_kind 65 = .ok (.iload 6, 2) := by decide +kernel
theorem dX7_kind_67 : decode cX7_kind 67 = .ok (.iload_n 3, 1) := by decide +kernel
theorem dX7_kind_68 : decode cX7_kind 68 = .ok (.if_icmp .ge 8, 3) := by decide +kernel
theorem dX7_kind_71 : decode cX7_kind 71 = .ok (.iload 5, 2) := by decide +kernel
theorem dX7_kind_73 : decode cX7_kind 73 = .ok (.goto 5, 3) := by decide +kernel
theorem dX7_kind_76 : decode cX7_kind 76 = .ok (.iload 4, 2) := by decide +kernel
theorem dX7_kind_78 : decode cX7_kind 78 = .ok (.istore 4, 2) := by decide +kernel
theorem dX7_kind_80 : decode cX7_kind 80 = .ok (.iload 6, 2) := by decide +kernel
theorem dX7_kind_82 : decode cX7_kind 82 = .ok (.iload_n 3, 1) := by decide +kernel
theorem dX7_kind_83 : decode cX7_kind 83 = .ok (.if_icmp .ge 8, 3) := by decide +kernel
theorem dX7_kind_86 : decode cX7_kind 86 = .ok (.iload 6, 2) := by decide +kernel
theorem dX7_kind_88 : decode cX7_kind 88 = .ok (.goto 4, 3) := by decide +kernel
theorem dX7_kind_91 : decode cX7_kind 91 = .ok (.iload_n 3, 1) := by decide +kernel
theorem dX7_kind_92 : decode cX7_kind 92 = .ok (.istore_n 3, 1) := by decide +kernel
theorem dX7_kind_93 : decode cX7_kind 93 = .ok (.iinc 5 1, 3) := by decide +kernel
theorem dX7_kind_96 : decode cX7_kind 96 = .ok (.goto (-58), 3) := by decide +kernel
theorem dX7_kind_99 : decode cX7_kind 99 = .ok (.iload_n 2, 1) := by decide +kernel
theorem dX7_kind_100 : decode cX7_kind 100 = .ok (.ifCond .ne 8, 3) := by decide +kernel
theorem dX7_kind_103 : decode cX7_kind 103 = .ok (.iload 4, 2) := by decide +kernel
theorem dX7_kind_105 : decode cX7_kind 105 = .ok (.goto 4, 3) := by decide +kernel
theorem dX7_kind_108 : decode cX7_kind 108 = .ok (.iload_n 3, 1) := by decide +kernel
theorem dX7_kind_109 : decode cX7_kind 109 = .ok (.ireturn, 1) := by decide +kernel
theorem dX7_calm_0 : decode cX7_calm 0 = .ok (.aload_n 0, 1) := by decide +kernel
theorem dX7_calm_1 : decode cX7_calm 1 = .ok (.iconst 0, 1) := by decide +kernel
theorem dX7_calm_2 : decode cX7_calm 2 = .ok (.sipush 252, 3) := by decide +kernel
theorem dX7_calm_5 : decode cX7_calm 5 = .ok (.invokevirtual 204, 3) := by decide +kernel
theorem dX7_calm_8 : decode cX7_calm 8 = .ok (.iconst 0, 1) := by decide +kernel
theorem dX7_calm_9 : decode cX7_calm 9 = .ok (.istore_n 1, 1) := by decide +kernel
theorem dX7_calm_10 : decode cX7_calm 10 = .ok (.iload_n 1, 1) := by decide +kernel
theorem dX7_calm_11 : decode cX7_calm 11 = .ok (.bipush 20, 2) := by decide +kernel
theorem dX7_calm_13 : decode cX7_calm 13 = .ok (.if_icmp .gt 30, 3) := by decide +kernel
theorem dX7_calm_16 : decode cX7_calm 16 = .ok (.aload_n 0, 1) := by decide +kernel
theorem dX7_calm_17 : decode cX7_calm 17 = .ok (.getfield 7, 3) := by decide +kernel
theorem dX7_calm_20 : decode cX7_calm 20 = .ok (.sipush 295, 3) := by decide +kernel
theorem dX7_calm_23 : decode cX7_calm 23 = .ok (.iload_n 1, 1) := by decide +kernel
theorem dX7_calm_24 : decode cX7_calm 24 = .ok (.iastore, 1) := by decide +kernel
theorem dX7_calm_25 : decode cX7_calm 25 = .ok (.aload_n 0, 1) := by decide +kernel
theorem dX7_calm_26 : decode cX7_calm 26 = .ok (.sipush 252, 3) := by decide +kernel
theorem dX7_calm_29 : decode cX7_calm 29 = .ok (.invokevirtual 164, 3) := by decide +kernel
theorem dX7_calm_32 : decode cX7_calm 32 = .ok (.ifCond .ne 5, 3) := by decide +kernel
theorem dX7_calm_35 : decode cX7_calm 35 = .ok (.iload_n 1, 1) := by decide +kernel
theorem dX7_calm_36 : decode cX7_calm 36 = .ok (.ireturn, 1) := by decide +kernel
theorem dX7_calm_37 : decode cX7_calm 37 = .ok (.iinc 1 1, 3) := by decide +kernel
theorem dX7_calm_40 : decode cX7_calm 40 = .ok (.goto (-30), 3) := by decide +kernel
theorem dX7_calm_43 : decode cX7_calm 43 = .ok (.bipush (-4), 2) := by decide +kernel
theorem dX7_calm_45 : decode cX7_calm 45 = .ok (.ireturn, 1) := by decide +kernel
theorem dX7_lowest_0 : decode cX7_lowest 0 = .ok (.lload_n 0, 1) := by decide +kernel
theorem dX7_lowest_1 : decode cX7_lowest 1 = .ok (.lstore 5, 2) := by decide +kernel
theorem dX7_lowest_3 : decode cX7_lowest 3 = .ok (.lload_n 2, 1) := by decide +kernel
theorem dX7_lowest_4 : decode cX7_lowest 4 = .ok (.lstore 7, 2) := by decide +kernel
theorem dX7_lowest_6 : decode cX7_lowest 6 = .ok (.lload 7, 2) := by decide +kernel
theorem dX7_lowest_8 : decode cX7_lowest 8 = .ok (.lconst 0, 1) := by decide +kernel
theorem dX7_lowest_9 : decode cX7_lowest 9 = .ok (.lcmp, 1) := by decide +kernel
theorem dX7_lowest_10 : decode cX7_lowest 10 = .ok (.ifCond .eq 21, 3) := by decide +kernel
theorem dX7_lowest_13 : decode cX7_lowest 13 = .ok (.lload 5, 2) := by decide +kernel
theorem dX7_lowest_15 : decode cX7_lowest 15 = .ok (.lload 7, 2) := by decide +kernel
theorem dX7_lowest_17 : decode cX7_lowest 17 = .ok (.lrem, 1) := by decide +kernel
theorem dX7_lowest_18 : decode cX7_lowest 18 = .ok (.lstore 9, 2) := by decide +kernel
theorem dX7_lowest_20 : decode cX7_lowest 20 = .ok (.lload 7, 2) := by decide +kernel
theorem dX7_lowest_22 : decode cX7_lowest 22 = .ok (.lstore 5, 2) := by decide +kernel
theorem dX7_lowest_24 : decode cX7_lowest 24 = .ok (.lload 9, 2) := by decide +kernel
theorem dX7_lowest_26 : decode cX7_lowest 26 = .ok (.lstore 7, 2) := by decide +kernel
theorem dX7_lowest_28 : decode cX7_lowest 28 = .ok (.goto (-22), 3) := by decide +kernel
theorem dX7_lowest_31 : decode cX7_lowest 31 = .ok (.iload 4, 2) := by decide +kernel
theorem dX7_lowest_33 : decode cX7_lowest 33 = .ok (.ifCond .ne 7, 3) := by decide +kernel
theorem dX7_lowest_36 : decode cX7_lowest 36 = .ok (.lload_n 0, 1) := by decide +kernel
theorem dX7_lowest_37 : decode cX7_lowest 37 = .ok (.goto 4, 3) := by decide +kernel
theorem dX7_lowest_40 : decode cX7_lowest 40 = .ok (.lload_n 2, 1) := by decide +kernel
theorem dX7_lowest_41 : decode cX7_lowest 41 = .ok (.lload 5, 2) := by decide +kernel
theorem dX7_lowest_43 : decode cX7_lowest 43 = .ok (.ldiv, 1) := by decide +kernel
theorem dX7_lowest_44 : decode cX7_lowest 44 = .ok (.lreturn, 1) := by decide +kernel
theorem dX7_byBeavers_0 : decode cX7_byBeavers 0 = .ok (.lconst 0, 1) := by decide +kernel
theorem dX7_byBeavers_1 : decode cX7_byBeavers 1 = .ok (.lstore 6, 2) := by decide +kernel
theorem dX7_byBeavers_3 : decode cX7_byBeavers 3 = .ok (.lconst 1, 1) := by decide +kernel
theorem dX7_byBeavers_4 : decode cX7_byBeavers 4 = .ok (.lstore 8, 2) := by decide +kernel
theorem dX7_byBeavers_6 : decode cX7_byBeavers 6 = .ok (.iconst 0, 1) := by decide +kernel
theorem dX7_byBeavers_7 : decode cX7_byBeavers 7 = .ok (.istore 10, 2) := by decide +kernel
theorem dX7_byBeavers_9 : decode cX7_byBeavers 9 = .ok (.iload 10, 2) := by decide +kernel
theorem dX7_byBeavers_11 : decode cX7_byBeavers 11 = .ok (.aload_n 0, 1) := by decide +kernel
theorem dX7_byBeavers_12 : decode cX7_byBeavers 12 = .ok (.getfield 7, 3) := by decide +kernel
theorem dX7_byBeavers_15 : decode cX7_byBeavers 15 = .ok (.bipush 42, 2) := by decide +kernel
theorem dX7_byBeavers_17 : decode cX7_byBeavers 17 = .ok (.iaload, 1) := by decide +kernel
theorem dX7_byBeavers_18 : decode cX7_byBeavers 18 = .ok (.if_icmp .ge 34, 3) := by decide +kernel
theorem dX7_byBeavers_21 : decode cX7_byBeavers 21 = .ok (.lload 8, 2) := by decide +kernel
theorem dX7_byBeavers_23 : decode cX7_byBeavers 23 = .ok (.aload_n 0, 1) := by decide +kernel
theorem dX7_byBeavers_24 : decode cX7_byBeavers 24 = .ok (.getfield 7, 3) := by decide +kernel
theorem dX7_byBeavers_27 : decode cX7_byBeavers 27 = .ok (.bipush 33, 2) := by decide +kernel
theorem dX7_byBeavers_29 : decode cX7_byBeavers 29 = .ok (.iload 10, 2) := by decide +kernel
theorem dX7_byBeavers_31 : decode cX7_byBeavers 31 = .ok (.iadd, 1) := by decide +kernel
theorem dX7_byBeavers_32 : decode cX7_byBeavers 32 = .ok (.iaload, 1) := by decide +kernel
theorem dX7_byBeavers_33 : decode cX7_byBeavers 33 = .ok (.ifCond .ne 9, 3) := by decide +kernel
theorem dX7_byBeavers_36 : decode cX7_byBeavers 36 = .ok (.ldc2_w 210, 3) := by decide +kernel
theorem dX7_byBeavers_39 : decode cX7_byBeavers 39 = .ok (.goto 4, 3) := by decide +kernel
theorem dX7_byBeavers_42 : decode cX7_byBeavers 42 = .ok (.lconst 1, 1) := by decide +kernel
theorem dX7_byBeavers_43 : decode cX7_byBeavers 43 = .ok (.lmul, 1) := by decide +kernel
theorem dX7_byBeavers_44 : decode cX7_byBeavers 44 = .ok (.lstore 8, 2) := by decide +kernel
theorem dX7_byBeavers_46 : decode cX7_byBeavers 46 = .ok (.iinc 10 1, 3) := by decide +kernel
theorem dX7_byBeavers_49 : decode cX7_byBeavers 49 = .ok (.goto (-40), 3) := by decide +kernel
theorem dX7_byBeavers_52 : decode cX7_byBeavers 52 = .ok (.iconst 0, 1) := by decide +kernel
theorem dX7_byBeavers_53 : decode cX7_byBeavers 53 = .ok (.istore 10, 2) := by decide +kernel
theorem dX7_byBeavers_55 : decode cX7_byBeavers 55 = .ok (.iload 10, 2) := by decide +kernel
theorem dX7_byBeavers_57 : decode cX7_byBeavers 57 = .ok (.iconst 1, 1) := by decide +kernel
theorem dX7_byBeavers_58 : decode cX7_byBeavers 58 = .ok (.aload_n 0, 1) := by decide +kernel
theorem dX7_byBeavers_59 : decode cX7_byBeavers 59 = .ok (.getfield 7, 3) := by decide +kernel
theorem dX7_byBeavers_62 : decode cX7_byBeavers 62 = .ok (.bipush 42, 2) := by decide +kernel
theorem dX7_byBeavers_64 : decode cX7_byBeavers 64 = .ok (.iaload, 1) := by decide +kernel
theorem dX7_byBeavers_65 : decode cX7_byBeavers 65 = .ok (.ishl, 1) := by decide +kernel
theorem dX7_byBeavers_66 : decode cX7_byBeavers 66 = .ok (.if_icmp .ge 127, 3) := by decide +kernel
theorem dX7_byBeavers_69 : decode cX7_byBeavers 69 = .ok (.aload_n 0, 1) := by decide +kernel
theorem dX7_byBeavers_70 : decode cX7_byBeavers 70 = .ok (.iload 10, 2) := by decide +kernel
theorem dX7_byBeavers_72 : decode cX7_byBeavers 72 = .ok (.invokevirtual 207, 3) := by decide +kernel
theorem dX7_byBeavers_75 : decode cX7_byBeavers 75 = .ok (.ifCond .eq 112, 3) := by decide +kernel
theorem dX7_byBeavers_78 : decode cX7_byBeavers 78 = .ok (.lconst 1, 1) := by decide +kernel
theorem dX7_byBeavers_79 : decode cX7_byBeavers 79 = .ok (.lstore 11, 2) := by decide +kernel
theorem dX7_byBeavers_81 : decode cX7_byBeavers 81 = .ok (.iconst 0, 1) := by decide +kernel
theorem dX7_byBeavers_82 : decode cX7_byBeavers 82 = .ok (.istore 13, 2) := by decide +kernel
theorem dX7_byBeavers_84 : decode cX7_byBeavers 84 = .ok (.iload 13, 2) := by decide +kernel
theorem dX7_byBeavers_86 : decode cX7_byBeavers 86 = .ok (.aload_n 0, 1) := by decide +kernel
theorem dX7_byBeavers_87 : decode cX7_byBeavers 87 = .ok (.getfield 7, 3) := by decide +kernel
theorem dX7_byBeavers_90 : decode cX7_byBeavers 90 = .ok (.bipush 42, 2) := by decide +kernel
theorem dX7_byBeavers_92 : decode cX7_byBeavers 92 = .ok (.iaload, 1) := by decide +kernel
theorem dX7_byBeavers_93 : decode cX7_byBeavers 93 = .ok (.if_icmp .ge 53, 3) := by decide +kernel
theorem dX7_byBeavers_96 : decode cX7_byBeavers 96 = .ok (.lload 11, 2) := by decide +kernel
theorem dX7_byBeavers_98 : decode cX7_byBeavers 98 = .ok (.aload_n 0, 1) := by decide +kernel
theorem dX7_byBeavers_99 : decode cX7_byBeavers 99 = .ok (.getfield 7, 3) := by decide +kernel
theorem dX7_byBeavers_102 : decode cX7_byBeavers 102 = .ok (.bipush 33, 2) := by decide +kernel
theorem dX7_byBeavers_104 : decode cX7_byBeavers 104 = .ok (.iload 13, 2) := by decide +kernel
theorem dX7_byBeavers_106 : decode cX7_byBeavers 106 = .ok (.iadd, 1) := by decide +kernel
theorem dX7_byBeavers_107 : decode cX7_byBeavers 107 = .ok (.iaload, 1) := by decide +kernel
theorem dX7_byBeavers_108 : decode cX7_byBeavers 108 = .ok (.iconst 1, 1) := by decide +kernel
theorem dX7_byBeavers_109 : decode cX7_byBeavers 109 = .ok (.if_icmp .ne 7, 3) := by decide +kernel
theorem dX7_byBeavers_112 : decode cX7_byBeavers 112 = .ok (.lconst 1, 1) := by decide +kernel
theorem dX7_byBeavers_113 : decode cX7_byBeavers 113 = .ok (.goto 24, 3) := by decide +kernel
theorem dX7_byBeavers_116 : decode cX7_byBeavers 116 = .ok (.iload 10, 2) := by decide +kernel
theorem dX7_byBeavers_118 : decode cX7_byBeavers 118 = .ok (.iload 13, 2) := by decide +kernel
theorem dX7_byBeavers_120 : decode cX7_byBeavers 120 = .ok (.ishr, 1) := by decide +kernel
theorem dX7_byBeavers_121 : decode cX7_byBeavers 121 = .ok (.iconst 1, 1) := by decide +kernel
theorem dX7_byBeavers_122 : decode cX7_byBeavers 122 = .ok (.iand, 1) := by decide +kernel
theorem dX7_byBeavers_123 : decode cX7_byBeavers 123 = .ok (.iconst 1, 1) := by decide +kernel
theorem dX7_byBeavers_124 : decode cX7_byBeavers 124 = .ok (.if_icmp .ne 8, 3) := by decide +kernel
theorem dX7_byBeavers_127 : decode cX7_byBeavers 127 = .ok (.iload_n 1, 1) := by decide +kernel
theorem dX7_byBeavers_128 : decode cX7_byBeavers 128 = .ok (.i2l, 1) := by decide +kernel
theorem dX7_byBeavers_129 : decode cX7_byBeavers 129 = .ok (.goto 8, 3) := by decide +kernel
theorem dX7_byBeavers_132 : decode cX7_byBeavers 132 = .ok (.bipush 10, 2) := by decide +kernel
theorem dX7_byBeavers_134 : decode cX7_byBeavers 134 = .ok (.iload_n 1, 1) := by decide +kernel
theorem dX7_byBeavers_135 : decode cX7_byBeavers 135 = .ok (.isub, 1) := by decide +kernel
theorem dX7_byBeavers_136 : decode cX7_byBeavers 136 = .ok (.i2l, 1) := by decide +kernel
theorem dX7_byBeavers_137 : decode cX7_byBeavers 137 = .ok (.lmul, 1) := by decide +kernel
theorem dX7_byBeavers_138 : decode cX7_byBeavers 138 = .ok (.lstore 11, 2) := by decide +kernel
theorem dX7_byBeavers_140 : decode cX7_byBeavers 140 = .ok (.iinc 13 1, 3) := by decide +kernel
theorem dX7_byBeavers_143 : decode cX7_byBeavers 143 = .ok (.goto (-59), 3) := by decide +kernel
theorem dX7_byBeavers_146 : decode cX7_byBeavers 146 = .ok (.aload_n 0, 1) := by decide +kernel
theorem dX7_byBeavers_147 : decode cX7_byBeavers 147 = .ok (.sipush 252, 3) := by decide +kernel
theorem dX7_byBeavers_150 : decode cX7_byBeavers 150 = .ok (.iload_n 2, 1) := by decide +kernel
theorem dX7_byBeavers_151 : decode cX7_byBeavers 151 = .ok (.iload 4, 2) := by decide +kernel
theorem dX7_byBeavers_153 : decode cX7_byBeavers 153 = .ok (.invokevirtual 155, 3) := by decide +kernel
theorem dX7_byBeavers_156 : decode cX7_byBeavers 156 = .ok (.istore 13, 2) := by decide +kernel
theorem dX7_byBeavers_158 : decode cX7_byBeavers 158 = .ok (.lload 6, 2) := by decide +kernel
theorem dX7_byBeavers_160 : decode cX7_byBeavers 160 = .ok (.lload 11, 2) := by decide +kernel
theorem dX7_byBeavers_162 : decode cX7_byBeavers 162 = .ok (.iload_n 3, 1) := by decide +kernel
theorem dX7_byBeavers_163 : decode cX7_byBeavers 163 = .ok (.bipush (-4), 2) := by decide +kernel
theorem dX7_byBeavers_165 : decode cX7_byBeavers 165 = .ok (.if_icmp .ne 11, 3) := by decide +kernel
theorem dX7_byBeavers_168 : decode cX7_byBeavers 168 = .ok (.iload 13, 2) := by decide +kernel
theorem dX7_byBeavers_170 : decode cX7_byBeavers 170 = .ok (.invokestatic 158, 3) := by decide +kernel
theorem dX7_byBeavers_173 : decode cX7_byBeavers 173 = .ok (.goto 9, 3) := by decide +kernel
theorem dX7_byBeavers_176 : decode cX7_byBeavers 176 = .ok (.iload 13, 2) := by decide +kernel
theorem dX7_byBeavers_178 : decode cX7_byBeavers 178 = .ok (.iload_n 3, 1) := by decide +kernel
theorem dX7_byBeavers_179 : decode cX7_byBeavers 179 = .ok (.ishr, 1) := by decide +kernel
theorem dX7_byBeavers_180 : decode cX7_byBeavers 180 = .ok (.iconst 1, 1) := by decide +kernel
theorem dX7_byBeavers_181 : decode cX7_byBeavers 181 = .ok (.iand, 1) := by decide +kernel
theorem dX7_byBeavers_182 : decode cX7_byBeavers 182 = .ok (.i2l, 1) := by decide +kernel
theorem dX7_byBeavers_183 : decode cX7_byBeavers 183 = .ok (.lmul, 1) := by decide +kernel
theorem dX7_byBeavers_184 : decode cX7_byBeavers 184 = .ok (.ladd, 1) := by decide +kernel
theorem dX7_byBeavers_185 : decode cX7_byBeavers 185 = .ok (.lstore 6, 2) := by decide +kernel
theorem dX7_byBeavers_187 : decode cX7_byBeavers 187 = .ok (.iinc 10 1, 3) := by decide +kernel
theorem dX7_byBeavers_190 : decode cX7_byBeavers 190 = .ok (.goto (-135), 3) := by decide +kernel
theorem dX7_byBeavers_193 : decode cX7_byBeavers 193 = .ok (.lload 6, 2) := by decide +kernel
theorem dX7_byBeavers_195 : decode cX7_byBeavers 195 = .ok (.lload 8, 2) := by decide +kernel
theorem dX7_byBeavers_197 : decode cX7_byBeavers 197 = .ok (.iload 5, 2) := by decide +kernel
theorem dX7_byBeavers_199 : decode cX7_byBeavers 199 = .ok (.invokestatic 212, 3) := by decide +kernel
theorem dX7_byBeavers_202 : decode cX7_byBeavers 202 = .ok (.lreturn, 1) := by decide +kernel
theorem dX7_luck_0 : decode cX7_luck 0 = .ok (.iload_n 1, 1) := by decide +kernel
theorem dX7_luck_1 : decode cX7_luck 1 = .ok (.i2l, 1) := by decide +kernel
theorem dX7_luck_2 : decode cX7_luck 2 = .ok (.lconst 0, 1) := by decide +kernel
theorem dX7_luck_3 : decode cX7_luck 3 = .ok (.ldc2_w 210, 3) := by decide +kernel
theorem dX7_luck_6 : decode cX7_luck 6 = .ok (.invokestatic 52, 3) := by decide +kernel
theorem dX7_luck_9 : decode cX7_luck 9 = .ok (.ifCond .eq 52, 3) := by decide +kernel
theorem dX7_luck_12 : decode cX7_luck 12 = .ok (.aload_n 0, 1) := by decide +kernel
theorem dX7_luck_13 : decode cX7_luck 13 = .ok (.iload_n 2, 1) := by decide +kernel
theorem dX7_luck_14 : decode cX7_luck 14 = .ok (.invokevirtual 167, 3) := by decide +kernel
theorem dX7_luck_17 : decode cX7_luck 17 = .ok (.ifCond .eq 44, 3) := by decide +kernel
theorem dX7_luck_20 : decode cX7_luck 20 = .ok (.aload_n 0, 1) := by decide +kernel
theorem dX7_luck_21 : decode cX7_luck 21 = .ok (.iload_n 3, 1) := by decide +kernel
theorem dX7_luck_22 : decode cX7_luck 22 = .ok (.invokevirtual 167, 3) := by decide +kernel
theorem dX7_luck_25 : decode cX7_luck 25 = .ok (.ifCond .eq 36, 3) := by decide +kernel
theorem dX7_luck_28 : decode cX7_luck 28 = .ok (.iload 4, 2) := by decide +kernel
theorem dX7_luck_30 : decode cX7_luck 30 = .ok (.invokestatic 178, 3) := by decide +kernel
theorem dX7_luck_33 : decode cX7_luck 33 = .ok (.ifCond .eq 28, 3) := by decide +kernel
theorem dX7_luck_36 : decode cX7_luck 36 = .ok (.iload 5, 2) := by decide +kernel
theorem dX7_luck_38 : decode cX7_luck 38 = .ok (.i2l, 1) := by decide +kernel
theorem dX7_luck_39 : decode cX7_luck 39 = .ok (.lconst 0, 1) := by decide +kernel
theorem dX7_luck_40 : decode cX7_luck 40 = .ok (.lconst 1, 1) := by decide +kernel
theorem dX7_luck_41 : decode cX7_luck 41 = .ok (.invokestatic 52, 3) := by decide +kernel
theorem dX7_luck_44 : decode cX7_luck 44 = .ok (.ifCond .eq 17, 3) := by decide +kernel
theorem dX7_luck_47 : decode cX7_luck 47 = .ok (.aload_n 0, 1) := by decide +kernel
theorem dX7_luck_48 : decode cX7_luck 48 = .ok (.iload_n 1, 1) := by decide +kernel
theorem dX7_luck_49 : decode cX7_luck 49 = .ok (.iload_n 2, 1) := by decide +kernel
theorem dX7_luck_50 : decode cX7_luck 50 = .ok (.iload_n 3, 1) := by decide +kernel
theorem dX7_luck_51 : decode cX7_luck 51 = .ok (.iload 4, 2) := by decide +kernel
theorem dX7_luck_53 : decode cX7_luck 53 = .ok (.iload 5, 2) := by decide +kernel
theorem dX7_luck_55 : decode cX7_luck 55 = .ok (.invokevirtual 216, 3) := by decide +kernel
theorem dX7_luck_58 : decode cX7_luck 58 = .ok (.goto 6, 3) := by decide +kernel
theorem dX7_luck_61 : decode cX7_luck 61 = .ok (.ldc2_w 220, 3) := by decide +kernel
theorem dX7_luck_64 : decode cX7_luck 64 = .ok (.lreturn, 1) := by decide +kernel
theorem dX7_mean_0 : decode cX7_mean 0 = .ok (.iload_n 1, 1) := by decide +kernel
theorem dX7_mean_1 : decode cX7_mean 1 = .ok (.i2l, 1) := by decide +kernel
theorem dX7_mean_2 : decode cX7_mean 2 = .ok (.lconst 0, 1) := by decide +kernel
theorem dX7_mean_3 : decode cX7_mean 3 = .ok (.ldc2_w 210, 3) := by decide +kernel
theorem dX7_mean_6 : decode cX7_mean 6 = .ok (.invokestatic 52, 3) := by decide +kernel
theorem dX7_mean_9 : decode cX7_mean 9 = .ok (.ifCond .eq 43, 3) := by decide +kernel
theorem dX7_mean_12 : decode cX7_mean 12 = .ok (.aload_n 0, 1) := by decide +kernel
theorem dX7_mean_13 : decode cX7_mean 13 = .ok (.iload_n 2, 1) := by decide +kernel
theorem dX7_mean_14 : decode cX7_mean 14 = .ok (.invokevirtual 167, 3) := by decide +kernel
theorem dX7_mean_17 : decode cX7_mean 17 = .ok (.ifCond .eq 35, 3) := by decide +kernel
theorem dX7_mean_20 : decode cX7_mean 20 = .ok (.iload_n 3, 1) := by decide +kernel
theorem dX7_mean_21 : decode cX7_mean 21 = .ok (.invokestatic 178, 3) := by decide +kernel
theorem dX7_mean_24 : decode cX7_mean 24 = .ok (.ifCond .eq 28, 3) := by decide +kernel
theorem dX7_mean_27 : decode cX7_mean 27 = .ok (.iload 4, 2) := by decide +kernel
theorem dX7_mean_29 : decode cX7_mean 29 = .ok (.i2l, 1) := by decide +kernel
theorem dX7_mean_30 : decode cX7_mean 30 = .ok (.lconst 0, 1) := by decide +kernel
theorem dX7_mean_31 : decode cX7_mean 31 = .ok (.lconst 1, 1) := by decide +kernel
theorem dX7_mean_32 : decode cX7_mean 32 = .ok (.invokestatic 52, 3) := by decide +kernel
theorem dX7_mean_35 : decode cX7_mean 35 = .ok (.ifCond .eq 17, 3) := by decide +kernel
theorem dX7_mean_38 : decode cX7_mean 38 = .ok (.aload_n 0, 1) := by decide +kernel
theorem dX7_mean_39 : decode cX7_mean 39 = .ok (.iload_n 1, 1) := by decide +kernel
theorem dX7_mean_40 : decode cX7_mean 40 = .ok (.iload_n 2, 1) := by decide +kernel
theorem dX7_mean_41 : decode cX7_mean 41 = .ok (.bipush (-4), 2) := by decide +kernel
theorem dX7_mean_43 : decode cX7_mean 43 = .ok (.iload_n 3, 1) := by decide +kernel
theorem dX7_mean_44 : decode cX7_mean 44 = .ok (.iload 4, 2) := by decide +kernel
theorem dX7_mean_46 : decode cX7_mean 46 = .ok (.invokevirtual 216, 3) := by decide +kernel
theorem dX7_mean_49 : decode cX7_mean 49 = .ok (.goto 6, 3) := by decide +kernel
theorem dX7_mean_52 : decode cX7_mean 52 = .ok (.ldc2_w 220, 3) := by decide +kernel
theorem dX7_mean_55 : decode cX7_mean 55 = .ok (.lreturn, 1) := by decide +kernel
theorem dX7_see_0 : decode cX7_see 0 = .ok (.aload_n 0, 1) := by decide +kernel
theorem dX7_see_1 : decode cX7_see 1 = .ok (.iload_n 1, 1) := by decide +kernel
theorem dX7_see_2 : decode cX7_see 2 = .ok (.invokevirtual 167, 3) := by decide +kernel
theorem dX7_see_5 : decode cX7_see 5 = .ok (.ifCond .eq 15, 3) := by decide +kernel
theorem dX7_see_8 : decode cX7_see 8 = .ok (.iload_n 2, 1) := by decide +kernel
theorem dX7_see_9 : decode cX7_see 9 = .ok (.i2l, 1) := by decide +kernel
theorem dX7_see_10 : decode cX7_see 10 = .ok (.lconst 0, 1) := by decide +kernel
theorem dX7_see_11 : decode cX7_see 11 = .ok (.ldc2_w 222, 3) := by decide +kernel
theorem dX7_see_14 : decode cX7_see 14 = .ok (.invokestatic 52, 3) := by decide +kernel
theorem dX7_see_17 : decode cX7_see 17 = .ok (.ifCond .ne 5, 3) := by decide +kernel
theorem dX7_see_20 : decode cX7_see 20 = .ok (.iconst (-1), 1) := by decide +kernel
theorem dX7_see_21 : decode cX7_see 21 = .ok (.ireturn, 1) := by decide +kernel
theorem dX7_see_22 : decode cX7_see 22 = .ok (.aload_n 0, 1) := by decide +kernel
theorem dX7_see_23 : decode cX7_see 23 = .ok (.getfield 139, 3) := by decide +kernel
theorem dX7_see_26 : decode cX7_see 26 = .ok (.bipush 6, 2) := by decide +kernel
theorem dX7_see_28 : decode cX7_see 28 = .ok (.if_icmp .ne 6, 3) := by decide +kernel
theorem dX7_see_31 : decode cX7_see 31 = .ok (.bipush (-3), 2) := by decide +kernel
theorem dX7_see_33 : decode cX7_see 33 = .ok (.ireturn, 1) := by decide +kernel
theorem dX7_see_34 : decode cX7_see 34 = .ok (.aload_n 0, 1) := by decide +kernel
theorem dX7_see_35 : decode cX7_see 35 = .ok (.getfield 31, 3) := by decide +kernel
theorem dX7_see_38 : decode cX7_see 38 = .ok (.iconst 2, 1) := by decide +kernel
theorem dX7_see_39 : decode cX7_see 39 = .ok (.aload_n 0, 1) := by decide +kernel
theorem dX7_see_40 : decode cX7_see 40 = .ok (.getfield 139, 3) := by decide +kernel
theorem dX7_see_43 : decode cX7_see 43 = .ok (.imul, 1) := by decide +kernel
theorem dX7_see_44 : decode cX7_see 44 = .ok (.iload_n 1, 1) := by decide +kernel
theorem dX7_see_45 : decode cX7_see 45 = .ok (.iastore, 1) := by decide +kernel
theorem dX7_see_46 : decode cX7_see 46 = .ok (.aload_n 0, 1) := by decide +kernel
theorem dX7_see_47 : decode cX7_see 47 = .ok (.getfield 31, 3) := by decide +kernel
theorem dX7_see_50 : decode cX7_see 50 = .ok (.iconst 2, 1) := by decide +kernel
theorem dX7_see_51 : decode cX7_see 51 = .ok (.aload_n 0, 1) := by decide +kernel
theorem dX7_see_52 : decode cX7_see 52 = .ok (.getfield 139, 3) := by decide +kernel
theorem dX7_see_55 : decode cX7_see 55 = .ok (.imul, 1) := by decide +kernel
theorem dX7_see_56 : decode cX7_see 56 = .ok (.iconst 1, 1) := by decide +kernel
theorem dX7_see_57 : decode cX7_see 57 = .ok (.iadd, 1) := by decide +kernel
theorem dX7_see_58 : decode cX7_see 58 = .ok (.iload_n 2, 1) := by decide +kernel
theorem dX7_see_59 : decode cX7_see 59 = .ok (.iastore, 1) := by decide +kernel
theorem dX7_see_60 : decode cX7_see 60 = .ok (.aload_n 0, 1) := by decide +kernel
theorem dX7_see_61 : decode cX7_see 61 = .ok (.dup, 1) := by decide +kernel
theorem dX7_see_62 : decode cX7_see 62 = .ok (.getfield 139, 3) := by decide +kernel
theorem dX7_see_65 : decode cX7_see 65 = .ok (.iconst 1, 1) := by decide +kernel
theorem dX7_see_66 : decode cX7_see 66 = .ok (.iadd, 1) := by decide +kernel
theorem dX7_see_67 : decode cX7_see 67 = .ok (.putfield 139, 3) := by decide +kernel
theorem dX7_see_70 : decode cX7_see 70 = .ok (.aload_n 0, 1) := by decide +kernel
theorem dX7_see_71 : decode cX7_see 71 = .ok (.getfield 139, 3) := by decide +kernel
theorem dX7_see_74 : decode cX7_see 74 = .ok (.ireturn, 1) := by decide +kernel
theorem dX7_forget_0 : decode cX7_forget 0 = .ok (.iload_n 1, 1) := by decide +kernel
theorem dX7_forget_1 : decode cX7_forget 1 = .ok (.i2l, 1) := by decide +kernel
theorem dX7_forget_2 : decode cX7_forget 2 = .ok (.lconst 0, 1) := by decide +kernel
theorem dX7_forget_3 : decode cX7_forget 3 = .ok (.aload_n 0, 1) := by decide +kernel
theorem dX7_forget_4 : decode cX7_forget 4 = .ok (.getfield 139, 3) := by decide +kernel
theorem dX7_forget_7 : decode cX7_forget 7 = .ok (.i2l, 1) := by decide +kernel
theorem dX7_forget_8 : decode cX7_forget 8 = .ok (.invokestatic 52, 3) := by decide +kernel
theorem dX7_forget_11 : decode cX7_forget 11 = .ok (.ifCond .ne 5, 3) := by decide +kernel
theorem dX7_forget_14 : decode cX7_forget 14 = .ok (.iconst (-1), 1) := by decide +kernel
theorem dX7_forget_15 : decode cX7_forget 15 = .ok (.ireturn, 1) := by decide +kernel
theorem dX7_forget_16 : decode cX7_forget 16 = .ok (.aload_n 0, 1) := by decide +kernel
theorem dX7_forget_17 : decode cX7_forget 17 = .ok (.getfield 139, 3) := by decide +kernel
theorem dX7_forget_20 : decode cX7_forget 20 = .ok (.istore_n 2, 1) := by decide +kernel
theorem dX7_forget_21 : decode cX7_forget 21 = .ok (.aload_n 0, 1) := by decide +kernel
theorem dX7_forget_22 : decode cX7_forget 22 = .ok (.iload_n 1, 1) := by decide +kernel
theorem dX7_forget_23 : decode cX7_forget 23 = .ok (.putfield 139, 3) := by decide +kernel
theorem dX7_forget_26 : decode cX7_forget 26 = .ok (.iload_n 2, 1) := by decide +kernel
theorem dX7_forget_27 : decode cX7_forget 27 = .ok (.ireturn, 1) := by decide +kernel
theorem dX7_isAsSeen_0 : decode cX7_isAsSeen 0 = .ok (.iconst 1, 1) := by decide +kernel
theorem dX7_isAsSeen_1 : decode cX7_isAsSeen 1 = .ok (.istore_n 3, 1) := by decide +kernel
theorem dX7_isAsSeen_2 : decode cX7_isAsSeen 2 = .ok (.iconst 0, 1) := by decide +kernel
theorem dX7_isAsSeen_3 : decode cX7_isAsSeen 3 = .ok (.istore 4, 2) := by decide +kernel
theorem dX7_isAsSeen_5 : decode cX7_isAsSeen 5 = .ok (.iload 4, 2) := by decide +kernel
theorem dX7_isAsSeen_7 : decode cX7_isAsSeen 7 = .ok (.aload_n 0, 1) := by decide +kernel
theorem dX7_isAsSeen_8 : decode cX7_isAsSeen 8 = .ok (.getfield 139, 3) := by decide +kernel
theorem dX7_isAsSeen_11 : decode cX7_isAsSeen 11 = .ok (.if_icmp .ge 64, 3) := by decide +kernel
theorem dX7_isAsSeen_14 : decode cX7_isAsSeen 14 = .ok (.iload_n 3, 1) := by decide +kernel
theorem dX7_isAsSeen_15 : decode cX7_isAsSeen 15 = .ok (.ifCond .eq 52, 3) := by decide +kernel
theorem dX7_isAsSeen_18 : decode cX7_isAsSeen 18 = .ok (.aload_n 0, 1) := by decide +kernel
theorem dX7_isAsSeen_19 : decode cX7_isAsSeen 19 = .ok (.aload_n 0, 1) := by decide +kernel
theorem dX7_isAsSeen_20 : decode cX7_isAsSeen 20 = .ok (.getfield 31, 3) := by decide +kernel
theorem dX7_isAsSeen_23 : decode cX7_isAsSeen 23 = .ok (.iconst 2, 1) := by decide +kernel
theorem dX7_isAsSeen_24 : decode cX7_isAsSeen 24 = .ok (.iload 4, 2) := by decide +kernel
theorem dX7_isAsSeen_26 : decode cX7_isAsSeen 26 = .ok (.imul, 1) := by decide +kernel
theorem dX7_isAsSeen_27 : decode cX7_isAsSeen 27 = .ok (.iaload, 1) := by decide +kernel
theorem dX7_isAsSeen_28 : decode cX7_isAsSeen 28 = .ok (.invokevirtual 167, 3) := by decide +kernel
theorem dX7_isAsSeen_31 : decode cX7_isAsSeen 31 = .ok (.ifCond .eq 36, 3) := by decide +kernel
theorem dX7_isAsSeen_34 : decode cX7_isAsSeen 34 = .ok (.aload_n 0, 1) := by decide +kernel
theorem dX7_isAsSeen_35 : decode cX7_isAsSeen 35 = .ok (.iload_n 1, 1) := by decide +kernel
theorem dX7_isAsSeen_36 : decode cX7_isAsSeen 36 = .ok (.aload_n 0, 1) := by decide +kernel
theorem dX7_isAsSeen_37 : decode cX7_isAsSeen 37 = .ok (.getfield 31, 3) := by decide +kernel
theorem dX7_isAsSeen_40 : decode cX7_isAsSeen 40 = .ok (.iconst 2, 1) := by decide +kernel
theorem dX7_isAsSeen_41 : decode cX7_isAsSeen 41 = .ok (.iload 4, 2) := by decide +kernel
theorem dX7_isAsSeen_43 : decode cX7_isAsSeen 43 = .ok (.imul, 1) := by decide +kernel
theorem dX7_isAsSeen_44 : decode cX7_isAsSeen 44 = .ok (.iaload, 1) := by decide +kernel
theorem dX7_isAsSeen_45 : decode cX7_isAsSeen 45 = .ok (.iload_n 2, 1) := by decide +kernel
theorem dX7_isAsSeen_46 : decode cX7_isAsSeen 46 = .ok (.invokevirtual 144, 3) := by decide +kernel
theorem dX7_isAsSeen_49 : decode cX7_isAsSeen 49 = .ok (.aload_n 0, 1) := by decide +kernel
theorem dX7_isAsSeen_50 : decode cX7_isAsSeen 50 = .ok (.getfield 31, 3) := by decide +kernel
theorem dX7_isAsSeen_53 : decode cX7_isAsSeen 53 = .ok (.iconst 2, 1) := by decide +kernel
theorem dX7_isAsSeen_54 : decode cX7_isAsSeen 54 = .ok (.iload 4, 2) := by decide +kernel
theorem dX7_isAsSeen_56 : decode cX7_isAsSeen 56 = .ok (.imul, 1) := by decide +kernel
theorem dX7_isAsSeen_57 : decode cX7_isAsSeen 57 = .ok (.iconst 1, 1) := by decide +kernel
theorem dX7_isAsSeen_58 : decode cX7_isAsSeen 58 = .ok (.iadd, 1) := by decide +kernel
theorem dX7_isAsSeen_59 : decode cX7_isAsSeen 59 = .ok (.iaload, 1) := by decide +kernel
theorem dX7_isAsSeen_60 : decode cX7_isAsSeen 60 = .ok (.if_icmp .ne 7, 3) := by decide +kernel
theorem dX7_isAsSeen_63 : decode cX7_isAsSeen 63 = .ok (.iconst 1, 1) := by decide +kernel
theorem dX7_isAsSeen_64 : decode cX7_isAsSeen 64 = .ok (.goto 4, 3) := by decide +kernel
theorem dX7_isAsSeen_67 : decode cX7_isAsSeen 67 = .ok (.iconst 0, 1) := by decide +kernel
theorem dX7_isAsSeen_68 : decode cX7_isAsSeen 68 = .ok (.istore_n 3, 1) := by decide +kernel
theorem dX7_isAsSeen_69 : decode cX7_isAsSeen 69 = .ok (.iinc 4 1, 3) := by decide +kernel
theorem dX7_isAsSeen_72 : decode cX7_isAsSeen 72 = .ok (.goto (-67), 3) := by decide +kernel
theorem dX7_isAsSeen_75 : decode cX7_isAsSeen 75 = .ok (.iload_n 3, 1) := by decide +kernel
theorem dX7_isAsSeen_76 : decode cX7_isAsSeen 76 = .ok (.ireturn, 1) := by decide +kernel
theorem dX7_breathsOn_0 : decode cX7_breathsOn 0 = .ok (.iconst 0, 1) := by decide +kernel
theorem dX7_breathsOn_1 : decode cX7_breathsOn 1 = .ok (.istore_n 3, 1) := by decide +kernel
theorem dX7_breathsOn_2 : decode cX7_breathsOn 2 = .ok (.aload_n 0, 1) := by decide +kernel
theorem dX7_breathsOn_3 : decode cX7_breathsOn 3 = .ok (.iload_n 1, 1) := by decide +kernel
theorem dX7_breathsOn_4 : decode cX7_breathsOn 4 = .ok (.iload_n 2, 1) := by decide +kernel
theorem dX7_breathsOn_5 : decode cX7_breathsOn 5 = .ok (.invokevirtual 148, 3) := by decide +kernel
theorem dX7_breathsOn_8 : decode cX7_breathsOn 8 = .ok (.iconst 1, 1) := by decide +kernel
theorem dX7_breathsOn_9 : decode cX7_breathsOn 9 = .ok (.istore 4, 2) := by decide +kernel
theorem dX7_breathsOn_11 : decode cX7_breathsOn 11 = .ok (.iload 4, 2) := by decide +kernel
theorem dX7_breathsOn_13 : decode cX7_breathsOn 13 = .ok (.bipush 60, 2) := by decide +kernel
theorem dX7_breathsOn_15 : decode cX7_breathsOn 15 = .ok (.if_icmp .gt 27, 3) := by decide +kernel
theorem dX7_breathsOn_18 : decode cX7_breathsOn 18 = .ok (.iload_n 3, 1) := by decide +kernel
theorem dX7_breathsOn_19 : decode cX7_breathsOn 19 = .ok (.aload_n 0, 1) := by decide +kernel
theorem dX7_breathsOn_20 : decode cX7_breathsOn 20 = .ok (.iload_n 1, 1) := by decide +kernel
theorem dX7_breathsOn_21 : decode cX7_breathsOn 21 = .ok (.iload 4, 2) := by decide +kernel
theorem dX7_breathsOn_23 : decode cX7_breathsOn 23 = .ok (.invokevirtual 224, 3) := by decide +kernel
theorem dX7_breathsOn_26 : decode cX7_breathsOn 26 = .ok (.ifCond .eq 7, 3) := by decide +kernel
theorem dX7_breathsOn_29 : decode cX7_breathsOn 29 = .ok (.iconst 1, 1) := by decide +kernel
theorem dX7_breathsOn_30 : decode cX7_breathsOn 30 = .ok (.goto 4, 3) := by decide +kernel
theorem dX7_breathsOn_33 : decode cX7_breathsOn 33 = .ok (.iconst 0, 1) := by decide +kernel
theorem dX7_breathsOn_34 : decode cX7_breathsOn 34 = .ok (.iadd, 1) := by decide +kernel
theorem dX7_breathsOn_35 : decode cX7_breathsOn 35 = .ok (.istore_n 3, 1) := by decide +kernel
theorem dX7_breathsOn_36 : decode cX7_breathsOn 36 = .ok (.iinc 4 1, 3) := by decide +kernel
theorem dX7_breathsOn_39 : decode cX7_breathsOn 39 = .ok (.goto (-28), 3) := by decide +kernel
theorem dX7_breathsOn_42 : decode cX7_breathsOn 42 = .ok (.iload_n 3, 1) := by decide +kernel
theorem dX7_breathsOn_43 : decode cX7_breathsOn 43 = .ok (.ireturn, 1) := by decide +kernel
theorem dX7_sayersOn_0 : decode cX7_sayersOn 0 = .ok (.iconst 0, 1) := by decide +kernel
theorem dX7_sayersOn_1 : decode cX7_sayersOn 1 = .ok (.istore_n 2, 1) := by decide +kernel
theorem dX7_sayersOn_2 : decode cX7_sayersOn 2 = .ok (.iconst 0, 1) := by decide +kernel
theorem dX7_sayersOn_3 : decode cX7_sayersOn 3 = .ok (.istore_n 3, 1) := by decide +kernel
theorem dX7_sayersOn_4 : decode cX7_sayersOn 4 = .ok (.iload_n 3, 1) := by decide +kernel
theorem dX7_sayersOn_5 : decode cX7_sayersOn 5 = .ok (.aload_n 0, 1) := by decide +kernel
theorem dX7_sayersOn_6 : decode cX7_sayersOn 6 = .ok (.getfield 136, 3) := by decide +kernel
theorem dX7_sayersOn_9 : decode cX7_sayersOn 9 = .ok (.if_icmp .ge 28, 3) := by decide +kernel
theorem dX7_sayersOn_12 : decode cX7_sayersOn 12 = .ok (.iload_n 2, 1) := by decide +kernel
theorem dX7_sayersOn_13 : decode cX7_sayersOn 13 = .ok (.aload_n 0, 1) := by decide +kernel
theorem dX7_sayersOn_14 : decode cX7_sayersOn 14 = .ok (.iload_n 1, 1) := by decide +kernel
theorem dX7_sayersOn_15 : decode cX7_sayersOn 15 = .ok (.iload_n 3, 1) := by decide +kernel
theorem dX7_sayersOn_16 : decode cX7_sayersOn 16 = .ok (.invokevirtual 228, 3) := by decide +kernel
theorem dX7_sayersOn_19 : decode cX7_sayersOn 19 = .ok (.ifCond .le 9, 3) := by decide +kernel
theorem dX7_sayersOn_22 : decode cX7_sayersOn 22 = .ok (.iconst 1, 1) := by decide +kernel
theorem dX7_sayersOn_23 : decode cX7_sayersOn 23 = .ok (.iload_n 3, 1) := by decide +kernel
theorem dX7_sayersOn_24 : decode cX7_sayersOn 24 = .ok (.ishl, 1) := by decide +kernel
theorem dX7_sayersOn_25 : decode cX7_sayersOn 25 = .ok (.goto 4, 3) := by decide +kernel
theorem dX7_sayersOn_28 : decode cX7_sayersOn 28 = .ok (.iconst 0, 1) := by decide +kernel
theorem dX7_sayersOn_29 : decode cX7_sayersOn 29 = .ok (.ior, 1) := by decide +kernel
theorem dX7_sayersOn_30 : decode cX7_sayersOn 30 = .ok (.istore_n 2, 1) := by decide +kernel
theorem dX7_sayersOn_31 : decode cX7_sayersOn 31 = .ok (.iinc 3 1, 3) := by decide +kernel
theorem dX7_sayersOn_34 : decode cX7_sayersOn 34 = .ok (.goto (-30), 3) := by decide +kernel
theorem dX7_sayersOn_37 : decode cX7_sayersOn 37 = .ok (.iload_n 2, 1) := by decide +kernel
theorem dX7_sayersOn_38 : decode cX7_sayersOn 38 = .ok (.ireturn, 1) := by decide +kernel
theorem dX7_sayers_0 : decode cX7_sayers 0 = .ok (.aload_n 0, 1) := by decide +kernel
theorem dX7_sayers_1 : decode cX7_sayers 1 = .ok (.iconst 0, 1) := by decide +kernel
theorem dX7_sayers_2 : decode cX7_sayers 2 = .ok (.invokevirtual 231, 3) := by decide +kernel
theorem dX7_sayers_5 : decode cX7_sayers 5 = .ok (.ireturn, 1) := by decide +kernel
theorem dX7_breaths_0 : decode cX7_breaths 0 = .ok (.aload_n 0, 1) := by decide +kernel
theorem dX7_breaths_1 : decode cX7_breaths 1 = .ok (.iload_n 1, 1) := by decide +kernel
theorem dX7_breaths_2 : decode cX7_breaths 2 = .ok (.invokevirtual 167, 3) := by decide +kernel
theorem dX7_breaths_5 : decode cX7_breaths 5 = .ok (.ifCond .eq 13, 3) := by decide +kernel
theorem dX7_breaths_8 : decode cX7_breaths 8 = .ok (.iload_n 2, 1) := by decide +kernel
theorem dX7_breaths_9 : decode cX7_breaths 9 = .ok (.i2l, 1) := by decide +kernel
theorem dX7_breaths_10 : decode cX7_breaths 10 = .ok (.lconst 0, 1) := by decide +kernel
theorem dX7_breaths_11 : decode cX7_breaths 11 = .ok (.lconst 1, 1) := by decide +kernel
theorem dX7_breaths_12 : decode cX7_breaths 12 = .ok (.invokestatic 52, 3) := by decide +kernel
theorem dX7_breaths_15 : decode cX7_breaths 15 = .ok (.ifCond .ne 5, 3) := by decide +kernel
theorem dX7_breaths_18 : decode cX7_breaths 18 = .ok (.iconst (-1), 1) := by decide +kernel
theorem dX7_breaths_19 : decode cX7_breaths 19 = .ok (.ireturn, 1) := by decide +kernel
theorem dX7_breaths_20 : decode cX7_breaths 20 = .ok (.iload_n 2, 1) := by decide +kernel
theorem dX7_breaths_21 : decode cX7_breaths 21 = .ok (.ifCond .ne 10, 3) := by decide +kernel
theorem dX7_breaths_24 : decode cX7_breaths 24 = .ok (.aload_n 0, 1) := by decide +kernel
theorem dX7_breaths_25 : decode cX7_breaths 25 = .ok (.iconst 0, 1) := by decide +kernel
theorem dX7_breaths_26 : decode cX7_breaths 26 = .ok (.iload_n 1, 1) := by decide +kernel
theorem dX7_breaths_27 : decode cX7_breaths 27 = .ok (.invokevirtual 228, 3) := by decide +kernel
theorem dX7_breaths_30 : decode cX7_breaths 30 = .ok (.ireturn, 1) := by decide +kernel
theorem dX7_breaths_31 : decode cX7_breaths 31 = .ok (.aload_n 0, 1) := by decide +kernel
theorem dX7_breaths_32 : decode cX7_breaths 32 = .ok (.iconst 0, 1) := by decide +kernel
theorem dX7_breaths_33 : decode cX7_breaths 33 = .ok (.iload_n 1, 1) := by decide +kernel
theorem dX7_breaths_34 : decode cX7_breaths 34 = .ok (.invokevirtual 148, 3) := by decide +kernel
theorem dX7_breaths_37 : decode cX7_breaths 37 = .ok (.iconst 1, 1) := by decide +kernel
theorem dX7_breaths_38 : decode cX7_breaths 38 = .ok (.istore_n 3, 1) := by decide +kernel
theorem dX7_breaths_39 : decode cX7_breaths 39 = .ok (.iload_n 3, 1) := by decide +kernel
theorem dX7_breaths_40 : decode cX7_breaths 40 = .ok (.bipush 60, 2) := by decide +kernel
theorem dX7_breaths_42 : decode cX7_breaths 42 = .ok (.if_icmp .gt 20, 3) := by decide +kernel
theorem dX7_breaths_45 : decode cX7_breaths 45 = .ok (.aload_n 0, 1) := by decide +kernel
theorem dX7_breaths_46 : decode cX7_breaths 46 = .ok (.iconst 0, 1) := by decide +kernel
theorem dX7_breaths_47 : decode cX7_breaths 47 = .ok (.iload_n 3, 1) := by decide +kernel
theorem dX7_breaths_48 : decode cX7_breaths 48 = .ok (.invokevirtual 224, 3) := by decide +kernel
theorem dX7_breaths_51 : decode cX7_breaths 51 = .ok (.ifCond .eq 5, 3) := by decide +kernel
theorem dX7_breaths_54 : decode cX7_breaths 54 = .ok (.iload_n 3, 1) := by decide +kernel
theorem dX7_breaths_55 : decode cX7_breaths 55 = .ok (.ireturn, 1) := by decide +kernel
theorem dX7_breaths_56 : decode cX7_breaths 56 = .ok (.iinc 3 1, 3) := by decide +kernel
theorem dX7_breaths_59 : decode cX7_breaths 59 = .ok (.goto (-20), 3) := by decide +kernel
theorem dX7_breaths_62 : decode cX7_breaths 62 = .ok (.bipush (-4), 2) := by decide +kernel
theorem dX7_breaths_64 : decode cX7_breaths 64 = .ok (.ireturn, 1) := by decide +kernel
theorem dX7_kinds_0 : decode cX7_kinds 0 = .ok (.aload_n 0, 1) := by decide +kernel
theorem dX7_kinds_1 : decode cX7_kinds 1 = .ok (.iload_n 1, 1) := by decide +kernel
theorem dX7_kinds_2 : decode cX7_kinds 2 = .ok (.invokevirtual 167, 3) := by decide +kernel
theorem dX7_kinds_5 : decode cX7_kinds 5 = .ok (.ifCond .ne 5, 3) := by decide +kernel
theorem dX7_kinds_8 : decode cX7_kinds 8 = .ok (.iconst (-1), 1) := by decide +kernel
theorem dX7_kinds_9 : decode cX7_kinds 9 = .ok (.ireturn, 1) := by decide +kernel
theorem dX7_kinds_10 : decode cX7_kinds 10 = .ok (.iconst 0, 1) := by decide +kernel
theorem dX7_kinds_11 : decode cX7_kinds 11 = .ok (.istore_n 2, 1) := by decide +kernel
theorem dX7_kinds_12 : decode cX7_kinds 12 = .ok (.aload_n 0, 1) := by decide +kernel
theorem dX7_kinds_13 : decode cX7_kinds 13 = .ok (.iconst 0, 1) := by decide +kernel
theorem dX7_kinds_14 : decode cX7_kinds 14 = .ok (.sipush 252, 3) := by decide +kernel
theorem dX7_kinds_17 : decode cX7_kinds 17 = .ok (.invokevirtual 204, 3) := by decide +kernel
theorem dX7_kinds_20 : decode cX7_kinds 20 = .ok (.iconst 0, 1) := by decide +kernel
theorem dX7_kinds_21 : decode cX7_kinds 21 = .ok (.istore_n 3, 1) := by decide +kernel
theorem dX7_kinds_22 : decode cX7_kinds 22 = .ok (.iload_n 3, 1) := by decide +kernel
theorem dX7_kinds_23 : decode cX7_kinds 23 = .ok (.iconst 4, 1) := by decide +kernel
theorem dX7_kinds_24 : decode cX7_kinds 24 = .ok (.if_icmp .ge 40, 3) := by decide +kernel
theorem dX7_kinds_27 : decode cX7_kinds 27 = .ok (.aload_n 0, 1) := by decide +kernel
theorem dX7_kinds_28 : decode cX7_kinds 28 = .ok (.getfield 7, 3) := by decide +kernel
theorem dX7_kinds_31 : decode cX7_kinds 31 = .ok (.sipush 252, 3) := by decide +kernel
theorem dX7_kinds_34 : decode cX7_kinds 34 = .ok (.iload_n 1, 1) := by decide +kernel
theorem dX7_kinds_35 : decode cX7_kinds 35 = .ok (.iadd, 1) := by decide +kernel
theorem dX7_kinds_36 : decode cX7_kinds 36 = .ok (.iload_n 3, 1) := by decide +kernel
theorem dX7_kinds_37 : decode cX7_kinds 37 = .ok (.iastore, 1) := by decide +kernel
theorem dX7_kinds_38 : decode cX7_kinds 38 = .ok (.iload_n 2, 1) := by decide +kernel
theorem dX7_kinds_39 : decode cX7_kinds 39 = .ok (.aload_n 0, 1) := by decide +kernel
theorem dX7_kinds_40 : decode cX7_kinds 40 = .ok (.sipush 252, 3) := by decide +kernel
theorem dX7_kinds_43 : decode cX7_kinds 43 = .ok (.invokevirtual 231, 3) := by decide +kernel
theorem dX7_kinds_46 : decode cX7_kinds 46 = .ok (.ifCond .eq 9, 3) := by decide +kernel
theorem dX7_kinds_49 : decode cX7_kinds 49 = .ok (.iconst 1, 1) := by decide +kernel
theorem dX7_kinds_50 : decode cX7_kinds 50 = .ok (.iload_n 3, 1) := by decide +kernel
theorem dX7_kinds_51 : decode cX7_kinds 51 = .ok (.ishl, 1) := by decide +kernel
theorem dX7_kinds_52 : decode cX7_kinds 52 = .ok (.goto 4, 3) := by decide +kernel
theorem dX7_kinds_55 : decode cX7_kinds 55 = .ok (.iconst 0, 1) := by decide +kernel
theorem dX7_kinds_56 : decode cX7_kinds 56 = .ok (.ior, 1) := by decide +kernel
theorem dX7_kinds_57 : decode cX7_kinds 57 = .ok (.istore_n 2, 1) := by decide +kernel
theorem dX7_kinds_58 : decode cX7_kinds 58 = .ok (.iinc 3 1, 3) := by decide +kernel
theorem dX7_kinds_61 : decode cX7_kinds 61 = .ok (.goto (-39), 3) := by decide +kernel
theorem dX7_kinds_64 : decode cX7_kinds 64 = .ok (.iload_n 2, 1) := by decide +kernel
theorem dX7_kinds_65 : decode cX7_kinds 65 = .ok (.ireturn, 1) := by decide +kernel
theorem dX7_ask_0 : decode cX7_ask 0 = .ok (.iload_n 1, 1) := by decide +kernel
theorem dX7_ask_1 : decode cX7_ask 1 = .ok (.i2l, 1) := by decide +kernel
theorem dX7_ask_2 : decode cX7_ask 2 = .ok (.lconst 0, 1) := by decide +kernel
theorem dX7_ask_3 : decode cX7_ask 3 = .ok (.lconst 1, 1) := by decide +kernel
theorem dX7_ask_4 : decode cX7_ask 4 = .ok (.invokestatic 52, 3) := by decide +kernel
theorem dX7_ask_7 : decode cX7_ask 7 = .ok (.ifCond .ne 5, 3) := by decide +kernel
theorem dX7_ask_10 : decode cX7_ask 10 = .ok (.iconst (-1), 1) := by decide +kernel
theorem dX7_ask_11 : decode cX7_ask 11 = .ok (.ireturn, 1) := by decide +kernel
theorem dX7_ask_12 : decode cX7_ask 12 = .ok (.iconst 0, 1) := by decide +kernel
theorem dX7_ask_13 : decode cX7_ask 13 = .ok (.istore_n 2, 1) := by decide +kernel
theorem dX7_ask_14 : decode cX7_ask 14 = .ok (.iconst 0, 1) := by decide +kernel
theorem dX7_ask_15 : decode cX7_ask 15 = .ok (.istore_n 3, 1) := by decide +kernel
theorem dX7_ask_16 : decode cX7_ask 16 = .ok (.iload_n 3, 1) := by decide +kernel
theorem dX7_ask_17 : decode cX7_ask 17 = .ok (.aload_n 0, 1) := by decide +kernel
theorem dX7_ask_18 : decode cX7_ask 18 = .ok (.getfield 136, 3) := by decide +kernel
theorem dX7_ask_21 : decode cX7_ask 21 = .ok (.if_icmp .ge 18, 3) := by decide +kernel
theorem dX7_ask_24 : decode cX7_ask 24 = .ok (.iload_n 2, 1) := by decide +kernel
theorem dX7_ask_25 : decode cX7_ask 25 = .ok (.aload_n 0, 1) := by decide +kernel
theorem dX7_ask_26 : decode cX7_ask 26 = .ok (.iconst 0, 1) := by decide +kernel
theorem dX7_ask_27 : decode cX7_ask 27 = .ok (.iload_n 3, 1) := by decide +kernel
theorem dX7_ask_28 : decode cX7_ask 28 = .ok (.invokevirtual 228, 3) := by decide +kernel
theorem dX7_ask_31 : decode cX7_ask 31 = .ok (.iadd, 1) := by decide +kernel
theorem dX7_ask_32 : decode cX7_ask 32 = .ok (.istore_n 2, 1) := by decide +kernel
theorem dX7_ask_33 : decode cX7_ask 33 = .ok (.iinc 3 1, 3) := by decide +kernel
