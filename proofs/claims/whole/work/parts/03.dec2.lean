theorem dX12_formHere_111 : decode cX12_formHere 111 = .ok (.isub, 1) := by decide +kernel
theorem dX12_formHere_112 : decode cX12_formHere 112 = .ok (.iload_n 2, 1) := by decide +kernel
theorem dX12_formHere_113 : decode cX12_formHere 113 = .ok (.iastore, 1) := by decide +kernel
theorem dX12_formHere_114 : decode cX12_formHere 114 = .ok (.return_, 1) := by decide +kernel
theorem dX12_clauseHere_0 : decode cX12_clauseHere 0 = .ok (.aload_n 0, 1) := by decide +kernel
theorem dX12_clauseHere_1 : decode cX12_clauseHere 1 = .ok (.invokevirtual 75, 3) := by decide +kernel
theorem dX12_clauseHere_4 : decode cX12_clauseHere 4 = .ok (.lookupswitch 106 #[(99, 94), (101, 63), (102, 75), (104, 82), (119, 52)], 52) := by decide +kernel
theorem dX12_clauseHere_56 : decode cX12_clauseHere 56 = .ok (.aload_n 0, 1) := by decide +kernel
theorem dX12_clauseHere_57 : decode cX12_clauseHere 57 = .ok (.bipush (-10), 2) := by decide +kernel
theorem dX12_clauseHere_59 : decode cX12_clauseHere 59 = .ok (.ldc 127, 2) := by decide +kernel
theorem dX12_clauseHere_61 : decode cX12_clauseHere 61 = .ok (.invokevirtual 129, 3) := by decide +kernel
theorem dX12_clauseHere_64 : decode cX12_clauseHere 64 = .ok (.goto 51, 3) := by decide +kernel
theorem dX12_clauseHere_67 : decode cX12_clauseHere 67 = .ok (.aload_n 0, 1) := by decide +kernel
theorem dX12_clauseHere_68 : decode cX12_clauseHere 68 = .ok (.sipush (-200), 3) := by decide +kernel
theorem dX12_clauseHere_71 : decode cX12_clauseHere 71 = .ok (.ldc 133, 2) := by decide +kernel
theorem dX12_clauseHere_73 : decode cX12_clauseHere 73 = .ok (.invokevirtual 129, 3) := by decide +kernel
theorem dX12_clauseHere_76 : decode cX12_clauseHere 76 = .ok (.goto 39, 3) := by decide +kernel
theorem dX12_clauseHere_79 : decode cX12_clauseHere 79 = .ok (.aload_n 0, 1) := by decide +kernel
theorem dX12_clauseHere_80 : decode cX12_clauseHere 80 = .ok (.invokevirtual 135, 3) := by decide +kernel
theorem dX12_clauseHere_83 : decode cX12_clauseHere 83 = .ok (.goto 32, 3) := by decide +kernel
theorem dX12_clauseHere_86 : decode cX12_clauseHere 86 = .ok (.aload_n 0, 1) := by decide +kernel
theorem dX12_clauseHere_87 : decode cX12_clauseHere 87 = .ok (.sipush 156, 3) := by decide +kernel
theorem dX12_clauseHere_90 : decode cX12_clauseHere 90 = .ok (.ldc 138, 2) := by decide +kernel
theorem dX12_clauseHere_92 : decode cX12_clauseHere 92 = .ok (.invokevirtual 140, 3) := by decide +kernel
theorem dX12_clauseHere_95 : decode cX12_clauseHere 95 = .ok (.goto 20, 3) := by decide +kernel
theorem dX12_clauseHere_98 : decode cX12_clauseHere 98 = .ok (.aload_n 0, 1) := by decide +kernel
theorem dX12_clauseHere_99 : decode cX12_clauseHere 99 = .ok (.sipush 164, 3) := by decide +kernel
theorem dX12_clauseHere_102 : decode cX12_clauseHere 102 = .ok (.ldc 143, 2) := by decide +kernel
theorem dX12_clauseHere_104 : decode cX12_clauseHere 104 = .ok (.invokevirtual 140, 3) := by decide +kernel
theorem dX12_clauseHere_107 : decode cX12_clauseHere 107 = .ok (.goto 8, 3) := by decide +kernel
theorem dX12_clauseHere_110 : decode cX12_clauseHere 110 = .ok (.aload_n 0, 1) := by decide +kernel
theorem dX12_clauseHere_111 : decode cX12_clauseHere 111 = .ok (.iconst 1, 1) := by decide +kernel
theorem dX12_clauseHere_112 : decode cX12_clauseHere 112 = .ok (.putfield 71, 3) := by decide +kernel
theorem dX12_clauseHere_115 : decode cX12_clauseHere 115 = .ok (.return_, 1) := by decide +kernel
theorem dX12_law_0 : decode cX12_law 0 = .ok (.iload_n 1, 1) := by decide +kernel
theorem dX12_law_1 : decode cX12_law 1 = .ok (.iconst 0, 1) := by decide +kernel
theorem dX12_law_2 : decode cX12_law 2 = .ok (.bipush 6, 2) := by decide +kernel
theorem dX12_law_4 : decode cX12_law 4 = .ok (.invokestatic 54, 3) := by decide +kernel
theorem dX12_law_7 : decode cX12_law 7 = .ok (.ifCond .ne 5, 3) := by decide +kernel
theorem dX12_law_10 : decode cX12_law 10 = .ok (.iconst (-1), 1) := by decide +kernel
theorem dX12_law_11 : decode cX12_law 11 = .ok (.ireturn, 1) := by decide +kernel
theorem dX12_law_12 : decode cX12_law 12 = .ok (.iload_n 2, 1) := by decide +kernel
theorem dX12_law_13 : decode cX12_law 13 = .ok (.iconst 1, 1) := by decide +kernel
theorem dX12_law_14 : decode cX12_law 14 = .ok (.bipush 9, 2) := by decide +kernel
theorem dX12_law_16 : decode cX12_law 16 = .ok (.invokestatic 54, 3) := by decide +kernel
theorem dX12_law_19 : decode cX12_law 19 = .ok (.ifCond .ne 6, 3) := by decide +kernel
theorem dX12_law_22 : decode cX12_law 22 = .ok (.bipush (-2), 2) := by decide +kernel
theorem dX12_law_24 : decode cX12_law 24 = .ok (.ireturn, 1) := by decide +kernel
theorem dX12_law_25 : decode cX12_law 25 = .ok (.aload_n 0, 1) := by decide +kernel
theorem dX12_law_26 : decode cX12_law 26 = .ok (.getfield 7, 3) := by decide +kernel
theorem dX12_law_29 : decode cX12_law 29 = .ok (.iconst 1, 1) := by decide +kernel
theorem dX12_law_30 : decode cX12_law 30 = .ok (.iaload, 1) := by decide +kernel
theorem dX12_law_31 : decode cX12_law 31 = .ok (.bipush 8, 2) := by decide +kernel
theorem dX12_law_33 : decode cX12_law 33 = .ok (.if_icmp .ne 6, 3) := by decide +kernel
theorem dX12_law_36 : decode cX12_law 36 = .ok (.bipush (-4), 2) := by decide +kernel
theorem dX12_law_38 : decode cX12_law 38 = .ok (.ireturn, 1) := by decide +kernel
theorem dX12_law_39 : decode cX12_law 39 = .ok (.aload_n 0, 1) := by decide +kernel
theorem dX12_law_40 : decode cX12_law 40 = .ok (.aload_n 0, 1) := by decide +kernel
theorem dX12_law_41 : decode cX12_law 41 = .ok (.getfield 7, 3) := by decide +kernel
theorem dX12_law_44 : decode cX12_law 44 = .ok (.iconst 1, 1) := by decide +kernel
theorem dX12_law_45 : decode cX12_law 45 = .ok (.iaload, 1) := by decide +kernel
theorem dX12_law_46 : decode cX12_law 46 = .ok (.putfield 92, 3) := by decide +kernel
theorem dX12_law_49 : decode cX12_law 49 = .ok (.aload_n 0, 1) := by decide +kernel
theorem dX12_law_50 : decode cX12_law 50 = .ok (.aload_n 0, 1) := by decide +kernel
theorem dX12_law_51 : decode cX12_law 51 = .ok (.getfield 7, 3) := by decide +kernel
theorem dX12_law_54 : decode cX12_law 54 = .ok (.iconst 5, 1) := by decide +kernel
theorem dX12_law_55 : decode cX12_law 55 = .ok (.iaload, 1) := by decide +kernel
theorem dX12_law_56 : decode cX12_law 56 = .ok (.putfield 68, 3) := by decide +kernel
theorem dX12_law_59 : decode cX12_law 59 = .ok (.aload_n 0, 1) := by decide +kernel
theorem dX12_law_60 : decode cX12_law 60 = .ok (.getfield 7, 3) := by decide +kernel
theorem dX12_law_63 : decode cX12_law 63 = .ok (.iconst 5, 1) := by decide +kernel
theorem dX12_law_64 : decode cX12_law 64 = .ok (.iconst 0, 1) := by decide +kernel
theorem dX12_law_65 : decode cX12_law 65 = .ok (.iastore, 1) := by decide +kernel
theorem dX12_law_66 : decode cX12_law 66 = .ok (.aload_n 0, 1) := by decide +kernel
theorem dX12_law_67 : decode cX12_law 67 = .ok (.getfield 7, 3) := by decide +kernel
theorem dX12_law_70 : decode cX12_law 70 = .ok (.sipush 140, 3) := by decide +kernel
theorem dX12_law_73 : decode cX12_law 73 = .ok (.aload_n 0, 1) := by decide +kernel
theorem dX12_law_74 : decode cX12_law 74 = .ok (.getfield 92, 3) := by decide +kernel
theorem dX12_law_77 : decode cX12_law 77 = .ok (.iadd, 1) := by decide +kernel
theorem dX12_law_78 : decode cX12_law 78 = .ok (.iload_n 1, 1) := by decide +kernel
theorem dX12_law_79 : decode cX12_law 79 = .ok (.iastore, 1) := by decide +kernel
theorem dX12_law_80 : decode cX12_law 80 = .ok (.aload_n 0, 1) := by decide +kernel
theorem dX12_law_81 : decode cX12_law 81 = .ok (.getfield 7, 3) := by decide +kernel
theorem dX12_law_84 : decode cX12_law 84 = .ok (.sipush 148, 3) := by decide +kernel
theorem dX12_law_87 : decode cX12_law 87 = .ok (.aload_n 0, 1) := by decide +kernel
theorem dX12_law_88 : decode cX12_law 88 = .ok (.getfield 92, 3) := by decide +kernel
theorem dX12_law_91 : decode cX12_law 91 = .ok (.iadd, 1) := by decide +kernel
theorem dX12_law_92 : decode cX12_law 92 = .ok (.iload_n 2, 1) := by decide +kernel
theorem dX12_law_93 : decode cX12_law 93 = .ok (.iastore, 1) := by decide +kernel
theorem dX12_law_94 : decode cX12_law 94 = .ok (.aload_n 0, 1) := by decide +kernel
theorem dX12_law_95 : decode cX12_law 95 = .ok (.getfield 7, 3) := by decide +kernel
theorem dX12_law_98 : decode cX12_law 98 = .ok (.sipush 156, 3) := by decide +kernel
theorem dX12_law_101 : decode cX12_law 101 = .ok (.aload_n 0, 1) := by decide +kernel
theorem dX12_law_102 : decode cX12_law 102 = .ok (.getfield 92, 3) := by decide +kernel
theorem dX12_law_105 : decode cX12_law 105 = .ok (.iadd, 1) := by decide +kernel
theorem dX12_law_106 : decode cX12_law 106 = .ok (.bipush 20, 2) := by decide +kernel
theorem dX12_law_108 : decode cX12_law 108 = .ok (.iastore, 1) := by decide +kernel
theorem dX12_law_109 : decode cX12_law 109 = .ok (.aload_n 0, 1) := by decide +kernel
theorem dX12_law_110 : decode cX12_law 110 = .ok (.getfield 7, 3) := by decide +kernel
theorem dX12_law_113 : decode cX12_law 113 = .ok (.sipush 164, 3) := by decide +kernel
theorem dX12_law_116 : decode cX12_law 116 = .ok (.aload_n 0, 1) := by decide +kernel
theorem dX12_law_117 : decode cX12_law 117 = .ok (.getfield 92, 3) := by decide +kernel
theorem dX12_law_120 : decode cX12_law 120 = .ok (.iadd, 1) := by decide +kernel
theorem dX12_law_121 : decode cX12_law 121 = .ok (.iconst 0, 1) := by decide +kernel
theorem dX12_law_122 : decode cX12_law 122 = .ok (.iastore, 1) := by decide +kernel
theorem dX12_law_123 : decode cX12_law 123 = .ok (.aload_n 0, 1) := by decide +kernel
theorem dX12_law_124 : decode cX12_law 124 = .ok (.getfield 7, 3) := by decide +kernel
theorem dX12_law_127 : decode cX12_law 127 = .ok (.sipush 204, 3) := by decide +kernel
theorem dX12_law_130 : decode cX12_law 130 = .ok (.aload_n 0, 1) := by decide +kernel
theorem dX12_law_131 : decode cX12_law 131 = .ok (.getfield 92, 3) := by decide +kernel
theorem dX12_law_134 : decode cX12_law 134 = .ok (.iadd, 1) := by decide +kernel
theorem dX12_law_135 : decode cX12_law 135 = .ok (.iconst 0, 1) := by decide +kernel
theorem dX12_law_136 : decode cX12_law 136 = .ok (.iastore, 1) := by decide +kernel
theorem dX12_law_137 : decode cX12_law 137 = .ok (.iconst 0, 1) := by decide +kernel
theorem dX12_law_138 : decode cX12_law 138 = .ok (.istore_n 3, 1) := by decide +kernel
theorem dX12_law_139 : decode cX12_law 139 = .ok (.iload_n 3, 1) := by decide +kernel
theorem dX12_law_140 : decode cX12_law 140 = .ok (.iconst 4, 1) := by decide +kernel
theorem dX12_law_141 : decode cX12_law 141 = .ok (.if_icmp .ge 31, 3) := by decide +kernel
theorem dX12_law_144 : decode cX12_law 144 = .ok (.aload_n 0, 1) := by decide +kernel
theorem dX12_law_145 : decode cX12_law 145 = .ok (.getfield 7, 3) := by decide +kernel
theorem dX12_law_148 : decode cX12_law 148 = .ok (.sipush 172, 3) := by decide +kernel
theorem dX12_law_151 : decode cX12_law 151 = .ok (.iconst 4, 1) := by decide +kernel
theorem dX12_law_152 : decode cX12_law 152 = .ok (.aload_n 0, 1) := by decide +kernel
theorem dX12_law_153 : decode cX12_law 153 = .ok (.getfield 92, 3) := by decide +kernel
theorem dX12_law_156 : decode cX12_law 156 = .ok (.imul, 1) := by decide +kernel
theorem dX12_law_157 : decode cX12_law 157 = .ok (.iadd, 1) := by decide +kernel
theorem dX12_law_158 : decode cX12_law 158 = .ok (.iload_n 3, 1) := by decide +kernel
theorem dX12_law_159 : decode cX12_law 159 = .ok (.iadd, 1) := by decide +kernel
theorem dX12_law_160 : decode cX12_law 160 = .ok (.iconst 3, 1) := by decide +kernel
theorem dX12_law_161 : decode cX12_law 161 = .ok (.iload_n 3, 1) := by decide +kernel
theorem dX12_law_162 : decode cX12_law 162 = .ok (.imul, 1) := by decide +kernel
theorem dX12_law_163 : decode cX12_law 163 = .ok (.iconst 3, 1) := by decide +kernel
theorem dX12_law_164 : decode cX12_law 164 = .ok (.iadd, 1) := by decide +kernel
theorem dX12_law_165 : decode cX12_law 165 = .ok (.iastore, 1) := by decide +kernel
theorem dX12_law_166 : decode cX12_law 166 = .ok (.iinc 3 1, 3) := by decide +kernel
theorem dX12_law_169 : decode cX12_law 169 = .ok (.goto (-30), 3) := by decide +kernel
theorem dX12_law_172 : decode cX12_law 172 = .ok (.aload_n 0, 1) := by decide +kernel
theorem dX12_law_173 : decode cX12_law 173 = .ok (.iconst 0, 1) := by decide +kernel
theorem dX12_law_174 : decode cX12_law 174 = .ok (.putfield 65, 3) := by decide +kernel
theorem dX12_law_177 : decode cX12_law 177 = .ok (.aload_n 0, 1) := by decide +kernel
theorem dX12_law_178 : decode cX12_law 178 = .ok (.iconst 0, 1) := by decide +kernel
theorem dX12_law_179 : decode cX12_law 179 = .ok (.putfield 71, 3) := by decide +kernel
theorem dX12_law_182 : decode cX12_law 182 = .ok (.aload_n 0, 1) := by decide +kernel
theorem dX12_law_183 : decode cX12_law 183 = .ok (.iconst 0, 1) := by decide +kernel
theorem dX12_law_184 : decode cX12_law 184 = .ok (.putfield 95, 3) := by decide +kernel
theorem dX12_law_187 : decode cX12_law 187 = .ok (.iconst 1, 1) := by decide +kernel
theorem dX12_law_188 : decode cX12_law 188 = .ok (.istore_n 3, 1) := by decide +kernel
theorem dX12_law_189 : decode cX12_law 189 = .ok (.aload_n 0, 1) := by decide +kernel
theorem dX12_law_190 : decode cX12_law 190 = .ok (.invokevirtual 145, 3) := by decide +kernel
theorem dX12_law_193 : decode cX12_law 193 = .ok (.aload_n 0, 1) := by decide +kernel
theorem dX12_law_194 : decode cX12_law 194 = .ok (.getfield 71, 3) := by decide +kernel
theorem dX12_law_197 : decode cX12_law 197 = .ok (.ifCond .ne 38, 3) := by decide +kernel
theorem dX12_law_200 : decode cX12_law 200 = .ok (.iload_n 3, 1) := by decide +kernel
theorem dX12_law_201 : decode cX12_law 201 = .ok (.bipush 10, 2) := by decide +kernel
theorem dX12_law_203 : decode cX12_law 203 = .ok (.if_icmp .ge 32, 3) := by decide +kernel
theorem dX12_law_206 : decode cX12_law 206 = .ok (.aload_n 0, 1) := by decide +kernel
theorem dX12_law_207 : decode cX12_law 207 = .ok (.invokevirtual 75, 3) := by decide +kernel
theorem dX12_law_210 : decode cX12_law 210 = .ok (.bipush 59, 2) := by decide +kernel
theorem dX12_law_212 : decode cX12_law 212 = .ok (.if_icmp .ne 23, 3) := by decide +kernel
theorem dX12_law_215 : decode cX12_law 215 = .ok (.aload_n 0, 1) := by decide +kernel
theorem dX12_law_216 : decode cX12_law 216 = .ok (.dup, 1) := by decide +kernel
theorem dX12_law_217 : decode cX12_law 217 = .ok (.getfield 65, 3) := by decide +kernel
theorem dX12_law_220 : decode cX12_law 220 = .ok (.iconst 1, 1) := by decide +kernel
theorem dX12_law_221 : decode cX12_law 221 = .ok (.iadd, 1) := by decide +kernel
theorem dX12_law_222 : decode cX12_law 222 = .ok (.putfield 65, 3) := by decide +kernel
theorem dX12_law_225 : decode cX12_law 225 = .ok (.aload_n 0, 1) := by decide +kernel
theorem dX12_law_226 : decode cX12_law 226 = .ok (.invokevirtual 145, 3) := by decide +kernel
theorem dX12_law_229 : decode cX12_law 229 = .ok (.iinc 3 1, 3) := by decide +kernel
theorem dX12_law_232 : decode cX12_law 232 = .ok (.goto (-39), 3) := by decide +kernel
theorem dX12_law_235 : decode cX12_law 235 = .ok (.aload_n 0, 1) := by decide +kernel
theorem dX12_law_236 : decode cX12_law 236 = .ok (.getfield 71, 3) := by decide +kernel
theorem dX12_law_239 : decode cX12_law 239 = .ok (.ifCond .ne 14, 3) := by decide +kernel
theorem dX12_law_242 : decode cX12_law 242 = .ok (.aload_n 0, 1) := by decide +kernel
theorem dX12_law_243 : decode cX12_law 243 = .ok (.getfield 65, 3) := by decide +kernel
theorem dX12_law_246 : decode cX12_law 246 = .ok (.aload_n 0, 1) := by decide +kernel
theorem dX12_law_247 : decode cX12_law 247 = .ok (.getfield 68, 3) := by decide +kernel
theorem dX12_law_250 : decode cX12_law 250 = .ok (.if_icmp .eq 11, 3) := by decide +kernel
theorem dX12_law_253 : decode cX12_law 253 = .ok (.bipush (-10), 2) := by decide +kernel
theorem dX12_law_255 : decode cX12_law 255 = .ok (.aload_n 0, 1) := by decide +kernel
theorem dX12_law_256 : decode cX12_law 256 = .ok (.getfield 65, 3) := by decide +kernel
theorem dX12_law_259 : decode cX12_law 259 = .ok (.isub, 1) := by decide +kernel
theorem dX12_law_260 : decode cX12_law 260 = .ok (.ireturn, 1) := by decide +kernel
theorem dX12_law_261 : decode cX12_law 261 = .ok (.aload_n 0, 1) := by decide +kernel
theorem dX12_law_262 : decode cX12_law 262 = .ok (.getfield 7, 3) := by decide +kernel
theorem dX12_law_265 : decode cX12_law 265 = .ok (.iconst 1, 1) := by decide +kernel
theorem dX12_law_266 : decode cX12_law 266 = .ok (.dup2, 1) := by decide +kernel
theorem dX12_law_267 : decode cX12_law 267 = .ok (.iaload, 1) := by decide +kernel
theorem dX12_law_268 : decode cX12_law 268 = .ok (.iconst 1, 1) := by decide +kernel
theorem dX12_law_269 : decode cX12_law 269 = .ok (.iadd, 1) := by decide +kernel
theorem dX12_law_270 : decode cX12_law 270 = .ok (.iastore, 1) := by decide +kernel
theorem dX12_law_271 : decode cX12_law 271 = .ok (.aload_n 0, 1) := by decide +kernel
theorem dX12_law_272 : decode cX12_law 272 = .ok (.getfield 92, 3) := by decide +kernel
theorem dX12_law_275 : decode cX12_law 275 = .ok (.ireturn, 1) := by decide +kernel
theorem dX12_told_0 : decode cX12_told 0 = .ok (.aload_n 0, 1) := by decide +kernel
theorem dX12_told_1 : decode cX12_told 1 = .ok (.iload_n 1, 1) := by decide +kernel
theorem dX12_told_2 : decode cX12_told 2 = .ok (.invokevirtual 148, 3) := by decide +kernel
theorem dX12_told_5 : decode cX12_told 5 = .ok (.ifCond .ne 5, 3) := by decide +kernel
theorem dX12_told_8 : decode cX12_told 8 = .ok (.iconst (-1), 1) := by decide +kernel
theorem dX12_told_9 : decode cX12_told 9 = .ok (.ireturn, 1) := by decide +kernel
theorem dX12_told_10 : decode cX12_told 10 = .ok (.iload_n 2, 1) := by decide +kernel
theorem dX12_told_11 : decode cX12_told 11 = .ok (.iconst 0, 1) := by decide +kernel
theorem dX12_told_12 : decode cX12_told 12 = .ok (.iconst 3, 1) := by decide +kernel
theorem dX12_told_13 : decode cX12_told 13 = .ok (.invokestatic 54, 3) := by decide +kernel
theorem dX12_told_16 : decode cX12_told 16 = .ok (.ifCond .eq 21, 3) := by decide +kernel
theorem dX12_told_19 : decode cX12_told 19 = .ok (.aload_n 0, 1) := by decide +kernel
theorem dX12_told_20 : decode cX12_told 20 = .ok (.getfield 7, 3) := by decide +kernel
theorem dX12_told_23 : decode cX12_told 23 = .ok (.sipush 140, 3) := by decide +kernel
theorem dX12_told_26 : decode cX12_told 26 = .ok (.bipush 8, 2) := by decide +kernel
theorem dX12_told_28 : decode cX12_told 28 = .ok (.iload_n 2, 1) := by decide +kernel
theorem dX12_told_29 : decode cX12_told 29 = .ok (.imul, 1) := by decide +kernel
theorem dX12_told_30 : decode cX12_told 30 = .ok (.iadd, 1) := by decide +kernel
theorem dX12_told_31 : decode cX12_told 31 = .ok (.iload_n 1, 1) := by decide +kernel
theorem dX12_told_32 : decode cX12_told 32 = .ok (.iadd, 1) := by decide +kernel
theorem dX12_told_33 : decode cX12_told 33 = .ok (.iaload, 1) := by decide +kernel
theorem dX12_told_34 : decode cX12_told 34 = .ok (.goto 35, 3) := by decide +kernel
theorem dX12_told_37 : decode cX12_told 37 = .ok (.iload_n 2, 1) := by decide +kernel
theorem dX12_told_38 : decode cX12_told 38 = .ok (.bipush 11, 2) := by decide +kernel
theorem dX12_told_40 : decode cX12_told 40 = .ok (.bipush 14, 2) := by decide +kernel
theorem dX12_told_42 : decode cX12_told 42 = .ok (.invokestatic 54, 3) := by decide +kernel
theorem dX12_told_45 : decode cX12_told 45 = .ok (.ifCond .eq 23, 3) := by decide +kernel
theorem dX12_told_48 : decode cX12_told 48 = .ok (.aload_n 0, 1) := by decide +kernel
theorem dX12_told_49 : decode cX12_told 49 = .ok (.getfield 7, 3) := by decide +kernel
theorem dX12_told_52 : decode cX12_told 52 = .ok (.sipush 172, 3) := by decide +kernel
theorem dX12_told_55 : decode cX12_told 55 = .ok (.iconst 4, 1) := by decide +kernel
theorem dX12_told_56 : decode cX12_told 56 = .ok (.iload_n 1, 1) := by decide +kernel
theorem dX12_told_57 : decode cX12_told 57 = .ok (.imul, 1) := by decide +kernel
theorem dX12_told_58 : decode cX12_told 58 = .ok (.iadd, 1) := by decide +kernel
theorem dX12_told_59 : decode cX12_told 59 = .ok (.iload_n 2, 1) := by decide +kernel
theorem dX12_told_60 : decode cX12_told 60 = .ok (.iadd, 1) := by decide +kernel
theorem dX12_told_61 : decode cX12_told 61 = .ok (.bipush 11, 2) := by decide +kernel
theorem dX12_told_63 : decode cX12_told 63 = .ok (.isub, 1) := by decide +kernel
theorem dX12_told_64 : decode cX12_told 64 = .ok (.iaload, 1) := by decide +kernel
theorem dX12_told_65 : decode cX12_told 65 = .ok (.goto 4, 3) := by decide +kernel
theorem dX12_told_68 : decode cX12_told 68 = .ok (.iconst (-1), 1) := by decide +kernel
theorem dX12_told_69 : decode cX12_told 69 = .ok (.ireturn, 1) := by decide +kernel
theorem dX12_base_0 : decode cX12_base 0 = .ok (.iconst 0, 1) := by decide +kernel
theorem dX12_base_1 : decode cX12_base 1 = .ok (.istore_n 2, 1) := by decide +kernel
theorem dX12_base_2 : decode cX12_base 2 = .ok (.iconst 0, 1) := by decide +kernel
theorem dX12_base_3 : decode cX12_base 3 = .ok (.istore_n 3, 1) := by decide +kernel
theorem dX12_base_4 : decode cX12_base 4 = .ok (.sipush 212, 3) := by decide +kernel
theorem dX12_base_7 : decode cX12_base 7 = .ok (.sipush 140, 3) := by decide +kernel
theorem dX12_base_10 : decode cX12_base 10 = .ok (.iload_n 1, 1) := by decide +kernel
theorem dX12_base_11 : decode cX12_base 11 = .ok (.imul, 1) := by decide +kernel
theorem dX12_base_12 : decode cX12_base 12 = .ok (.iadd, 1) := by decide +kernel
theorem dX12_base_13 : decode cX12_base 13 = .ok (.istore 4, 2) := by decide +kernel
theorem dX12_base_15 : decode cX12_base 15 = .ok (.iload 4, 2) := by decide +kernel
theorem dX12_base_17 : decode cX12_base 17 = .ok (.sipush 212, 3) := by decide +kernel
theorem dX12_base_20 : decode cX12_base 20 = .ok (.sipush 140, 3) := by decide +kernel
theorem dX12_base_23 : decode cX12_base 23 = .ok (.iload_n 1, 1) := by decide +kernel
theorem dX12_base_24 : decode cX12_base 24 = .ok (.imul, 1) := by decide +kernel
theorem dX12_base_25 : decode cX12_base 25 = .ok (.iadd, 1) := by decide +kernel
theorem dX12_base_26 : decode cX12_base 26 = .ok (.aload_n 0, 1) := by decide +kernel
theorem dX12_base_27 : decode cX12_base 27 = .ok (.getfield 7, 3) := by decide +kernel
theorem dX12_base_30 : decode cX12_base 30 = .ok (.sipush 204, 3) := by decide +kernel
theorem dX12_base_33 : decode cX12_base 33 = .ok (.iload_n 1, 1) := by decide +kernel
theorem dX12_base_34 : decode cX12_base 34 = .ok (.iadd, 1) := by decide +kernel
theorem dX12_base_35 : decode cX12_base 35 = .ok (.iaload, 1) := by decide +kernel
theorem dX12_base_36 : decode cX12_base 36 = .ok (.iadd, 1) := by decide +kernel
theorem dX12_base_37 : decode cX12_base 37 = .ok (.if_icmp .ge 270, 3) := by decide +kernel
theorem dX12_base_40 : decode cX12_base 40 = .ok (.aload_n 0, 1) := by decide +kernel
theorem dX12_base_41 : decode cX12_base 41 = .ok (.getfield 7, 3) := by decide +kernel
theorem dX12_base_44 : decode cX12_base 44 = .ok (.iload 4, 2) := by decide +kernel
theorem dX12_base_46 : decode cX12_base 46 = .ok (.iaload, 1) := by decide +kernel
theorem dX12_base_47 : decode cX12_base 47 = .ok (.istore 5, 2) := by decide +kernel
theorem dX12_base_49 : decode cX12_base 49 = .ok (.iload 5, 2) := by decide +kernel
theorem dX12_base_51 : decode cX12_base 51 = .ok (.ifCond .lt 96, 3) := by decide +kernel
theorem dX12_base_54 : decode cX12_base 54 = .ok (.aload_n 0, 1) := by decide +kernel
theorem dX12_base_55 : decode cX12_base 55 = .ok (.getfield 16, 3) := by decide +kernel
theorem dX12_base_58 : decode cX12_base 58 = .ok (.iload 5, 2) := by decide +kernel
theorem dX12_base_60 : decode cX12_base 60 = .ok (.bipush 8, 2) := by decide +kernel
theorem dX12_base_62 : decode cX12_base 62 = .ok (.irem, 1) := by decide +kernel
theorem dX12_base_63 : decode cX12_base 63 = .ok (.iaload, 1) := by decide +kernel
theorem dX12_base_64 : decode cX12_base 64 = .ok (.istore 6, 2) := by decide +kernel
theorem dX12_base_66 : decode cX12_base 66 = .ok (.iload 5, 2) := by decide +kernel
theorem dX12_base_68 : decode cX12_base 68 = .ok (.bipush 8, 2) := by decide +kernel
theorem dX12_base_70 : decode cX12_base 70 = .ok (.idiv, 1) := by decide +kernel
theorem dX12_base_71 : decode cX12_base 71 = .ok (.iconst 4, 1) := by decide +kernel
theorem dX12_base_72 : decode cX12_base 72 = .ok (.irem, 1) := by decide +kernel
theorem dX12_base_73 : decode cX12_base 73 = .ok (.istore 7, 2) := by decide +kernel
theorem dX12_base_75 : decode cX12_base 75 = .ok (.iload 5, 2) := by decide +kernel
theorem dX12_base_77 : decode cX12_base 77 = .ok (.bipush 32, 2) := by decide +kernel
theorem dX12_base_79 : decode cX12_base 79 = .ok (.idiv, 1) := by decide +kernel
theorem dX12_base_80 : decode cX12_base 80 = .ok (.istore 8, 2) := by decide +kernel
theorem dX12_base_82 : decode cX12_base 82 = .ok (.aload_n 0, 1) := by decide +kernel
theorem dX12_base_83 : decode cX12_base 83 = .ok (.getfield 19, 3) := by decide +kernel
theorem dX12_base_86 : decode cX12_base 86 = .ok (.iload_n 3, 1) := by decide +kernel
theorem dX12_base_87 : decode cX12_base 87 = .ok (.iload 7, 2) := by decide +kernel
theorem dX12_base_89 : decode cX12_base 89 = .ok (.ifCond .ne 18, 3) := by decide +kernel
theorem dX12_base_92 : decode cX12_base 92 = .ok (.iload 6, 2) := by decide +kernel
theorem dX12_base_94 : decode cX12_base 94 = .ok (.iload 8, 2) := by decide +kernel
theorem dX12_base_96 : decode cX12_base 96 = .ok (.if_icmp .ge 7, 3) := by decide +kernel
theorem dX12_base_99 : decode cX12_base 99 = .ok (.iconst 1, 1) := by decide +kernel
theorem dX12_base_100 : decode cX12_base 100 = .ok (.goto 40, 3) := by decide +kernel
theorem dX12_base_103 : decode cX12_base 103 = .ok (.iconst 0, 1) := by decide +kernel
theorem dX12_base_104 : decode cX12_base 104 = .ok (.goto 36, 3) := by decide +kernel
theorem dX12_base_107 : decode cX12_base 107 = .ok (.iload 7, 2) := by decide +kernel
theorem dX12_base_109 : decode cX12_base 109 = .ok (.iconst 1, 1) := by decide +kernel
theorem dX12_base_110 : decode cX12_base 110 = .ok (.if_icmp .ne 18, 3) := by decide +kernel
theorem dX12_base_113 : decode cX12_base 113 = .ok (.iload 6, 2) := by decide +kernel
theorem dX12_base_115 : decode cX12_base 115 = .ok (.iload 8, 2) := by decide +kernel
theorem dX12_base_117 : decode cX12_base 117 = .ok (.if_icmp .ne 7, 3) := by decide +kernel
theorem dX12_base_120 : decode cX12_base 120 = .ok (.iconst 1, 1) := by decide +kernel
theorem dX12_base_121 : decode cX12_base 121 = .ok (.goto 19, 3) := by decide +kernel
theorem dX12_base_124 : decode cX12_base 124 = .ok (.iconst 0, 1) := by decide +kernel
theorem dX12_base_125 : decode cX12_base 125 = .ok (.goto 15, 3) := by decide +kernel
theorem dX12_base_128 : decode cX12_base 128 = .ok (.iload 6, 2) := by decide +kernel
theorem dX12_base_130 : decode cX12_base 130 = .ok (.iload 8, 2) := by decide +kernel
theorem dX12_base_132 : decode cX12_base 132 = .ok (.if_icmp .le 7, 3) := by decide +kernel
theorem dX12_base_135 : decode cX12_base 135 = .ok (.iconst 1, 1) := by decide +kernel
theorem dX12_base_136 : decode cX12_base 136 = .ok (.goto 4, 3) := by decide +kernel
theorem dX12_base_139 : decode cX12_base 139 = .ok (.iconst 0, 1) := by decide +kernel
theorem dX12_base_140 : decode cX12_base 140 = .ok (.bastore, 1) := by decide +kernel
theorem dX12_base_141 : decode cX12_base 141 = .ok (.iinc 3 1, 3) := by decide +kernel
theorem dX12_base_144 : decode cX12_base 144 = .ok (.goto 157, 3) := by decide +kernel
theorem dX12_base_147 : decode cX12_base 147 = .ok (.iload 5, 2) := by decide +kernel
theorem dX12_base_149 : decode cX12_base 149 = .ok (.iconst (-1), 1) := by decide +kernel
theorem dX12_base_150 : decode cX12_base 150 = .ok (.if_icmp .ne 30, 3) := by decide +kernel
theorem dX12_base_153 : decode cX12_base 153 = .ok (.aload_n 0, 1) := by decide +kernel
theorem dX12_base_154 : decode cX12_base 154 = .ok (.getfield 19, 3) := by decide +kernel
theorem dX12_base_157 : decode cX12_base 157 = .ok (.iload_n 3, 1) := by decide +kernel
theorem dX12_base_158 : decode cX12_base 158 = .ok (.iconst 1, 1) := by decide +kernel
theorem dX12_base_159 : decode cX12_base 159 = .ok (.isub, 1) := by decide +kernel
theorem dX12_base_160 : decode cX12_base 160 = .ok (.aload_n 0, 1) := by decide +kernel
theorem dX12_base_161 : decode cX12_base 161 = .ok (.getfield 19, 3) := by decide +kernel
theorem dX12_base_164 : decode cX12_base 164 = .ok (.iload_n 3, 1) := by decide +kernel
theorem dX12_base_165 : decode cX12_base 165 = .ok (.iconst 1, 1) := by decide +kernel
theorem dX12_base_166 : decode cX12_base 166 = .ok (.isub, 1) := by decide +kernel
theorem dX12_base_167 : decode cX12_base 167 = .ok (.baload, 1) := by decide +kernel
theorem dX12_base_168 : decode cX12_base 168 = .ok (.ifCond .ne 7, 3) := by decide +kernel
theorem dX12_base_171 : decode cX12_base 171 = .ok (.iconst 1, 1) := by decide +kernel
theorem dX12_base_172 : decode cX12_base 172 = .ok (.goto 4, 3) := by decide +kernel
theorem dX12_base_175 : decode cX12_base 175 = .ok (.iconst 0, 1) := by decide +kernel
theorem dX12_base_176 : decode cX12_base 176 = .ok (.bastore, 1) := by decide +kernel
theorem dX12_base_177 : decode cX12_base 177 = .ok (.goto 124, 3) := by decide +kernel
theorem dX12_base_180 : decode cX12_base 180 = .ok (.iload 5, 2) := by decide +kernel
theorem dX12_base_182 : decode cX12_base 182 = .ok (.bipush (-10), 2) := by decide +kernel
theorem dX12_base_184 : decode cX12_base 184 = .ok (.if_icmp .le 77, 3) := by decide +kernel
theorem dX12_base_187 : decode cX12_base 187 = .ok (.iinc 3 (-1), 3) := by decide +kernel
theorem dX12_base_190 : decode cX12_base 190 = .ok (.aload_n 0, 1) := by decide +kernel
theorem dX12_base_191 : decode cX12_base 191 = .ok (.getfield 19, 3) := by decide +kernel
theorem dX12_base_194 : decode cX12_base 194 = .ok (.iload_n 3, 1) := by decide +kernel
theorem dX12_base_195 : decode cX12_base 195 = .ok (.iconst 1, 1) := by decide +kernel
theorem dX12_base_196 : decode cX12_base 196 = .ok (.isub, 1) := by decide +kernel
theorem dX12_base_197 : decode cX12_base 197 = .ok (.iload 5, 2) := by decide +kernel
theorem dX12_base_199 : decode cX12_base 199 = .ok (.bipush (-2), 2) := by decide +kernel
theorem dX12_base_201 : decode cX12_base 201 = .ok (.if_icmp .ne 31, 3) := by decide +kernel
theorem dX12_base_204 : decode cX12_base 204 = .ok (.aload_n 0, 1) := by decide +kernel
theorem dX12_base_205 : decode cX12_base 205 = .ok (.getfield 19, 3) := by decide +kernel
theorem dX12_base_208 : decode cX12_base 208 = .ok (.iload_n 3, 1) := by decide +kernel
theorem dX12_base_209 : decode cX12_base 209 = .ok (.iconst 1, 1) := by decide +kernel
theorem dX12_base_210 : decode cX12_base 210 = .ok (.isub, 1) := by decide +kernel
theorem dX12_base_211 : decode cX12_base 211 = .ok (.baload, 1) := by decide +kernel
theorem dX12_base_212 : decode cX12_base 212 = .ok (.ifCond .eq 16, 3) := by decide +kernel
theorem dX12_base_215 : decode cX12_base 215 = .ok (.aload_n 0, 1) := by decide +kernel
theorem dX12_base_216 : decode cX12_base 216 = .ok (.getfield 19, 3) := by decide +kernel
theorem dX12_base_219 : decode cX12_base 219 = .ok (.iload_n 3, 1) := by decide +kernel
theorem dX12_base_220 : decode cX12_base 220 = .ok (.baload, 1) := by decide +kernel
theorem dX12_base_221 : decode cX12_base 221 = .ok (.ifCond .eq 7, 3) := by decide +kernel
theorem dX12_base_224 : decode cX12_base 224 = .ok (.iconst 1, 1) := by decide +kernel
theorem dX12_base_225 : decode cX12_base 225 = .ok (.goto 32, 3) := by decide +kernel
theorem dX12_base_228 : decode cX12_base 228 = .ok (.iconst 0, 1) := by decide +kernel
theorem dX12_base_229 : decode cX12_base 229 = .ok (.goto 28, 3) := by decide +kernel
theorem dX12_base_232 : decode cX12_base 232 = .ok (.aload_n 0, 1) := by decide +kernel
theorem dX12_base_233 : decode cX12_base 233 = .ok (.getfield 19, 3) := by decide +kernel
theorem dX12_base_236 : decode cX12_base 236 = .ok (.iload_n 3, 1) := by decide +kernel
theorem dX12_base_237 : decode cX12_base 237 = .ok (.iconst 1, 1) := by decide +kernel
theorem dX12_base_238 : decode cX12_base 238 = .ok (.isub, 1) := by decide +kernel
theorem dX12_base_239 : decode cX12_base 239 = .ok (.baload, 1) := by decide +kernel
theorem dX12_base_240 : decode cX12_base 240 = .ok (.ifCond .ne 12, 3) := by decide +kernel
theorem dX12_base_243 : decode cX12_base 243 = .ok (.aload_n 0, 1) := by decide +kernel
theorem dX12_base_244 : decode cX12_base 244 = .ok (.getfield 19, 3) := by decide +kernel
theorem dX12_base_247 : decode cX12_base 247 = .ok (.iload_n 3, 1) := by decide +kernel
theorem dX12_base_248 : decode cX12_base 248 = .ok (.baload, 1) := by decide +kernel
theorem dX12_base_249 : decode cX12_base 249 = .ok (.ifCond .eq 7, 3) := by decide +kernel
theorem dX12_base_252 : decode cX12_base 252 = .ok (.iconst 1, 1) := by decide +kernel
theorem dX12_base_253 : decode cX12_base 253 = .ok (.goto 4, 3) := by decide +kernel
theorem dX12_base_256 : decode cX12_base 256 = .ok (.iconst 0, 1) := by decide +kernel
theorem dX12_base_257 : decode cX12_base 257 = .ok (.bastore, 1) := by decide +kernel
theorem dX12_base_258 : decode cX12_base 258 = .ok (.goto 43, 3) := by decide +kernel
theorem dX12_base_261 : decode cX12_base 261 = .ok (.iconst 0, 1) := by decide +kernel
theorem dX12_base_262 : decode cX12_base 262 = .ok (.istore_n 3, 1) := by decide +kernel
theorem dX12_base_263 : decode cX12_base 263 = .ok (.iload_n 2, 1) := by decide +kernel
theorem dX12_base_264 : decode cX12_base 264 = .ok (.aload_n 0, 1) := by decide +kernel
theorem dX12_base_265 : decode cX12_base 265 = .ok (.getfield 19, 3) := by decide +kernel
theorem dX12_base_268 : decode cX12_base 268 = .ok (.iconst 0, 1) := by decide +kernel
theorem dX12_base_269 : decode cX12_base 269 = .ok (.baload, 1) := by decide +kernel
theorem dX12_base_270 : decode cX12_base 270 = .ok (.ifCond .ne 7, 3) := by decide +kernel
theorem dX12_base_273 : decode cX12_base 273 = .ok (.iconst 0, 1) := by decide +kernel
theorem dX12_base_274 : decode cX12_base 274 = .ok (.goto 25, 3) := by decide +kernel
theorem dX12_base_277 : decode cX12_base 277 = .ok (.iload 5, 2) := by decide +kernel
theorem dX12_base_279 : decode cX12_base 279 = .ok (.sipush (-200), 3) := by decide +kernel
theorem dX12_base_282 : decode cX12_base 282 = .ok (.if_icmp .le 11, 3) := by decide +kernel
theorem dX12_base_285 : decode cX12_base 285 = .ok (.bipush (-10), 2) := by decide +kernel
theorem dX12_base_287 : decode cX12_base 287 = .ok (.iload 5, 2) := by decide +kernel
theorem dX12_base_289 : decode cX12_base 289 = .ok (.isub, 1) := by decide +kernel
theorem dX12_base_290 : decode cX12_base 290 = .ok (.goto 9, 3) := by decide +kernel
theorem dX12_base_293 : decode cX12_base 293 = .ok (.iload 5, 2) := by decide +kernel
theorem dX12_base_295 : decode cX12_base 295 = .ok (.sipush (-200), 3) := by decide +kernel
theorem dX12_base_298 : decode cX12_base 298 = .ok (.isub, 1) := by decide +kernel
theorem dX12_base_299 : decode cX12_base 299 = .ok (.iadd, 1) := by decide +kernel
theorem dX12_base_300 : decode cX12_base 300 = .ok (.istore_n 2, 1) := by decide +kernel
theorem dX12_base_301 : decode cX12_base 301 = .ok (.iinc 4 1, 3) := by decide +kernel
theorem dX12_base_304 : decode cX12_base 304 = .ok (.goto (-289), 3) := by decide +kernel
theorem dX12_base_307 : decode cX12_base 307 = .ok (.iload_n 2, 1) := by decide +kernel
theorem dX12_base_308 : decode cX12_base 308 = .ok (.iconst 1, 1) := by decide +kernel
theorem dX12_base_309 : decode cX12_base 309 = .ok (.if_icmp .ge 7, 3) := by decide +kernel
theorem dX12_base_312 : decode cX12_base 312 = .ok (.iconst 1, 1) := by decide +kernel
theorem dX12_base_313 : decode cX12_base 313 = .ok (.goto 4, 3) := by decide +kernel
theorem dX12_base_316 : decode cX12_base 316 = .ok (.iload_n 2, 1) := by decide +kernel
theorem dX12_base_317 : decode cX12_base 317 = .ok (.ireturn, 1) := by decide +kernel
theorem dX12_baseOf_0 : decode cX12_baseOf 0 = .ok (.aload_n 0, 1) := by decide +kernel
theorem dX12_baseOf_1 : decode cX12_baseOf 1 = .ok (.getfield 16, 3) := by decide +kernel
theorem dX12_baseOf_4 : decode cX12_baseOf 4 = .ok (.iconst 0, 1) := by decide +kernel
theorem dX12_baseOf_5 : decode cX12_baseOf 5 = .ok (.iload_n 3, 1) := by decide +kernel
theorem dX12_baseOf_6 : decode cX12_baseOf 6 = .ok (.iastore, 1) := by decide +kernel
theorem dX12_baseOf_7 : decode cX12_baseOf 7 = .ok (.aload_n 0, 1) := by decide +kernel
theorem dX12_baseOf_8 : decode cX12_baseOf 8 = .ok (.getfield 16, 3) := by decide +kernel
theorem dX12_baseOf_11 : decode cX12_baseOf 11 = .ok (.iconst 1, 1) := by decide +kernel
theorem dX12_baseOf_12 : decode cX12_baseOf 12 = .ok (.iload 4, 2) := by decide +kernel
theorem dX12_baseOf_14 : decode cX12_baseOf 14 = .ok (.iastore, 1) := by decide +kernel
theorem dX12_baseOf_15 : decode cX12_baseOf 15 = .ok (.aload_n 0, 1) := by decide +kernel
theorem dX12_baseOf_16 : decode cX12_baseOf 16 = .ok (.getfield 16, 3) := by decide +kernel
theorem dX12_baseOf_19 : decode cX12_baseOf 19 = .ok (.iconst 2, 1) := by decide +kernel
theorem dX12_baseOf_20 : decode cX12_baseOf 20 = .ok (.iload 5, 2) := by decide +kernel
theorem dX12_baseOf_22 : decode cX12_baseOf 22 = .ok (.iastore, 1) := by decide +kernel
theorem dX12_baseOf_23 : decode cX12_baseOf 23 = .ok (.aload_n 0, 1) := by decide +kernel
theorem dX12_baseOf_24 : decode cX12_baseOf 24 = .ok (.getfield 16, 3) := by decide +kernel
theorem dX12_baseOf_27 : decode cX12_baseOf 27 = .ok (.iconst 3, 1) := by decide +kernel
theorem dX12_baseOf_28 : decode cX12_baseOf 28 = .ok (.aload_n 0, 1) := by decide +kernel
theorem dX12_baseOf_29 : decode cX12_baseOf 29 = .ok (.getfield 7, 3) := by decide +kernel
theorem dX12_baseOf_32 : decode cX12_baseOf 32 = .ok (.sipush 130, 3) := by decide +kernel
theorem dX12_baseOf_35 : decode cX12_baseOf 35 = .ok (.iload_n 2, 1) := by decide +kernel
theorem dX12_baseOf_36 : decode cX12_baseOf 36 = .ok (.iadd, 1) := by decide +kernel
theorem dX12_baseOf_37 : decode cX12_baseOf 37 = .ok (.iaload, 1) := by decide +kernel
theorem dX12_baseOf_38 : decode cX12_baseOf 38 = .ok (.iastore, 1) := by decide +kernel
theorem dX12_baseOf_39 : decode cX12_baseOf 39 = .ok (.aload_n 0, 1) := by decide +kernel
theorem dX12_baseOf_40 : decode cX12_baseOf 40 = .ok (.getfield 16, 3) := by decide +kernel
theorem dX12_baseOf_43 : decode cX12_baseOf 43 = .ok (.iconst 4, 1) := by decide +kernel
theorem dX12_baseOf_44 : decode cX12_baseOf 44 = .ok (.aload_n 0, 1) := by decide +kernel
theorem dX12_baseOf_45 : decode cX12_baseOf 45 = .ok (.getfield 7, 3) := by decide +kernel
theorem dX12_baseOf_48 : decode cX12_baseOf 48 = .ok (.sipush 135, 3) := by decide +kernel
theorem dX12_baseOf_51 : decode cX12_baseOf 51 = .ok (.iload_n 2, 1) := by decide +kernel
theorem dX12_baseOf_52 : decode cX12_baseOf 52 = .ok (.iadd, 1) := by decide +kernel
theorem dX12_baseOf_53 : decode cX12_baseOf 53 = .ok (.iaload, 1) := by decide +kernel
theorem dX12_baseOf_54 : decode cX12_baseOf 54 = .ok (.iastore, 1) := by decide +kernel
theorem dX12_baseOf_55 : decode cX12_baseOf 55 = .ok (.aload_n 0, 1) := by decide +kernel
theorem dX12_baseOf_56 : decode cX12_baseOf 56 = .ok (.iload_n 1, 1) := by decide +kernel
theorem dX12_baseOf_57 : decode cX12_baseOf 57 = .ok (.invokevirtual 151, 3) := by decide +kernel
theorem dX12_baseOf_60 : decode cX12_baseOf 60 = .ok (.ireturn, 1) := by decide +kernel
theorem dX12_turnsAs_0 : decode cX12_turnsAs 0 = .ok (.aload_n 0, 1) := by decide +kernel
theorem dX12_turnsAs_1 : decode cX12_turnsAs 1 = .ok (.iload_n 1, 1) := by decide +kernel
theorem dX12_turnsAs_2 : decode cX12_turnsAs 2 = .ok (.iload_n 2, 1) := by decide +kernel
theorem dX12_turnsAs_3 : decode cX12_turnsAs 3 = .ok (.iload_n 3, 1) := by decide +kernel
theorem dX12_turnsAs_4 : decode cX12_turnsAs 4 = .ok (.iload 4, 2) := by decide +kernel
theorem dX12_turnsAs_6 : decode cX12_turnsAs 6 = .ok (.iload 5, 2) := by decide +kernel
theorem dX12_turnsAs_8 : decode cX12_turnsAs 8 = .ok (.invokevirtual 155, 3) := by decide +kernel
theorem dX12_turnsAs_11 : decode cX12_turnsAs 11 = .ok (.istore 8, 2) := by decide +kernel
theorem dX12_turnsAs_13 : decode cX12_turnsAs 13 = .ok (.aload_n 0, 1) := by decide +kernel
theorem dX12_turnsAs_14 : decode cX12_turnsAs 14 = .ok (.getfield 7, 3) := by decide +kernel
theorem dX12_turnsAs_17 : decode cX12_turnsAs 17 = .ok (.sipush 148, 3) := by decide +kernel
theorem dX12_turnsAs_20 : decode cX12_turnsAs 20 = .ok (.iload_n 1, 1) := by decide +kernel
theorem dX12_turnsAs_21 : decode cX12_turnsAs 21 = .ok (.iadd, 1) := by decide +kernel
theorem dX12_turnsAs_22 : decode cX12_turnsAs 22 = .ok (.iaload, 1) := by decide +kernel
theorem dX12_turnsAs_23 : decode cX12_turnsAs 23 = .ok (.istore 9, 2) := by decide +kernel
theorem dX12_turnsAs_25 : decode cX12_turnsAs 25 = .ok (.iload 8, 2) := by decide +kernel
theorem dX12_turnsAs_27 : decode cX12_turnsAs 27 = .ok (.aload_n 0, 1) := by decide +kernel
theorem dX12_turnsAs_28 : decode cX12_turnsAs 28 = .ok (.getfield 7, 3) := by decide +kernel
theorem dX12_turnsAs_31 : decode cX12_turnsAs 31 = .ok (.sipush 135, 3) := by decide +kernel
theorem dX12_turnsAs_34 : decode cX12_turnsAs 34 = .ok (.iload_n 2, 1) := by decide +kernel
theorem dX12_turnsAs_35 : decode cX12_turnsAs 35 = .ok (.iadd, 1) := by decide +kernel
theorem dX12_turnsAs_36 : decode cX12_turnsAs 36 = .ok (.iaload, 1) := by decide +kernel
theorem dX12_turnsAs_37 : decode cX12_turnsAs 37 = .ok (.iload 9, 2) := by decide +kernel
theorem dX12_turnsAs_39 : decode cX12_turnsAs 39 = .ok (.imul, 1) := by decide +kernel
theorem dX12_turnsAs_40 : decode cX12_turnsAs 40 = .ok (.iload 7, 2) := by decide +kernel
theorem dX12_turnsAs_42 : decode cX12_turnsAs 42 = .ok (.idiv, 1) := by decide +kernel
theorem dX12_turnsAs_43 : decode cX12_turnsAs 43 = .ok (.iadd, 1) := by decide +kernel
theorem dX12_turnsAs_44 : decode cX12_turnsAs 44 = .ok (.istore 10, 2) := by decide +kernel
theorem dX12_turnsAs_46 : decode cX12_turnsAs 46 = .ok (.iload 8, 2) := by decide +kernel
theorem dX12_turnsAs_48 : decode cX12_turnsAs 48 = .ok (.iload_n 3, 1) := by decide +kernel
theorem dX12_turnsAs_49 : decode cX12_turnsAs 49 = .ok (.iload 4, 2) := by decide +kernel
theorem dX12_turnsAs_51 : decode cX12_turnsAs 51 = .ok (.imul, 1) := by decide +kernel
theorem dX12_turnsAs_52 : decode cX12_turnsAs 52 = .ok (.bipush 10, 2) := by decide +kernel
theorem dX12_turnsAs_54 : decode cX12_turnsAs 54 = .ok (.aload_n 0, 1) := by decide +kernel
theorem dX12_turnsAs_55 : decode cX12_turnsAs 55 = .ok (.getfield 7, 3) := by decide +kernel
theorem dX12_turnsAs_58 : decode cX12_turnsAs 58 = .ok (.sipush 130, 3) := by decide +kernel
theorem dX12_turnsAs_61 : decode cX12_turnsAs 61 = .ok (.iload_n 2, 1) := by decide +kernel
theorem dX12_turnsAs_62 : decode cX12_turnsAs 62 = .ok (.iadd, 1) := by decide +kernel
theorem dX12_turnsAs_63 : decode cX12_turnsAs 63 = .ok (.iaload, 1) := by decide +kernel
theorem dX12_turnsAs_64 : decode cX12_turnsAs 64 = .ok (.imul, 1) := by decide +kernel
theorem dX12_turnsAs_65 : decode cX12_turnsAs 65 = .ok (.idiv, 1) := by decide +kernel
theorem dX12_turnsAs_66 : decode cX12_turnsAs 66 = .ok (.iadd, 1) := by decide +kernel
theorem dX12_turnsAs_67 : decode cX12_turnsAs 67 = .ok (.istore 11, 2) := by decide +kernel
theorem dX12_turnsAs_69 : decode cX12_turnsAs 69 = .ok (.iload 8, 2) := by decide +kernel
theorem dX12_turnsAs_71 : decode cX12_turnsAs 71 = .ok (.istore 12, 2) := by decide +kernel
theorem dX12_turnsAs_73 : decode cX12_turnsAs 73 = .ok (.aload_n 0, 1) := by decide +kernel
theorem dX12_turnsAs_74 : decode cX12_turnsAs 74 = .ok (.getfield 7, 3) := by decide +kernel
theorem dX12_turnsAs_77 : decode cX12_turnsAs 77 = .ok (.sipush 140, 3) := by decide +kernel
theorem dX12_turnsAs_80 : decode cX12_turnsAs 80 = .ok (.iload_n 1, 1) := by decide +kernel
theorem dX12_turnsAs_81 : decode cX12_turnsAs 81 = .ok (.iadd, 1) := by decide +kernel
theorem dX12_turnsAs_82 : decode cX12_turnsAs 82 = .ok (.iaload, 1) := by decide +kernel
theorem dX12_turnsAs_83 : decode cX12_turnsAs 83 = .ok (.tableswitch 116 1 6 #[37, 52, 59, 66, 52, 85], 37) := by decide +kernel
theorem dX12_turnsAs_120 : decode cX12_turnsAs 120 = .ok (.iload 8, 2) := by decide +kernel
theorem dX12_turnsAs_122 : decode cX12_turnsAs 122 = .ok (.iload 9, 2) := by decide +kernel
theorem dX12_turnsAs_124 : decode cX12_turnsAs 124 = .ok (.iload 4, 2) := by decide +kernel
theorem dX12_turnsAs_126 : decode cX12_turnsAs 126 = .ok (.imul, 1) := by decide +kernel
theorem dX12_turnsAs_127 : decode cX12_turnsAs 127 = .ok (.iload_n 3, 1) := by decide +kernel
theorem dX12_turnsAs_128 : decode cX12_turnsAs 128 = .ok (.idiv, 1) := by decide +kernel
theorem dX12_turnsAs_129 : decode cX12_turnsAs 129 = .ok (.iadd, 1) := by decide +kernel
theorem dX12_turnsAs_130 : decode cX12_turnsAs 130 = .ok (.istore 12, 2) := by decide +kernel
theorem dX12_turnsAs_132 : decode cX12_turnsAs 132 = .ok (.goto 67, 3) := by decide +kernel
theorem dX12_turnsAs_135 : decode cX12_turnsAs 135 = .ok (.iload 10, 2) := by decide +kernel
theorem dX12_turnsAs_137 : decode cX12_turnsAs 137 = .ok (.istore 12, 2) := by decide +kernel
theorem dX12_turnsAs_139 : decode cX12_turnsAs 139 = .ok (.goto 60, 3) := by decide +kernel
theorem dX12_turnsAs_142 : decode cX12_turnsAs 142 = .ok (.iload 11, 2) := by decide +kernel
theorem dX12_turnsAs_144 : decode cX12_turnsAs 144 = .ok (.istore 12, 2) := by decide +kernel
theorem dX12_turnsAs_146 : decode cX12_turnsAs 146 = .ok (.goto 53, 3) := by decide +kernel
theorem dX12_turnsAs_149 : decode cX12_turnsAs 149 = .ok (.iload 10, 2) := by decide +kernel
theorem dX12_turnsAs_151 : decode cX12_turnsAs 151 = .ok (.iload 6, 2) := by decide +kernel
theorem dX12_turnsAs_153 : decode cX12_turnsAs 153 = .ok (.ifCond .eq 8, 3) := by decide +kernel
theorem dX12_turnsAs_156 : decode cX12_turnsAs 156 = .ok (.iload 9, 2) := by decide +kernel
theorem dX12_turnsAs_158 : decode cX12_turnsAs 158 = .ok (.goto 4, 3) := by decide +kernel
theorem dX12_turnsAs_161 : decode cX12_turnsAs 161 = .ok (.iconst 0, 1) := by decide +kernel
theorem dX12_turnsAs_162 : decode cX12_turnsAs 162 = .ok (.iadd, 1) := by decide +kernel
theorem dX12_turnsAs_163 : decode cX12_turnsAs 163 = .ok (.istore 12, 2) := by decide +kernel
theorem dX12_turnsAs_165 : decode cX12_turnsAs 165 = .ok (.goto 34, 3) := by decide +kernel
theorem dX12_turnsAs_168 : decode cX12_turnsAs 168 = .ok (.iload 11, 2) := by decide +kernel
theorem dX12_turnsAs_170 : decode cX12_turnsAs 170 = .ok (.iload 8, 2) := by decide +kernel
theorem dX12_turnsAs_172 : decode cX12_turnsAs 172 = .ok (.bipush 9, 2) := by decide +kernel
theorem dX12_turnsAs_174 : decode cX12_turnsAs 174 = .ok (.iload 9, 2) := by decide +kernel
theorem dX12_turnsAs_176 : decode cX12_turnsAs 176 = .ok (.imul, 1) := by decide +kernel
theorem dX12_turnsAs_177 : decode cX12_turnsAs 177 = .ok (.iadd, 1) := by decide +kernel
theorem dX12_turnsAs_178 : decode cX12_turnsAs 178 = .ok (.if_icmp .le 14, 3) := by decide +kernel
theorem dX12_turnsAs_181 : decode cX12_turnsAs 181 = .ok (.iload 8, 2) := by decide +kernel
theorem dX12_turnsAs_183 : decode cX12_turnsAs 183 = .ok (.bipush 9, 2) := by decide +kernel
theorem dX12_turnsAs_185 : decode cX12_turnsAs 185 = .ok (.iload 9, 2) := by decide +kernel
theorem dX12_turnsAs_187 : decode cX12_turnsAs 187 = .ok (.imul, 1) := by decide +kernel
theorem dX12_turnsAs_188 : decode cX12_turnsAs 188 = .ok (.iadd, 1) := by decide +kernel
theorem dX12_turnsAs_189 : decode cX12_turnsAs 189 = .ok (.goto 5, 3) := by decide +kernel
theorem dX12_turnsAs_192 : decode cX12_turnsAs 192 = .ok (.iload 11, 2) := by decide +kernel
theorem dX12_turnsAs_194 : decode cX12_turnsAs 194 = .ok (.istore 12, 2) := by decide +kernel
theorem dX12_turnsAs_196 : decode cX12_turnsAs 196 = .ok (.goto 3, 3) := by decide +kernel
theorem dX12_turnsAs_199 : decode cX12_turnsAs 199 = .ok (.iload 12, 2) := by decide +kernel
theorem dX12_turnsAs_201 : decode cX12_turnsAs 201 = .ok (.sipush 999, 3) := by decide +kernel
theorem dX12_turnsAs_204 : decode cX12_turnsAs 204 = .ok (.if_icmp .le 9, 3) := by decide +kernel
theorem dX12_turnsAs_207 : decode cX12_turnsAs 207 = .ok (.sipush 999, 3) := by decide +kernel
theorem dX12_turnsAs_210 : decode cX12_turnsAs 210 = .ok (.goto 5, 3) := by decide +kernel
theorem dX12_turnsAs_213 : decode cX12_turnsAs 213 = .ok (.iload 12, 2) := by decide +kernel
theorem dX12_turnsAs_215 : decode cX12_turnsAs 215 = .ok (.ireturn, 1) := by decide +kernel
theorem dX12_turnsOf_0 : decode cX12_turnsOf 0 = .ok (.aload_n 0, 1) := by decide +kernel
theorem dX12_turnsOf_1 : decode cX12_turnsOf 1 = .ok (.iload_n 1, 1) := by decide +kernel
theorem dX12_turnsOf_2 : decode cX12_turnsOf 2 = .ok (.iload_n 2, 1) := by decide +kernel
theorem dX12_turnsOf_3 : decode cX12_turnsOf 3 = .ok (.iload_n 3, 1) := by decide +kernel
theorem dX12_turnsOf_4 : decode cX12_turnsOf 4 = .ok (.iload 4, 2) := by decide +kernel
theorem dX12_turnsOf_6 : decode cX12_turnsOf 6 = .ok (.iload 5, 2) := by decide +kernel
theorem dX12_turnsOf_8 : decode cX12_turnsOf 8 = .ok (.iload_n 3, 1) := by decide +kernel
theorem dX12_turnsOf_9 : decode cX12_turnsOf 9 = .ok (.bipush 10, 2) := by decide +kernel
theorem dX12_turnsOf_11 : decode cX12_turnsOf 11 = .ok (.aload_n 0, 1) := by decide +kernel
theorem dX12_turnsOf_12 : decode cX12_turnsOf 12 = .ok (.getfield 7, 3) := by decide +kernel
theorem dX12_turnsOf_15 : decode cX12_turnsOf 15 = .ok (.sipush 148, 3) := by decide +kernel
theorem dX12_turnsOf_18 : decode cX12_turnsOf 18 = .ok (.iload_n 1, 1) := by decide +kernel
theorem dX12_turnsOf_19 : decode cX12_turnsOf 19 = .ok (.iadd, 1) := by decide +kernel
theorem dX12_turnsOf_20 : decode cX12_turnsOf 20 = .ok (.iaload, 1) := by decide +kernel
theorem dX12_turnsOf_21 : decode cX12_turnsOf 21 = .ok (.imul, 1) := by decide +kernel
theorem dX12_turnsOf_22 : decode cX12_turnsOf 22 = .ok (.if_icmp .le 7, 3) := by decide +kernel
theorem dX12_turnsOf_25 : decode cX12_turnsOf 25 = .ok (.iconst 1, 1) := by decide +kernel
theorem dX12_turnsOf_26 : decode cX12_turnsOf 26 = .ok (.goto 4, 3) := by decide +kernel
theorem dX12_turnsOf_29 : decode cX12_turnsOf 29 = .ok (.iconst 0, 1) := by decide +kernel
theorem dX12_turnsOf_30 : decode cX12_turnsOf 30 = .ok (.aload_n 0, 1) := by decide +kernel
theorem dX12_turnsOf_31 : decode cX12_turnsOf 31 = .ok (.getfield 7, 3) := by decide +kernel
theorem dX12_turnsOf_34 : decode cX12_turnsOf 34 = .ok (.sipush 130, 3) := by decide +kernel
theorem dX12_turnsOf_37 : decode cX12_turnsOf 37 = .ok (.iload_n 2, 1) := by decide +kernel
theorem dX12_turnsOf_38 : decode cX12_turnsOf 38 = .ok (.iadd, 1) := by decide +kernel
theorem dX12_turnsOf_39 : decode cX12_turnsOf 39 = .ok (.iaload, 1) := by decide +kernel
theorem dX12_turnsOf_40 : decode cX12_turnsOf 40 = .ok (.invokevirtual 159, 3) := by decide +kernel
theorem dX12_turnsOf_43 : decode cX12_turnsOf 43 = .ok (.ireturn, 1) := by decide +kernel
theorem dX12_formBy_0 : decode cX12_formBy 0 = .ok (.bipush 10, 2) := by decide +kernel
theorem dX12_formBy_2 : decode cX12_formBy 2 = .ok (.iload_n 2, 1) := by decide +kernel
theorem dX12_formBy_3 : decode cX12_formBy 3 = .ok (.imul, 1) := by decide +kernel
theorem dX12_formBy_4 : decode cX12_formBy 4 = .ok (.iload_n 3, 1) := by decide +kernel
theorem dX12_formBy_5 : decode cX12_formBy 5 = .ok (.idiv, 1) := by decide +kernel
theorem dX12_formBy_6 : decode cX12_formBy 6 = .ok (.istore 4, 2) := by decide +kernel
theorem dX12_formBy_8 : decode cX12_formBy 8 = .ok (.iconst 0, 1) := by decide +kernel
theorem dX12_formBy_9 : decode cX12_formBy 9 = .ok (.istore 5, 2) := by decide +kernel
theorem dX12_formBy_11 : decode cX12_formBy 11 = .ok (.iload 5, 2) := by decide +kernel
theorem dX12_formBy_13 : decode cX12_formBy 13 = .ok (.iconst 4, 1) := by decide +kernel
theorem dX12_formBy_14 : decode cX12_formBy 14 = .ok (.if_icmp .ge 29, 3) := by decide +kernel
theorem dX12_formBy_17 : decode cX12_formBy 17 = .ok (.iload 4, 2) := by decide +kernel
theorem dX12_formBy_19 : decode cX12_formBy 19 = .ok (.aload_n 0, 1) := by decide +kernel
theorem dX12_formBy_20 : decode cX12_formBy 20 = .ok (.getfield 7, 3) := by decide +kernel
theorem dX12_formBy_23 : decode cX12_formBy 23 = .ok (.sipush 172, 3) := by decide +kernel
theorem dX12_formBy_26 : decode cX12_formBy 26 = .ok (.iconst 4, 1) := by decide +kernel
theorem dX12_formBy_27 : decode cX12_formBy 27 = .ok (.iload_n 1, 1) := by decide +kernel
theorem dX12_formBy_28 : decode cX12_formBy 28 = .ok (.imul, 1) := by decide +kernel
theorem dX12_formBy_29 : decode cX12_formBy 29 = .ok (.iadd, 1) := by decide +kernel
theorem dX12_formBy_30 : decode cX12_formBy 30 = .ok (.iload 5, 2) := by decide +kernel
theorem dX12_formBy_32 : decode cX12_formBy 32 = .ok (.iadd, 1) := by decide +kernel
theorem dX12_formBy_33 : decode cX12_formBy 33 = .ok (.iaload, 1) := by decide +kernel
theorem dX12_formBy_34 : decode cX12_formBy 34 = .ok (.if_icmp .lt 9, 3) := by decide +kernel
theorem dX12_formBy_37 : decode cX12_formBy 37 = .ok (.iinc 5 1, 3) := by decide +kernel
theorem dX12_formBy_40 : decode cX12_formBy 40 = .ok (.goto (-29), 3) := by decide +kernel
theorem dX12_formBy_43 : decode cX12_formBy 43 = .ok (.iload 5, 2) := by decide +kernel
theorem dX12_formBy_45 : decode cX12_formBy 45 = .ok (.ireturn, 1) := by decide +kernel
theorem dX12_formOf_0 : decode cX12_formOf 0 = .ok (.aload_n 0, 1) := by decide +kernel
theorem dX12_formOf_1 : decode cX12_formOf 1 = .ok (.iload_n 1, 1) := by decide +kernel
theorem dX12_formOf_2 : decode cX12_formOf 2 = .ok (.iload 5, 2) := by decide +kernel
theorem dX12_formOf_4 : decode cX12_formOf 4 = .ok (.aload_n 0, 1) := by decide +kernel
theorem dX12_formOf_5 : decode cX12_formOf 5 = .ok (.iload_n 1, 1) := by decide +kernel
theorem dX12_formOf_6 : decode cX12_formOf 6 = .ok (.iload_n 2, 1) := by decide +kernel
theorem dX12_formOf_7 : decode cX12_formOf 7 = .ok (.iload_n 3, 1) := by decide +kernel
theorem dX12_formOf_8 : decode cX12_formOf 8 = .ok (.iload 4, 2) := by decide +kernel
theorem dX12_formOf_10 : decode cX12_formOf 10 = .ok (.iload 5, 2) := by decide +kernel
theorem dX12_formOf_12 : decode cX12_formOf 12 = .ok (.invokevirtual 163, 3) := by decide +kernel
theorem dX12_formOf_15 : decode cX12_formOf 15 = .ok (.invokevirtual 166, 3) := by decide +kernel
theorem dX12_formOf_18 : decode cX12_formOf 18 = .ok (.ireturn, 1) := by decide +kernel
theorem dX12_winds_0 : decode cX12_winds 0 = .ok (.aload_n 0, 1) := by decide +kernel
theorem dX12_winds_1 : decode cX12_winds 1 = .ok (.iload_n 1, 1) := by decide +kernel
theorem dX12_winds_2 : decode cX12_winds 2 = .ok (.invokevirtual 148, 3) := by decide +kernel
theorem dX12_winds_5 : decode cX12_winds 5 = .ok (.ifCond .eq 21, 3) := by decide +kernel
theorem dX12_winds_8 : decode cX12_winds 8 = .ok (.aload_n 0, 1) := by decide +kernel
theorem dX12_winds_9 : decode cX12_winds 9 = .ok (.iload_n 2, 1) := by decide +kernel
theorem dX12_winds_10 : decode cX12_winds 10 = .ok (.invokevirtual 59, 3) := by decide +kernel
theorem dX12_winds_13 : decode cX12_winds 13 = .ok (.ifCond .eq 13, 3) := by decide +kernel
theorem dX12_winds_16 : decode cX12_winds 16 = .ok (.iload 4, 2) := by decide +kernel
theorem dX12_winds_18 : decode cX12_winds 18 = .ok (.iconst 0, 1) := by decide +kernel
theorem dX12_winds_19 : decode cX12_winds 19 = .ok (.iconst 2, 1) := by decide +kernel
theorem dX12_winds_20 : decode cX12_winds 20 = .ok (.invokestatic 54, 3) := by decide +kernel
theorem dX12_winds_23 : decode cX12_winds 23 = .ok (.ifCond .ne 5, 3) := by decide +kernel
theorem dX12_winds_26 : decode cX12_winds 26 = .ok (.iconst (-1), 1) := by decide +kernel
theorem dX12_winds_27 : decode cX12_winds 27 = .ok (.ireturn, 1) := by decide +kernel
theorem dX12_winds_28 : decode cX12_winds 28 = .ok (.iload_n 3, 1) := by decide +kernel
theorem dX12_winds_29 : decode cX12_winds 29 = .ok (.invokestatic 170, 3) := by decide +kernel
theorem dX12_winds_32 : decode cX12_winds 32 = .ok (.ifCond .ne 6, 3) := by decide +kernel
theorem dX12_winds_35 : decode cX12_winds 35 = .ok (.bipush (-2), 2) := by decide +kernel
theorem dX12_winds_37 : decode cX12_winds 37 = .ok (.ireturn, 1) := by decide +kernel
theorem dX12_winds_38 : decode cX12_winds 38 = .ok (.iload_n 3, 1) := by decide +kernel
theorem dX12_winds_39 : decode cX12_winds 39 = .ok (.sipush 10000, 3) := by decide +kernel
theorem dX12_winds_42 : decode cX12_winds 42 = .ok (.idiv, 1) := by decide +kernel
theorem dX12_winds_43 : decode cX12_winds 43 = .ok (.istore 5, 2) := by decide +kernel
theorem dX12_winds_45 : decode cX12_winds 45 = .ok (.iload_n 3, 1) := by decide +kernel
theorem dX12_winds_46 : decode cX12_winds 46 = .ok (.bipush 100, 2) := by decide +kernel
theorem dX12_winds_48 : decode cX12_winds 48 = .ok (.idiv, 1) := by decide +kernel
theorem dX12_winds_49 : decode cX12_winds 49 = .ok (.bipush 100, 2) := by decide +kernel
theorem dX12_winds_51 : decode cX12_winds 51 = .ok (.irem, 1) := by decide +kernel
theorem dX12_winds_52 : decode cX12_winds 52 = .ok (.istore 6, 2) := by decide +kernel
theorem dX12_winds_54 : decode cX12_winds 54 = .ok (.iload_n 3, 1) := by decide +kernel
theorem dX12_winds_55 : decode cX12_winds 55 = .ok (.bipush 100, 2) := by decide +kernel
theorem dX12_winds_57 : decode cX12_winds 57 = .ok (.irem, 1) := by decide +kernel
theorem dX12_winds_58 : decode cX12_winds 58 = .ok (.istore 7, 2) := by decide +kernel
theorem dX12_winds_60 : decode cX12_winds 60 = .ok (.iload 4, 2) := by decide +kernel
theorem dX12_winds_62 : decode cX12_winds 62 = .ok (.ifCond .ne 18, 3) := by decide +kernel
theorem dX12_winds_65 : decode cX12_winds 65 = .ok (.aload_n 0, 1) := by decide +kernel
theorem dX12_winds_66 : decode cX12_winds 66 = .ok (.iload_n 1, 1) := by decide +kernel
theorem dX12_winds_67 : decode cX12_winds 67 = .ok (.iload_n 2, 1) := by decide +kernel
theorem dX12_winds_68 : decode cX12_winds 68 = .ok (.iload 5, 2) := by decide +kernel
theorem dX12_winds_70 : decode cX12_winds 70 = .ok (.iload 6, 2) := by decide +kernel
theorem dX12_winds_72 : decode cX12_winds 72 = .ok (.iload 7, 2) := by decide +kernel
theorem dX12_winds_74 : decode cX12_winds 74 = .ok (.invokevirtual 155, 3) := by decide +kernel
theorem dX12_winds_77 : decode cX12_winds 77 = .ok (.goto 36, 3) := by decide +kernel
theorem dX12_winds_80 : decode cX12_winds 80 = .ok (.iload 4, 2) := by decide +kernel
theorem dX12_winds_82 : decode cX12_winds 82 = .ok (.iconst 1, 1) := by decide +kernel
theorem dX12_winds_83 : decode cX12_winds 83 = .ok (.if_icmp .ne 18, 3) := by decide +kernel
theorem dX12_winds_86 : decode cX12_winds 86 = .ok (.aload_n 0, 1) := by decide +kernel
theorem dX12_winds_87 : decode cX12_winds 87 = .ok (.iload_n 1, 1) := by decide +kernel
theorem dX12_winds_88 : decode cX12_winds 88 = .ok (.iload_n 2, 1) := by decide +kernel
theorem dX12_winds_89 : decode cX12_winds 89 = .ok (.iload 5, 2) := by decide +kernel
theorem dX12_winds_91 : decode cX12_winds 91 = .ok (.iload 6, 2) := by decide +kernel
theorem dX12_winds_93 : decode cX12_winds 93 = .ok (.iload 7, 2) := by decide +kernel
theorem dX12_winds_95 : decode cX12_winds 95 = .ok (.invokevirtual 163, 3) := by decide +kernel
theorem dX12_winds_98 : decode cX12_winds 98 = .ok (.goto 15, 3) := by decide +kernel
theorem dX12_winds_101 : decode cX12_winds 101 = .ok (.aload_n 0, 1) := by decide +kernel
theorem dX12_winds_102 : decode cX12_winds 102 = .ok (.iload_n 1, 1) := by decide +kernel
theorem dX12_winds_103 : decode cX12_winds 103 = .ok (.iload_n 2, 1) := by decide +kernel
theorem dX12_winds_104 : decode cX12_winds 104 = .ok (.iload 5, 2) := by decide +kernel
theorem dX12_winds_106 : decode cX12_winds 106 = .ok (.iload 6, 2) := by decide +kernel
theorem dX12_winds_108 : decode cX12_winds 108 = .ok (.iload 7, 2) := by decide +kernel
theorem dX12_winds_110 : decode cX12_winds 110 = .ok (.invokevirtual 173, 3) := by decide +kernel
theorem dX12_winds_113 : decode cX12_winds 113 = .ok (.ireturn, 1) := by decide +kernel
theorem dX12_tick_0 : decode cX12_tick 0 = .ok (.iload_n 1, 1) := by decide +kernel
theorem dX12_tick_1 : decode cX12_tick 1 = .ok (.iconst (-1), 1) := by decide +kernel
theorem dX12_tick_2 : decode cX12_tick 2 = .ok (.if_icmp .ne 12, 3) := by decide +kernel
theorem dX12_tick_5 : decode cX12_tick 5 = .ok (.aload_n 0, 1) := by decide +kernel
theorem dX12_tick_6 : decode cX12_tick 6 = .ok (.getfield 7, 3) := by decide +kernel
theorem dX12_tick_9 : decode cX12_tick 9 = .ok (.iconst 3, 1) := by decide +kernel
theorem dX12_tick_10 : decode cX12_tick 10 = .ok (.iconst 0, 1) := by decide +kernel
theorem dX12_tick_11 : decode cX12_tick 11 = .ok (.iastore, 1) := by decide +kernel
theorem dX12_tick_12 : decode cX12_tick 12 = .ok (.iconst 0, 1) := by decide +kernel
theorem dX12_tick_13 : decode cX12_tick 13 = .ok (.ireturn, 1) := by decide +kernel
theorem dX12_tick_14 : decode cX12_tick 14 = .ok (.iload_n 1, 1) := by decide +kernel
theorem dX12_tick_15 : decode cX12_tick 15 = .ok (.invokestatic 170, 3) := by decide +kernel
theorem dX12_tick_18 : decode cX12_tick 18 = .ok (.ifCond .ne 6, 3) := by decide +kernel
theorem dX12_tick_21 : decode cX12_tick 21 = .ok (.bipush (-2), 2) := by decide +kernel
theorem dX12_tick_23 : decode cX12_tick 23 = .ok (.ireturn, 1) := by decide +kernel
theorem dX12_tick_24 : decode cX12_tick 24 = .ok (.aload_n 0, 1) := by decide +kernel
theorem dX12_tick_25 : decode cX12_tick 25 = .ok (.getfield 7, 3) := by decide +kernel
theorem dX12_tick_28 : decode cX12_tick 28 = .ok (.iconst 3, 1) := by decide +kernel
theorem dX12_tick_29 : decode cX12_tick 29 = .ok (.iaload, 1) := by decide +kernel
theorem dX12_tick_30 : decode cX12_tick 30 = .ok (.bipush 20, 2) := by decide +kernel
theorem dX12_tick_32 : decode cX12_tick 32 = .ok (.if_icmp .ne 6, 3) := by decide +kernel
theorem dX12_tick_35 : decode cX12_tick 35 = .ok (.bipush (-4), 2) := by decide +kernel
theorem dX12_tick_37 : decode cX12_tick 37 = .ok (.ireturn, 1) := by decide +kernel
theorem dX12_tick_38 : decode cX12_tick 38 = .ok (.aload_n 0, 1) := by decide +kernel
theorem dX12_tick_39 : decode cX12_tick 39 = .ok (.getfield 7, 3) := by decide +kernel
theorem dX12_tick_42 : decode cX12_tick 42 = .ok (.sipush 1332, 3) := by decide +kernel
theorem dX12_tick_45 : decode cX12_tick 45 = .ok (.aload_n 0, 1) := by decide +kernel
theorem dX12_tick_46 : decode cX12_tick 46 = .ok (.getfield 7, 3) := by decide +kernel
theorem dX12_tick_49 : decode cX12_tick 49 = .ok (.iconst 3, 1) := by decide +kernel
theorem dX12_tick_50 : decode cX12_tick 50 = .ok (.iaload, 1) := by decide +kernel
theorem dX12_tick_51 : decode cX12_tick 51 = .ok (.iadd, 1) := by decide +kernel
theorem dX12_tick_52 : decode cX12_tick 52 = .ok (.iload_n 1, 1) := by decide +kernel
theorem dX12_tick_53 : decode cX12_tick 53 = .ok (.iastore, 1) := by decide +kernel
theorem dX12_tick_54 : decode cX12_tick 54 = .ok (.aload_n 0, 1) := by decide +kernel
theorem dX12_tick_55 : decode cX12_tick 55 = .ok (.getfield 7, 3) := by decide +kernel
theorem dX12_tick_58 : decode cX12_tick 58 = .ok (.iconst 3, 1) := by decide +kernel
theorem dX12_tick_59 : decode cX12_tick 59 = .ok (.dup2, 1) := by decide +kernel
theorem dX12_tick_60 : decode cX12_tick 60 = .ok (.iaload, 1) := by decide +kernel
theorem dX12_tick_61 : decode cX12_tick 61 = .ok (.iconst 1, 1) := by decide +kernel
theorem dX12_tick_62 : decode cX12_tick 62 = .ok (.iadd, 1) := by decide +kernel
theorem dX12_tick_63 : decode cX12_tick 63 = .ok (.iastore, 1) := by decide +kernel
theorem dX12_tick_64 : decode cX12_tick 64 = .ok (.aload_n 0, 1) := by decide +kernel
theorem dX12_tick_65 : decode cX12_tick 65 = .ok (.getfield 7, 3) := by decide +kernel
theorem dX12_tick_68 : decode cX12_tick 68 = .ok (.iconst 3, 1) := by decide +kernel
theorem dX12_tick_69 : decode cX12_tick 69 = .ok (.iaload, 1) := by decide +kernel
theorem dX12_tick_70 : decode cX12_tick 70 = .ok (.ireturn, 1) := by decide +kernel
theorem dX12_becomesHigh_0 : decode cX12_becomesHigh 0 = .ok (.iload_n 2, 1) := by decide +kernel
theorem dX12_becomesHigh_1 : decode cX12_becomesHigh 1 = .ok (.bipush 10, 2) := by decide +kernel
theorem dX12_becomesHigh_3 : decode cX12_becomesHigh 3 = .ok (.aload_n 0, 1) := by decide +kernel
theorem dX12_becomesHigh_4 : decode cX12_becomesHigh 4 = .ok (.getfield 7, 3) := by decide +kernel
theorem dX12_becomesHigh_7 : decode cX12_becomesHigh 7 = .ok (.sipush 148, 3) := by decide +kernel
theorem dX12_becomesHigh_10 : decode cX12_becomesHigh 10 = .ok (.iload_n 1, 1) := by decide +kernel
theorem dX12_becomesHigh_11 : decode cX12_becomesHigh 11 = .ok (.iadd, 1) := by decide +kernel
theorem dX12_becomesHigh_12 : decode cX12_becomesHigh 12 = .ok (.iaload, 1) := by decide +kernel
theorem dX12_becomesHigh_13 : decode cX12_becomesHigh 13 = .ok (.imul, 1) := by decide +kernel
theorem dX12_becomesHigh_14 : decode cX12_becomesHigh 14 = .ok (.if_icmp .gt 26, 3) := by decide +kernel
theorem dX12_becomesHigh_17 : decode cX12_becomesHigh 17 = .ok (.aload_n 0, 1) := by decide +kernel
theorem dX12_becomesHigh_18 : decode cX12_becomesHigh 18 = .ok (.getfield 176, 3) := by decide +kernel
theorem dX12_becomesHigh_21 : decode cX12_becomesHigh 21 = .ok (.ifCond .eq 23, 3) := by decide +kernel
theorem dX12_becomesHigh_24 : decode cX12_becomesHigh 24 = .ok (.iload_n 2, 1) := by decide +kernel
theorem dX12_becomesHigh_25 : decode cX12_becomesHigh 25 = .ok (.iconst 5, 1) := by decide +kernel
theorem dX12_becomesHigh_26 : decode cX12_becomesHigh 26 = .ok (.aload_n 0, 1) := by decide +kernel
theorem dX12_becomesHigh_27 : decode cX12_becomesHigh 27 = .ok (.getfield 7, 3) := by decide +kernel
theorem dX12_becomesHigh_30 : decode cX12_becomesHigh 30 = .ok (.sipush 148, 3) := by decide +kernel
theorem dX12_becomesHigh_33 : decode cX12_becomesHigh 33 = .ok (.iload_n 1, 1) := by decide +kernel
theorem dX12_becomesHigh_34 : decode cX12_becomesHigh 34 = .ok (.iadd, 1) := by decide +kernel
theorem dX12_becomesHigh_35 : decode cX12_becomesHigh 35 = .ok (.iaload, 1) := by decide +kernel
theorem dX12_becomesHigh_36 : decode cX12_becomesHigh 36 = .ok (.imul, 1) := by decide +kernel
theorem dX12_becomesHigh_37 : decode cX12_becomesHigh 37 = .ok (.if_icmp .lt 7, 3) := by decide +kernel
theorem dX12_becomesHigh_40 : decode cX12_becomesHigh 40 = .ok (.iconst 1, 1) := by decide +kernel
theorem dX12_becomesHigh_41 : decode cX12_becomesHigh 41 = .ok (.goto 4, 3) := by decide +kernel
theorem dX12_becomesHigh_44 : decode cX12_becomesHigh 44 = .ok (.iconst 0, 1) := by decide +kernel
theorem dX12_becomesHigh_45 : decode cX12_becomesHigh 45 = .ok (.ireturn, 1) := by decide +kernel
theorem dX12_goesThrough_0 : decode cX12_goesThrough 0 = .ok (.aload_n 0, 1) := by decide +kernel
theorem dX12_goesThrough_1 : decode cX12_goesThrough 1 = .ok (.iconst 0, 1) := by decide +kernel
theorem dX12_goesThrough_2 : decode cX12_goesThrough 2 = .ok (.putfield 176, 3) := by decide +kernel
theorem dX12_goesThrough_5 : decode cX12_goesThrough 5 = .ok (.aload_n 0, 1) := by decide +kernel
theorem dX12_goesThrough_6 : decode cX12_goesThrough 6 = .ok (.iconst 0, 1) := by decide +kernel
theorem dX12_goesThrough_7 : decode cX12_goesThrough 7 = .ok (.putfield 179, 3) := by decide +kernel
theorem dX12_goesThrough_10 : decode cX12_goesThrough 10 = .ok (.iconst 0, 1) := by decide +kernel
theorem dX12_goesThrough_11 : decode cX12_goesThrough 11 = .ok (.istore_n 3, 1) := by decide +kernel
theorem dX12_goesThrough_12 : decode cX12_goesThrough 12 = .ok (.iconst 0, 1) := by decide +kernel
theorem dX12_goesThrough_13 : decode cX12_goesThrough 13 = .ok (.istore 4, 2) := by decide +kernel
theorem dX12_goesThrough_15 : decode cX12_goesThrough 15 = .ok (.iload 4, 2) := by decide +kernel
theorem dX12_goesThrough_17 : decode cX12_goesThrough 17 = .ok (.aload_n 0, 1) := by decide +kernel
theorem dX12_goesThrough_18 : decode cX12_goesThrough 18 = .ok (.getfield 7, 3) := by decide +kernel
theorem dX12_goesThrough_21 : decode cX12_goesThrough 21 = .ok (.iconst 3, 1) := by decide +kernel
theorem dX12_goesThrough_22 : decode cX12_goesThrough 22 = .ok (.iaload, 1) := by decide +kernel
theorem dX12_goesThrough_23 : decode cX12_goesThrough 23 = .ok (.if_icmp .ge 263, 3) := by decide +kernel
theorem dX12_goesThrough_26 : decode cX12_goesThrough 26 = .ok (.aload_n 0, 1) := by decide +kernel
theorem dX12_goesThrough_27 : decode cX12_goesThrough 27 = .ok (.getfield 7, 3) := by decide +kernel
theorem dX12_goesThrough_30 : decode cX12_goesThrough 30 = .ok (.sipush 1332, 3) := by decide +kernel
theorem dX12_goesThrough_33 : decode cX12_goesThrough 33 = .ok (.iload 4, 2) := by decide +kernel
theorem dX12_goesThrough_35 : decode cX12_goesThrough 35 = .ok (.iadd, 1) := by decide +kernel
theorem dX12_goesThrough_36 : decode cX12_goesThrough 36 = .ok (.iaload, 1) := by decide +kernel
theorem dX12_goesThrough_37 : decode cX12_goesThrough 37 = .ok (.istore 5, 2) := by decide +kernel
theorem dX12_goesThrough_39 : decode cX12_goesThrough 39 = .ok (.iload 5, 2) := by decide +kernel
theorem dX12_goesThrough_41 : decode cX12_goesThrough 41 = .ok (.sipush 10000, 3) := by decide +kernel
theorem dX12_goesThrough_44 : decode cX12_goesThrough 44 = .ok (.idiv, 1) := by decide +kernel
theorem dX12_goesThrough_45 : decode cX12_goesThrough 45 = .ok (.istore 6, 2) := by decide +kernel
theorem dX12_goesThrough_47 : decode cX12_goesThrough 47 = .ok (.iload 5, 2) := by decide +kernel
theorem dX12_goesThrough_49 : decode cX12_goesThrough 49 = .ok (.bipush 100, 2) := by decide +kernel
theorem dX12_goesThrough_51 : decode cX12_goesThrough 51 = .ok (.idiv, 1) := by decide +kernel
theorem dX12_goesThrough_52 : decode cX12_goesThrough 52 = .ok (.bipush 100, 2) := by decide +kernel
theorem dX12_goesThrough_54 : decode cX12_goesThrough 54 = .ok (.irem, 1) := by decide +kernel
theorem dX12_goesThrough_55 : decode cX12_goesThrough 55 = .ok (.istore 7, 2) := by decide +kernel
theorem dX12_goesThrough_57 : decode cX12_goesThrough 57 = .ok (.iload 5, 2) := by decide +kernel
theorem dX12_goesThrough_59 : decode cX12_goesThrough 59 = .ok (.bipush 100, 2) := by decide +kernel
theorem dX12_goesThrough_61 : decode cX12_goesThrough 61 = .ok (.irem, 1) := by decide +kernel
theorem dX12_goesThrough_62 : decode cX12_goesThrough 62 = .ok (.istore 8, 2) := by decide +kernel
theorem dX12_goesThrough_64 : decode cX12_goesThrough 64 = .ok (.aload_n 0, 1) := by decide +kernel
theorem dX12_goesThrough_65 : decode cX12_goesThrough 65 = .ok (.aload_n 0, 1) := by decide +kernel
theorem dX12_goesThrough_66 : decode cX12_goesThrough 66 = .ok (.iload_n 1, 1) := by decide +kernel
theorem dX12_goesThrough_67 : decode cX12_goesThrough 67 = .ok (.iload 6, 2) := by decide +kernel
theorem dX12_goesThrough_69 : decode cX12_goesThrough 69 = .ok (.invokevirtual 182, 3) := by decide +kernel
theorem dX12_goesThrough_72 : decode cX12_goesThrough 72 = .ok (.putfield 176, 3) := by decide +kernel
theorem dX12_goesThrough_75 : decode cX12_goesThrough 75 = .ok (.aload_n 0, 1) := by decide +kernel
theorem dX12_goesThrough_76 : decode cX12_goesThrough 76 = .ok (.getfield 7, 3) := by decide +kernel
theorem dX12_goesThrough_79 : decode cX12_goesThrough 79 = .ok (.sipush 130, 3) := by decide +kernel
theorem dX12_goesThrough_82 : decode cX12_goesThrough 82 = .ok (.iload_n 2, 1) := by decide +kernel
theorem dX12_goesThrough_83 : decode cX12_goesThrough 83 = .ok (.iadd, 1) := by decide +kernel
theorem dX12_goesThrough_84 : decode cX12_goesThrough 84 = .ok (.iaload, 1) := by decide +kernel
theorem dX12_goesThrough_85 : decode cX12_goesThrough 85 = .ok (.aload_n 0, 1) := by decide +kernel
theorem dX12_goesThrough_86 : decode cX12_goesThrough 86 = .ok (.getfield 7, 3) := by decide +kernel
theorem dX12_goesThrough_89 : decode cX12_goesThrough 89 = .ok (.sipush 164, 3) := by decide +kernel
theorem dX12_goesThrough_92 : decode cX12_goesThrough 92 = .ok (.iload_n 1, 1) := by decide +kernel
theorem dX12_goesThrough_93 : decode cX12_goesThrough 93 = .ok (.iadd, 1) := by decide +kernel
theorem dX12_goesThrough_94 : decode cX12_goesThrough 94 = .ok (.iaload, 1) := by decide +kernel
theorem dX12_goesThrough_95 : decode cX12_goesThrough 95 = .ok (.iload 4, 2) := by decide +kernel
theorem dX12_goesThrough_97 : decode cX12_goesThrough 97 = .ok (.imul, 1) := by decide +kernel
theorem dX12_goesThrough_98 : decode cX12_goesThrough 98 = .ok (.iadd, 1) := by decide +kernel
theorem dX12_goesThrough_99 : decode cX12_goesThrough 99 = .ok (.istore 9, 2) := by decide +kernel
theorem dX12_goesThrough_101 : decode cX12_goesThrough 101 = .ok (.aload_n 0, 1) := by decide +kernel
theorem dX12_goesThrough_102 : decode cX12_goesThrough 102 = .ok (.getfield 7, 3) := by decide +kernel
theorem dX12_goesThrough_105 : decode cX12_goesThrough 105 = .ok (.sipush 140, 3) := by decide +kernel
theorem dX12_goesThrough_108 : decode cX12_goesThrough 108 = .ok (.iload_n 1, 1) := by decide +kernel
theorem dX12_goesThrough_109 : decode cX12_goesThrough 109 = .ok (.iadd, 1) := by decide +kernel
theorem dX12_goesThrough_110 : decode cX12_goesThrough 110 = .ok (.iaload, 1) := by decide +kernel
theorem dX12_goesThrough_111 : decode cX12_goesThrough 111 = .ok (.iconst 5, 1) := by decide +kernel
theorem dX12_goesThrough_112 : decode cX12_goesThrough 112 = .ok (.if_icmp .eq 16, 3) := by decide +kernel
theorem dX12_goesThrough_115 : decode cX12_goesThrough 115 = .ok (.aload_n 0, 1) := by decide +kernel
theorem dX12_goesThrough_116 : decode cX12_goesThrough 116 = .ok (.getfield 7, 3) := by decide +kernel
theorem dX12_goesThrough_119 : decode cX12_goesThrough 119 = .ok (.sipush 130, 3) := by decide +kernel
theorem dX12_goesThrough_122 : decode cX12_goesThrough 122 = .ok (.iload_n 2, 1) := by decide +kernel
theorem dX12_goesThrough_123 : decode cX12_goesThrough 123 = .ok (.iadd, 1) := by decide +kernel
theorem dX12_goesThrough_124 : decode cX12_goesThrough 124 = .ok (.iaload, 1) := by decide +kernel
theorem dX12_goesThrough_125 : decode cX12_goesThrough 125 = .ok (.goto 17, 3) := by decide +kernel
theorem dX12_goesThrough_128 : decode cX12_goesThrough 128 = .ok (.iload 9, 2) := by decide +kernel
theorem dX12_goesThrough_130 : decode cX12_goesThrough 130 = .ok (.bipush 99, 2) := by decide +kernel
theorem dX12_goesThrough_132 : decode cX12_goesThrough 132 = .ok (.if_icmp .le 8, 3) := by decide +kernel
theorem dX12_goesThrough_135 : decode cX12_goesThrough 135 = .ok (.bipush 99, 2) := by decide +kernel
theorem dX12_goesThrough_137 : decode cX12_goesThrough 137 = .ok (.goto 5, 3) := by decide +kernel
theorem dX12_goesThrough_140 : decode cX12_goesThrough 140 = .ok (.iload 9, 2) := by decide +kernel
theorem dX12_goesThrough_142 : decode cX12_goesThrough 142 = .ok (.istore 9, 2) := by decide +kernel
theorem dX12_goesThrough_144 : decode cX12_goesThrough 144 = .ok (.aload_n 0, 1) := by decide +kernel
theorem dX12_goesThrough_145 : decode cX12_goesThrough 145 = .ok (.getfield 26, 3) := by decide +kernel
theorem dX12_goesThrough_148 : decode cX12_goesThrough 148 = .ok (.iload 4, 2) := by decide +kernel
theorem dX12_goesThrough_150 : decode cX12_goesThrough 150 = .ok (.aload_n 0, 1) := by decide +kernel
theorem dX12_goesThrough_151 : decode cX12_goesThrough 151 = .ok (.iload_n 1, 1) := by decide +kernel
theorem dX12_goesThrough_152 : decode cX12_goesThrough 152 = .ok (.iload_n 2, 1) := by decide +kernel
theorem dX12_goesThrough_153 : decode cX12_goesThrough 153 = .ok (.iload 6, 2) := by decide +kernel
theorem dX12_goesThrough_155 : decode cX12_goesThrough 155 = .ok (.iload 7, 2) := by decide +kernel
theorem dX12_goesThrough_157 : decode cX12_goesThrough 157 = .ok (.iload 8, 2) := by decide +kernel
theorem dX12_goesThrough_159 : decode cX12_goesThrough 159 = .ok (.aload_n 0, 1) := by decide +kernel
theorem dX12_goesThrough_160 : decode cX12_goesThrough 160 = .ok (.getfield 176, 3) := by decide +kernel
theorem dX12_goesThrough_163 : decode cX12_goesThrough 163 = .ok (.iload 9, 2) := by decide +kernel
theorem dX12_goesThrough_165 : decode cX12_goesThrough 165 = .ok (.invokevirtual 159, 3) := by decide +kernel
theorem dX12_goesThrough_168 : decode cX12_goesThrough 168 = .ok (.iastore, 1) := by decide +kernel
theorem dX12_goesThrough_169 : decode cX12_goesThrough 169 = .ok (.aload_n 0, 1) := by decide +kernel
theorem dX12_goesThrough_170 : decode cX12_goesThrough 170 = .ok (.getfield 23, 3) := by decide +kernel
theorem dX12_goesThrough_173 : decode cX12_goesThrough 173 = .ok (.iload 4, 2) := by decide +kernel
theorem dX12_goesThrough_175 : decode cX12_goesThrough 175 = .ok (.aload_n 0, 1) := by decide +kernel
theorem dX12_goesThrough_176 : decode cX12_goesThrough 176 = .ok (.iload_n 1, 1) := by decide +kernel
theorem dX12_goesThrough_177 : decode cX12_goesThrough 177 = .ok (.iload 8, 2) := by decide +kernel
theorem dX12_goesThrough_179 : decode cX12_goesThrough 179 = .ok (.aload_n 0, 1) := by decide +kernel
theorem dX12_goesThrough_180 : decode cX12_goesThrough 180 = .ok (.getfield 26, 3) := by decide +kernel
theorem dX12_goesThrough_183 : decode cX12_goesThrough 183 = .ok (.iload 4, 2) := by decide +kernel
theorem dX12_goesThrough_185 : decode cX12_goesThrough 185 = .ok (.iaload, 1) := by decide +kernel
theorem dX12_goesThrough_186 : decode cX12_goesThrough 186 = .ok (.invokevirtual 166, 3) := by decide +kernel
theorem dX12_goesThrough_189 : decode cX12_goesThrough 189 = .ok (.iastore, 1) := by decide +kernel
theorem dX12_goesThrough_190 : decode cX12_goesThrough 190 = .ok (.aload_n 0, 1) := by decide +kernel
theorem dX12_goesThrough_191 : decode cX12_goesThrough 191 = .ok (.getfield 23, 3) := by decide +kernel
theorem dX12_goesThrough_194 : decode cX12_goesThrough 194 = .ok (.iload 4, 2) := by decide +kernel
theorem dX12_goesThrough_196 : decode cX12_goesThrough 196 = .ok (.iaload, 1) := by decide +kernel
theorem dX12_goesThrough_197 : decode cX12_goesThrough 197 = .ok (.ifCond .ne 10, 3) := by decide +kernel
theorem dX12_goesThrough_200 : decode cX12_goesThrough 200 = .ok (.iload_n 3, 1) := by decide +kernel
theorem dX12_goesThrough_201 : decode cX12_goesThrough 201 = .ok (.iload 7, 2) := by decide +kernel
theorem dX12_goesThrough_203 : decode cX12_goesThrough 203 = .ok (.iadd, 1) := by decide +kernel
theorem dX12_goesThrough_204 : decode cX12_goesThrough 204 = .ok (.goto 19, 3) := by decide +kernel
theorem dX12_goesThrough_207 : decode cX12_goesThrough 207 = .ok (.aload_n 0, 1) := by decide +kernel
theorem dX12_goesThrough_208 : decode cX12_goesThrough 208 = .ok (.getfield 23, 3) := by decide +kernel
theorem dX12_goesThrough_211 : decode cX12_goesThrough 211 = .ok (.iload 4, 2) := by decide +kernel
theorem dX12_goesThrough_213 : decode cX12_goesThrough 213 = .ok (.iaload, 1) := by decide +kernel
theorem dX12_goesThrough_214 : decode cX12_goesThrough 214 = .ok (.iconst 4, 1) := by decide +kernel
theorem dX12_goesThrough_215 : decode cX12_goesThrough 215 = .ok (.if_icmp .ne 7, 3) := by decide +kernel
theorem dX12_goesThrough_218 : decode cX12_goesThrough 218 = .ok (.iconst 0, 1) := by decide +kernel
theorem dX12_goesThrough_219 : decode cX12_goesThrough 219 = .ok (.goto 4, 3) := by decide +kernel
theorem dX12_goesThrough_222 : decode cX12_goesThrough 222 = .ok (.iload_n 3, 1) := by decide +kernel
theorem dX12_goesThrough_223 : decode cX12_goesThrough 223 = .ok (.istore_n 3, 1) := by decide +kernel
theorem dX12_goesThrough_224 : decode cX12_goesThrough 224 = .ok (.aload_n 0, 1) := by decide +kernel
theorem dX12_goesThrough_225 : decode cX12_goesThrough 225 = .ok (.dup, 1) := by decide +kernel
theorem dX12_goesThrough_226 : decode cX12_goesThrough 226 = .ok (.getfield 179, 3) := by decide +kernel
theorem dX12_goesThrough_229 : decode cX12_goesThrough 229 = .ok (.iload_n 3, 1) := by decide +kernel
theorem dX12_goesThrough_230 : decode cX12_goesThrough 230 = .ok (.aload_n 0, 1) := by decide +kernel
theorem dX12_goesThrough_231 : decode cX12_goesThrough 231 = .ok (.getfield 7, 3) := by decide +kernel
theorem dX12_goesThrough_234 : decode cX12_goesThrough 234 = .ok (.sipush 156, 3) := by decide +kernel
theorem dX12_goesThrough_237 : decode cX12_goesThrough 237 = .ok (.iload_n 1, 1) := by decide +kernel
theorem dX12_goesThrough_238 : decode cX12_goesThrough 238 = .ok (.iadd, 1) := by decide +kernel
theorem dX12_goesThrough_239 : decode cX12_goesThrough 239 = .ok (.iaload, 1) := by decide +kernel
theorem dX12_goesThrough_240 : decode cX12_goesThrough 240 = .ok (.if_icmp .le 7, 3) := by decide +kernel
theorem dX12_goesThrough_243 : decode cX12_goesThrough 243 = .ok (.iconst 1, 1) := by decide +kernel
theorem dX12_goesThrough_244 : decode cX12_goesThrough 244 = .ok (.goto 4, 3) := by decide +kernel
theorem dX12_goesThrough_247 : decode cX12_goesThrough 247 = .ok (.iconst 0, 1) := by decide +kernel
theorem dX12_goesThrough_248 : decode cX12_goesThrough 248 = .ok (.iadd, 1) := by decide +kernel
theorem dX12_goesThrough_249 : decode cX12_goesThrough 249 = .ok (.putfield 179, 3) := by decide +kernel
theorem dX12_goesThrough_252 : decode cX12_goesThrough 252 = .ok (.iload_n 3, 1) := by decide +kernel
theorem dX12_goesThrough_253 : decode cX12_goesThrough 253 = .ok (.aload_n 0, 1) := by decide +kernel
theorem dX12_goesThrough_254 : decode cX12_goesThrough 254 = .ok (.getfield 7, 3) := by decide +kernel
theorem dX12_goesThrough_257 : decode cX12_goesThrough 257 = .ok (.sipush 156, 3) := by decide +kernel
theorem dX12_goesThrough_260 : decode cX12_goesThrough 260 = .ok (.iload_n 1, 1) := by decide +kernel
theorem dX12_goesThrough_261 : decode cX12_goesThrough 261 = .ok (.iadd, 1) := by decide +kernel
theorem dX12_goesThrough_262 : decode cX12_goesThrough 262 = .ok (.iaload, 1) := by decide +kernel
theorem dX12_goesThrough_263 : decode cX12_goesThrough 263 = .ok (.if_icmp .le 7, 3) := by decide +kernel
theorem dX12_goesThrough_266 : decode cX12_goesThrough 266 = .ok (.iconst 0, 1) := by decide +kernel
theorem dX12_goesThrough_267 : decode cX12_goesThrough 267 = .ok (.goto 4, 3) := by decide +kernel
theorem dX12_goesThrough_270 : decode cX12_goesThrough 270 = .ok (.iload_n 3, 1) := by decide +kernel
theorem dX12_goesThrough_271 : decode cX12_goesThrough 271 = .ok (.istore_n 3, 1) := by decide +kernel
theorem dX12_goesThrough_272 : decode cX12_goesThrough 272 = .ok (.aload_n 0, 1) := by decide +kernel
theorem dX12_goesThrough_273 : decode cX12_goesThrough 273 = .ok (.getfield 29, 3) := by decide +kernel
theorem dX12_goesThrough_276 : decode cX12_goesThrough 276 = .ok (.iload 4, 2) := by decide +kernel
theorem dX12_goesThrough_278 : decode cX12_goesThrough 278 = .ok (.iload_n 3, 1) := by decide +kernel
theorem dX12_goesThrough_279 : decode cX12_goesThrough 279 = .ok (.iastore, 1) := by decide +kernel
theorem dX12_goesThrough_280 : decode cX12_goesThrough 280 = .ok (.iinc 4 1, 3) := by decide +kernel
theorem dX12_goesThrough_283 : decode cX12_goesThrough 283 = .ok (.goto (-268), 3) := by decide +kernel
theorem dX12_goesThrough_286 : decode cX12_goesThrough 286 = .ok (.return_, 1) := by decide +kernel
theorem dX12_run_0 : decode cX12_run 0 = .ok (.aload_n 0, 1) := by decide +kernel
theorem dX12_run_1 : decode cX12_run 1 = .ok (.getfield 7, 3) := by decide +kernel
theorem dX12_run_4 : decode cX12_run 4 = .ok (.iconst 3, 1) := by decide +kernel
theorem dX12_run_5 : decode cX12_run 5 = .ok (.iaload, 1) := by decide +kernel
theorem dX12_run_6 : decode cX12_run 6 = .ok (.iconst 1, 1) := by decide +kernel
theorem dX12_run_7 : decode cX12_run 7 = .ok (.isub, 1) := by decide +kernel
theorem dX12_run_8 : decode cX12_run 8 = .ok (.istore 4, 2) := by decide +kernel
theorem dX12_run_10 : decode cX12_run 10 = .ok (.iload_n 3, 1) := by decide +kernel
theorem dX12_run_11 : decode cX12_run 11 = .ok (.iconst 0, 1) := by decide +kernel
theorem dX12_run_12 : decode cX12_run 12 = .ok (.iconst 2, 1) := by decide +kernel
theorem dX12_run_13 : decode cX12_run 13 = .ok (.invokestatic 54, 3) := by decide +kernel
theorem dX12_run_16 : decode cX12_run 16 = .ok (.ifCond .ne 49, 3) := by decide +kernel
theorem dX12_run_19 : decode cX12_run 19 = .ok (.iload_n 3, 1) := by decide +kernel
theorem dX12_run_20 : decode cX12_run 20 = .ok (.bipush 100, 2) := by decide +kernel
theorem dX12_run_22 : decode cX12_run 22 = .ok (.bipush 100, 2) := by decide +kernel
theorem dX12_run_24 : decode cX12_run 24 = .ok (.iload 4, 2) := by decide +kernel
theorem dX12_run_26 : decode cX12_run 26 = .ok (.iadd, 1) := by decide +kernel
theorem dX12_run_27 : decode cX12_run 27 = .ok (.invokestatic 54, 3) := by decide +kernel
theorem dX12_run_30 : decode cX12_run 30 = .ok (.ifCond .ne 35, 3) := by decide +kernel
theorem dX12_run_33 : decode cX12_run 33 = .ok (.iload_n 3, 1) := by decide +kernel
theorem dX12_run_34 : decode cX12_run 34 = .ok (.sipush 200, 3) := by decide +kernel
theorem dX12_run_37 : decode cX12_run 37 = .ok (.sipush 200, 3) := by decide +kernel
theorem dX12_run_40 : decode cX12_run 40 = .ok (.iload 4, 2) := by decide +kernel
theorem dX12_run_42 : decode cX12_run 42 = .ok (.iadd, 1) := by decide +kernel
theorem dX12_run_43 : decode cX12_run 43 = .ok (.invokestatic 54, 3) := by decide +kernel
theorem dX12_run_46 : decode cX12_run 46 = .ok (.ifCond .ne 19, 3) := by decide +kernel
theorem dX12_run_49 : decode cX12_run 49 = .ok (.iload_n 3, 1) := by decide +kernel
theorem dX12_run_50 : decode cX12_run 50 = .ok (.sipush 300, 3) := by decide +kernel
theorem dX12_run_53 : decode cX12_run 53 = .ok (.sipush 300, 3) := by decide +kernel
theorem dX12_run_56 : decode cX12_run 56 = .ok (.iload 4, 2) := by decide +kernel
theorem dX12_run_58 : decode cX12_run 58 = .ok (.iadd, 1) := by decide +kernel
theorem dX12_run_59 : decode cX12_run 59 = .ok (.invokestatic 54, 3) := by decide +kernel
theorem dX12_run_62 : decode cX12_run 62 = .ok (.ifCond .eq 7, 3) := by decide +kernel
theorem dX12_run_65 : decode cX12_run 65 = .ok (.iconst 1, 1) := by decide +kernel
theorem dX12_run_66 : decode cX12_run 66 = .ok (.goto 4, 3) := by decide +kernel
theorem dX12_run_69 : decode cX12_run 69 = .ok (.iconst 0, 1) := by decide +kernel
theorem dX12_run_70 : decode cX12_run 70 = .ok (.istore 5, 2) := by decide +kernel
theorem dX12_run_72 : decode cX12_run 72 = .ok (.aload_n 0, 1) := by decide +kernel
theorem dX12_run_73 : decode cX12_run 73 = .ok (.iload_n 1, 1) := by decide +kernel
theorem dX12_run_74 : decode cX12_run 74 = .ok (.invokevirtual 148, 3) := by decide +kernel
theorem dX12_run_77 : decode cX12_run 77 = .ok (.ifCond .eq 16, 3) := by decide +kernel
theorem dX12_run_80 : decode cX12_run 80 = .ok (.aload_n 0, 1) := by decide +kernel
theorem dX12_run_81 : decode cX12_run 81 = .ok (.iload_n 2, 1) := by decide +kernel
theorem dX12_run_82 : decode cX12_run 82 = .ok (.invokevirtual 59, 3) := by decide +kernel
theorem dX12_run_85 : decode cX12_run 85 = .ok (.ifCond .eq 8, 3) := by decide +kernel
theorem dX12_run_88 : decode cX12_run 88 = .ok (.iload 5, 2) := by decide +kernel
theorem dX12_run_90 : decode cX12_run 90 = .ok (.ifCond .ne 5, 3) := by decide +kernel
theorem dX12_run_93 : decode cX12_run 93 = .ok (.iconst (-1), 1) := by decide +kernel
theorem dX12_run_94 : decode cX12_run 94 = .ok (.ireturn, 1) := by decide +kernel
theorem dX12_run_95 : decode cX12_run 95 = .ok (.aload_n 0, 1) := by decide +kernel
theorem dX12_run_96 : decode cX12_run 96 = .ok (.iload_n 1, 1) := by decide +kernel
theorem dX12_run_97 : decode cX12_run 97 = .ok (.iload_n 2, 1) := by decide +kernel
theorem dX12_run_98 : decode cX12_run 98 = .ok (.invokevirtual 186, 3) := by decide +kernel
theorem dX12_run_101 : decode cX12_run 101 = .ok (.iload_n 3, 1) := by decide +kernel
theorem dX12_run_102 : decode cX12_run 102 = .ok (.bipush 100, 2) := by decide +kernel
theorem dX12_run_104 : decode cX12_run 104 = .ok (.if_icmp .lt 53, 3) := by decide +kernel
theorem dX12_run_107 : decode cX12_run 107 = .ok (.iload_n 3, 1) := by decide +kernel
theorem dX12_run_108 : decode cX12_run 108 = .ok (.sipush 200, 3) := by decide +kernel
theorem dX12_run_111 : decode cX12_run 111 = .ok (.if_icmp .ge 15, 3) := by decide +kernel
theorem dX12_run_114 : decode cX12_run 114 = .ok (.aload_n 0, 1) := by decide +kernel
theorem dX12_run_115 : decode cX12_run 115 = .ok (.getfield 23, 3) := by decide +kernel
theorem dX12_run_118 : decode cX12_run 118 = .ok (.iload_n 3, 1) := by decide +kernel
theorem dX12_run_119 : decode cX12_run 119 = .ok (.bipush 100, 2) := by decide +kernel
theorem dX12_run_121 : decode cX12_run 121 = .ok (.isub, 1) := by decide +kernel
theorem dX12_run_122 : decode cX12_run 122 = .ok (.iaload, 1) := by decide +kernel
theorem dX12_run_123 : decode cX12_run 123 = .ok (.goto 33, 3) := by decide +kernel
theorem dX12_run_126 : decode cX12_run 126 = .ok (.iload_n 3, 1) := by decide +kernel
theorem dX12_run_127 : decode cX12_run 127 = .ok (.sipush 300, 3) := by decide +kernel
theorem dX12_run_130 : decode cX12_run 130 = .ok (.if_icmp .ge 16, 3) := by decide +kernel
theorem dX12_run_133 : decode cX12_run 133 = .ok (.aload_n 0, 1) := by decide +kernel
theorem dX12_run_134 : decode cX12_run 134 = .ok (.getfield 26, 3) := by decide +kernel
theorem dX12_run_137 : decode cX12_run 137 = .ok (.iload_n 3, 1) := by decide +kernel
theorem dX12_run_138 : decode cX12_run 138 = .ok (.sipush 200, 3) := by decide +kernel
theorem dX12_run_141 : decode cX12_run 141 = .ok (.isub, 1) := by decide +kernel
theorem dX12_run_142 : decode cX12_run 142 = .ok (.iaload, 1) := by decide +kernel
theorem dX12_run_143 : decode cX12_run 143 = .ok (.goto 13, 3) := by decide +kernel
theorem dX12_run_146 : decode cX12_run 146 = .ok (.aload_n 0, 1) := by decide +kernel
theorem dX12_run_147 : decode cX12_run 147 = .ok (.getfield 29, 3) := by decide +kernel
theorem dX12_run_150 : decode cX12_run 150 = .ok (.iload_n 3, 1) := by decide +kernel
theorem dX12_run_151 : decode cX12_run 151 = .ok (.sipush 300, 3) := by decide +kernel
theorem dX12_run_154 : decode cX12_run 154 = .ok (.isub, 1) := by decide +kernel
theorem dX12_run_155 : decode cX12_run 155 = .ok (.iaload, 1) := by decide +kernel
theorem dX12_run_156 : decode cX12_run 156 = .ok (.ireturn, 1) := by decide +kernel
theorem dX12_run_157 : decode cX12_run 157 = .ok (.iconst 0, 1) := by decide +kernel
theorem dX12_run_158 : decode cX12_run 158 = .ok (.istore 6, 2) := by decide +kernel
theorem dX12_run_160 : decode cX12_run 160 = .ok (.iconst 0, 1) := by decide +kernel
theorem dX12_run_161 : decode cX12_run 161 = .ok (.istore 7, 2) := by decide +kernel
theorem dX12_run_163 : decode cX12_run 163 = .ok (.iconst 0, 1) := by decide +kernel
theorem dX12_run_164 : decode cX12_run 164 = .ok (.istore 8, 2) := by decide +kernel
theorem dX12_run_166 : decode cX12_run 166 = .ok (.iload 8, 2) := by decide +kernel
theorem dX12_run_168 : decode cX12_run 168 = .ok (.iload 4, 2) := by decide +kernel
theorem dX12_run_170 : decode cX12_run 170 = .ok (.if_icmp .gt 55, 3) := by decide +kernel
theorem dX12_run_173 : decode cX12_run 173 = .ok (.iload 6, 2) := by decide +kernel
theorem dX12_run_175 : decode cX12_run 175 = .ok (.aload_n 0, 1) := by decide +kernel
theorem dX12_run_176 : decode cX12_run 176 = .ok (.getfield 26, 3) := by decide +kernel
theorem dX12_run_179 : decode cX12_run 179 = .ok (.iload 8, 2) := by decide +kernel
theorem dX12_run_181 : decode cX12_run 181 = .ok (.iaload, 1) := by decide +kernel
theorem dX12_run_182 : decode cX12_run 182 = .ok (.iadd, 1) := by decide +kernel
theorem dX12_run_183 : decode cX12_run 183 = .ok (.istore 6, 2) := by decide +kernel
theorem dX12_run_185 : decode cX12_run 185 = .ok (.iload 7, 2) := by decide +kernel
theorem dX12_run_187 : decode cX12_run 187 = .ok (.iload 8, 2) := by decide +kernel
theorem dX12_run_189 : decode cX12_run 189 = .ok (.ifCond .le 26, 3) := by decide +kernel
theorem dX12_run_192 : decode cX12_run 192 = .ok (.aload_n 0, 1) := by decide +kernel
theorem dX12_run_193 : decode cX12_run 193 = .ok (.getfield 23, 3) := by decide +kernel
theorem dX12_run_196 : decode cX12_run 196 = .ok (.iload 8, 2) := by decide +kernel
theorem dX12_run_198 : decode cX12_run 198 = .ok (.iaload, 1) := by decide +kernel
theorem dX12_run_199 : decode cX12_run 199 = .ok (.aload_n 0, 1) := by decide +kernel
theorem dX12_run_200 : decode cX12_run 200 = .ok (.getfield 23, 3) := by decide +kernel
theorem dX12_run_203 : decode cX12_run 203 = .ok (.iload 8, 2) := by decide +kernel
theorem dX12_run_205 : decode cX12_run 205 = .ok (.iconst 1, 1) := by decide +kernel
theorem dX12_run_206 : decode cX12_run 206 = .ok (.isub, 1) := by decide +kernel
theorem dX12_run_207 : decode cX12_run 207 = .ok (.iaload, 1) := by decide +kernel
theorem dX12_run_208 : decode cX12_run 208 = .ok (.if_icmp .eq 7, 3) := by decide +kernel
theorem dX12_run_211 : decode cX12_run 211 = .ok (.iconst 1, 1) := by decide +kernel
theorem dX12_run_212 : decode cX12_run 212 = .ok (.goto 4, 3) := by decide +kernel
theorem dX12_run_215 : decode cX12_run 215 = .ok (.iconst 0, 1) := by decide +kernel
theorem dX12_run_216 : decode cX12_run 216 = .ok (.iadd, 1) := by decide +kernel
theorem dX12_run_217 : decode cX12_run 217 = .ok (.istore 7, 2) := by decide +kernel
theorem dX12_run_219 : decode cX12_run 219 = .ok (.iinc 8 1, 3) := by decide +kernel
theorem dX12_run_222 : decode cX12_run 222 = .ok (.goto (-56), 3) := by decide +kernel
theorem dX12_run_225 : decode cX12_run 225 = .ok (.iload_n 3, 1) := by decide +kernel
theorem dX12_run_226 : decode cX12_run 226 = .ok (.ifCond .ne 10, 3) := by decide +kernel
theorem dX12_run_229 : decode cX12_run 229 = .ok (.aload_n 0, 1) := by decide +kernel
theorem dX12_run_230 : decode cX12_run 230 = .ok (.getfield 179, 3) := by decide +kernel
theorem dX12_run_233 : decode cX12_run 233 = .ok (.goto 15, 3) := by decide +kernel
theorem dX12_run_236 : decode cX12_run 236 = .ok (.iload_n 3, 1) := by decide +kernel
theorem dX12_run_237 : decode cX12_run 237 = .ok (.iconst 1, 1) := by decide +kernel
theorem dX12_run_238 : decode cX12_run 238 = .ok (.if_icmp .ne 8, 3) := by decide +kernel
theorem dX12_run_241 : decode cX12_run 241 = .ok (.iload 6, 2) := by decide +kernel
theorem dX12_run_243 : decode cX12_run 243 = .ok (.goto 5, 3) := by decide +kernel
theorem dX12_run_246 : decode cX12_run 246 = .ok (.iload 7, 2) := by decide +kernel
theorem dX12_run_248 : decode cX12_run 248 = .ok (.ireturn, 1) := by decide +kernel
theorem dX12_curves_0 : decode cX12_curves 0 = .ok (.aload_n 0, 1) := by decide +kernel
theorem dX12_curves_1 : decode cX12_curves 1 = .ok (.iconst 0, 1) := by decide +kernel
theorem dX12_curves_2 : decode cX12_curves 2 = .ok (.putfield 176, 3) := by decide +kernel
theorem dX12_curves_5 : decode cX12_curves 5 = .ok (.iconst 1, 1) := by decide +kernel
theorem dX12_curves_6 : decode cX12_curves 6 = .ok (.istore 4, 2) := by decide +kernel
theorem dX12_curves_8 : decode cX12_curves 8 = .ok (.iload 4, 2) := by decide +kernel
theorem dX12_curves_10 : decode cX12_curves 10 = .ok (.bipush 60, 2) := by decide +kernel
theorem dX12_curves_12 : decode cX12_curves 12 = .ok (.if_icmp .gt 51, 3) := by decide +kernel
theorem dX12_curves_15 : decode cX12_curves 15 = .ok (.aload_n 0, 1) := by decide +kernel
theorem dX12_curves_16 : decode cX12_curves 16 = .ok (.aload_n 0, 1) := by decide +kernel
theorem dX12_curves_17 : decode cX12_curves 17 = .ok (.iload_n 1, 1) := by decide +kernel
theorem dX12_curves_18 : decode cX12_curves 18 = .ok (.iload 4, 2) := by decide +kernel
theorem dX12_curves_20 : decode cX12_curves 20 = .ok (.invokevirtual 182, 3) := by decide +kernel
theorem dX12_curves_23 : decode cX12_curves 23 = .ok (.putfield 176, 3) := by decide +kernel
theorem dX12_curves_26 : decode cX12_curves 26 = .ok (.aload_n 0, 1) := by decide +kernel
theorem dX12_curves_27 : decode cX12_curves 27 = .ok (.getfield 32, 3) := by decide +kernel
theorem dX12_curves_30 : decode cX12_curves 30 = .ok (.iload 4, 2) := by decide +kernel
theorem dX12_curves_32 : decode cX12_curves 32 = .ok (.aload_n 0, 1) := by decide +kernel
theorem dX12_curves_33 : decode cX12_curves 33 = .ok (.iload_n 1, 1) := by decide +kernel
theorem dX12_curves_34 : decode cX12_curves 34 = .ok (.iload_n 2, 1) := by decide +kernel
theorem dX12_curves_35 : decode cX12_curves 35 = .ok (.iload 4, 2) := by decide +kernel
theorem dX12_curves_37 : decode cX12_curves 37 = .ok (.iload_n 3, 1) := by decide +kernel
theorem dX12_curves_38 : decode cX12_curves 38 = .ok (.iconst 0, 1) := by decide +kernel
theorem dX12_curves_39 : decode cX12_curves 39 = .ok (.aload_n 0, 1) := by decide +kernel
theorem dX12_curves_40 : decode cX12_curves 40 = .ok (.getfield 176, 3) := by decide +kernel
theorem dX12_curves_43 : decode cX12_curves 43 = .ok (.aload_n 0, 1) := by decide +kernel
theorem dX12_curves_44 : decode cX12_curves 44 = .ok (.getfield 7, 3) := by decide +kernel
theorem dX12_curves_47 : decode cX12_curves 47 = .ok (.sipush 130, 3) := by decide +kernel
theorem dX12_curves_50 : decode cX12_curves 50 = .ok (.iload_n 2, 1) := by decide +kernel
theorem dX12_curves_51 : decode cX12_curves 51 = .ok (.iadd, 1) := by decide +kernel
theorem dX12_curves_52 : decode cX12_curves 52 = .ok (.iaload, 1) := by decide +kernel
theorem dX12_curves_53 : decode cX12_curves 53 = .ok (.invokevirtual 159, 3) := by decide +kernel
theorem dX12_curves_56 : decode cX12_curves 56 = .ok (.iastore, 1) := by decide +kernel
theorem dX12_curves_57 : decode cX12_curves 57 = .ok (.iinc 4 1, 3) := by decide +kernel
theorem dX12_curves_60 : decode cX12_curves 60 = .ok (.goto (-52), 3) := by decide +kernel
theorem dX12_curves_63 : decode cX12_curves 63 = .ok (.aload_n 0, 1) := by decide +kernel
theorem dX12_curves_64 : decode cX12_curves 64 = .ok (.iconst 1, 1) := by decide +kernel
theorem dX12_curves_65 : decode cX12_curves 65 = .ok (.putfield 176, 3) := by decide +kernel
theorem dX12_curves_68 : decode cX12_curves 68 = .ok (.bipush 60, 2) := by decide +kernel
theorem dX12_curves_70 : decode cX12_curves 70 = .ok (.istore 4, 2) := by decide +kernel
theorem dX12_curves_72 : decode cX12_curves 72 = .ok (.iload 4, 2) := by decide +kernel
theorem dX12_curves_74 : decode cX12_curves 74 = .ok (.iconst 1, 1) := by decide +kernel
theorem dX12_curves_75 : decode cX12_curves 75 = .ok (.if_icmp .lt 51, 3) := by decide +kernel
theorem dX12_curves_78 : decode cX12_curves 78 = .ok (.aload_n 0, 1) := by decide +kernel
theorem dX12_curves_79 : decode cX12_curves 79 = .ok (.aload_n 0, 1) := by decide +kernel
theorem dX12_curves_80 : decode cX12_curves 80 = .ok (.iload_n 1, 1) := by decide +kernel
theorem dX12_curves_81 : decode cX12_curves 81 = .ok (.iload 4, 2) := by decide +kernel
theorem dX12_curves_83 : decode cX12_curves 83 = .ok (.invokevirtual 182, 3) := by decide +kernel
theorem dX12_curves_86 : decode cX12_curves 86 = .ok (.putfield 176, 3) := by decide +kernel
theorem dX12_curves_89 : decode cX12_curves 89 = .ok (.aload_n 0, 1) := by decide +kernel
theorem dX12_curves_90 : decode cX12_curves 90 = .ok (.getfield 35, 3) := by decide +kernel
theorem dX12_curves_93 : decode cX12_curves 93 = .ok (.iload 4, 2) := by decide +kernel
theorem dX12_curves_95 : decode cX12_curves 95 = .ok (.aload_n 0, 1) := by decide +kernel
theorem dX12_curves_96 : decode cX12_curves 96 = .ok (.iload_n 1, 1) := by decide +kernel
theorem dX12_curves_97 : decode cX12_curves 97 = .ok (.iload_n 2, 1) := by decide +kernel
theorem dX12_curves_98 : decode cX12_curves 98 = .ok (.iload 4, 2) := by decide +kernel
theorem dX12_curves_100 : decode cX12_curves 100 = .ok (.iload_n 3, 1) := by decide +kernel
theorem dX12_curves_101 : decode cX12_curves 101 = .ok (.iconst 0, 1) := by decide +kernel
theorem dX12_curves_102 : decode cX12_curves 102 = .ok (.aload_n 0, 1) := by decide +kernel
theorem dX12_curves_103 : decode cX12_curves 103 = .ok (.getfield 176, 3) := by decide +kernel
theorem dX12_curves_106 : decode cX12_curves 106 = .ok (.aload_n 0, 1) := by decide +kernel
theorem dX12_curves_107 : decode cX12_curves 107 = .ok (.getfield 7, 3) := by decide +kernel
theorem dX12_curves_110 : decode cX12_curves 110 = .ok (.sipush 130, 3) := by decide +kernel
theorem dX12_curves_113 : decode cX12_curves 113 = .ok (.iload_n 2, 1) := by decide +kernel
theorem dX12_curves_114 : decode cX12_curves 114 = .ok (.iadd, 1) := by decide +kernel
theorem dX12_curves_115 : decode cX12_curves 115 = .ok (.iaload, 1) := by decide +kernel
theorem dX12_curves_116 : decode cX12_curves 116 = .ok (.invokevirtual 159, 3) := by decide +kernel
theorem dX12_curves_119 : decode cX12_curves 119 = .ok (.iastore, 1) := by decide +kernel
theorem dX12_curves_120 : decode cX12_curves 120 = .ok (.iinc 4 (-1), 3) := by decide +kernel
theorem dX12_curves_123 : decode cX12_curves 123 = .ok (.goto (-51), 3) := by decide +kernel
theorem dX12_curves_126 : decode cX12_curves 126 = .ok (.return_, 1) := by decide +kernel
theorem dX12_curve_0 : decode cX12_curve 0 = .ok (.aload_n 0, 1) := by decide +kernel
theorem dX12_curve_1 : decode cX12_curve 1 = .ok (.iload_n 1, 1) := by decide +kernel
theorem dX12_curve_2 : decode cX12_curve 2 = .ok (.invokevirtual 148, 3) := by decide +kernel
theorem dX12_curve_5 : decode cX12_curve 5 = .ok (.ifCond .eq 11, 3) := by decide +kernel
theorem dX12_curve_8 : decode cX12_curve 8 = .ok (.aload_n 0, 1) := by decide +kernel
theorem dX12_curve_9 : decode cX12_curve 9 = .ok (.iload_n 2, 1) := by decide +kernel
theorem dX12_curve_10 : decode cX12_curve 10 = .ok (.invokevirtual 59, 3) := by decide +kernel
theorem dX12_curve_13 : decode cX12_curve 13 = .ok (.ifCond .ne 5, 3) := by decide +kernel
theorem dX12_curve_16 : decode cX12_curve 16 = .ok (.iconst (-1), 1) := by decide +kernel
theorem dX12_curve_17 : decode cX12_curve 17 = .ok (.ireturn, 1) := by decide +kernel
theorem dX12_curve_18 : decode cX12_curve 18 = .ok (.iload_n 3, 1) := by decide +kernel
theorem dX12_curve_19 : decode cX12_curve 19 = .ok (.invokestatic 190, 3) := by decide +kernel
theorem dX12_curve_22 : decode cX12_curve 22 = .ok (.ifCond .eq 14, 3) := by decide +kernel
theorem dX12_curve_25 : decode cX12_curve 25 = .ok (.iload 4, 2) := by decide +kernel
theorem dX12_curve_27 : decode cX12_curve 27 = .ok (.iconst 1, 1) := by decide +kernel
theorem dX12_curve_28 : decode cX12_curve 28 = .ok (.bipush 60, 2) := by decide +kernel
theorem dX12_curve_30 : decode cX12_curve 30 = .ok (.invokestatic 54, 3) := by decide +kernel
theorem dX12_curve_33 : decode cX12_curve 33 = .ok (.ifCond .ne 6, 3) := by decide +kernel
theorem dX12_curve_36 : decode cX12_curve 36 = .ok (.bipush (-2), 2) := by decide +kernel
theorem dX12_curve_38 : decode cX12_curve 38 = .ok (.ireturn, 1) := by decide +kernel
theorem dX12_curve_39 : decode cX12_curve 39 = .ok (.aload_n 0, 1) := by decide +kernel
theorem dX12_curve_40 : decode cX12_curve 40 = .ok (.iload_n 1, 1) := by decide +kernel
theorem dX12_curve_41 : decode cX12_curve 41 = .ok (.iload_n 2, 1) := by decide +kernel
theorem dX12_curve_42 : decode cX12_curve 42 = .ok (.iload_n 3, 1) := by decide +kernel
theorem dX12_curve_43 : decode cX12_curve 43 = .ok (.invokevirtual 193, 3) := by decide +kernel
theorem dX12_curve_46 : decode cX12_curve 46 = .ok (.iload 5, 2) := by decide +kernel
theorem dX12_curve_48 : decode cX12_curve 48 = .ok (.ifCond .eq 13, 3) := by decide +kernel
theorem dX12_curve_51 : decode cX12_curve 51 = .ok (.aload_n 0, 1) := by decide +kernel
theorem dX12_curve_52 : decode cX12_curve 52 = .ok (.getfield 32, 3) := by decide +kernel
theorem dX12_curve_55 : decode cX12_curve 55 = .ok (.iload 4, 2) := by decide +kernel
theorem dX12_curve_57 : decode cX12_curve 57 = .ok (.iaload, 1) := by decide +kernel
theorem dX12_curve_58 : decode cX12_curve 58 = .ok (.goto 10, 3) := by decide +kernel
theorem dX12_curve_61 : decode cX12_curve 61 = .ok (.aload_n 0, 1) := by decide +kernel
theorem dX12_curve_62 : decode cX12_curve 62 = .ok (.getfield 35, 3) := by decide +kernel
theorem dX12_curve_65 : decode cX12_curve 65 = .ok (.iload 4, 2) := by decide +kernel
theorem dX12_curve_67 : decode cX12_curve 67 = .ok (.iaload, 1) := by decide +kernel
theorem dX12_curve_68 : decode cX12_curve 68 = .ok (.ireturn, 1) := by decide +kernel
theorem dX12_jumps_0 : decode cX12_jumps 0 = .ok (.aload_n 0, 1) := by decide +kernel
theorem dX12_jumps_1 : decode cX12_jumps 1 = .ok (.iload_n 1, 1) := by decide +kernel
theorem dX12_jumps_2 : decode cX12_jumps 2 = .ok (.invokevirtual 148, 3) := by decide +kernel
theorem dX12_jumps_5 : decode cX12_jumps 5 = .ok (.ifCond .eq 21, 3) := by decide +kernel
theorem dX12_jumps_8 : decode cX12_jumps 8 = .ok (.aload_n 0, 1) := by decide +kernel
theorem dX12_jumps_9 : decode cX12_jumps 9 = .ok (.iload_n 2, 1) := by decide +kernel
theorem dX12_jumps_10 : decode cX12_jumps 10 = .ok (.invokevirtual 59, 3) := by decide +kernel
theorem dX12_jumps_13 : decode cX12_jumps 13 = .ok (.ifCond .eq 13, 3) := by decide +kernel
theorem dX12_jumps_16 : decode cX12_jumps 16 = .ok (.iload 5, 2) := by decide +kernel
theorem dX12_jumps_18 : decode cX12_jumps 18 = .ok (.iconst 0, 1) := by decide +kernel
theorem dX12_jumps_19 : decode cX12_jumps 19 = .ok (.iconst 1, 1) := by decide +kernel
theorem dX12_jumps_20 : decode cX12_jumps 20 = .ok (.invokestatic 54, 3) := by decide +kernel
theorem dX12_jumps_23 : decode cX12_jumps 23 = .ok (.ifCond .ne 5, 3) := by decide +kernel
theorem dX12_jumps_26 : decode cX12_jumps 26 = .ok (.iconst (-1), 1) := by decide +kernel
theorem dX12_jumps_27 : decode cX12_jumps 27 = .ok (.ireturn, 1) := by decide +kernel
theorem dX12_jumps_28 : decode cX12_jumps 28 = .ok (.iload_n 3, 1) := by decide +kernel
theorem dX12_jumps_29 : decode cX12_jumps 29 = .ok (.invokestatic 190, 3) := by decide +kernel
theorem dX12_jumps_32 : decode cX12_jumps 32 = .ok (.ifCond .eq 14, 3) := by decide +kernel
theorem dX12_jumps_35 : decode cX12_jumps 35 = .ok (.iload 4, 2) := by decide +kernel
theorem dX12_jumps_37 : decode cX12_jumps 37 = .ok (.iconst 1, 1) := by decide +kernel
theorem dX12_jumps_38 : decode cX12_jumps 38 = .ok (.bipush 99, 2) := by decide +kernel
theorem dX12_jumps_40 : decode cX12_jumps 40 = .ok (.invokestatic 54, 3) := by decide +kernel
theorem dX12_jumps_43 : decode cX12_jumps 43 = .ok (.ifCond .ne 6, 3) := by decide +kernel
theorem dX12_jumps_46 : decode cX12_jumps 46 = .ok (.bipush (-2), 2) := by decide +kernel
theorem dX12_jumps_48 : decode cX12_jumps 48 = .ok (.ireturn, 1) := by decide +kernel
theorem dX12_jumps_49 : decode cX12_jumps 49 = .ok (.aload_n 0, 1) := by decide +kernel
theorem dX12_jumps_50 : decode cX12_jumps 50 = .ok (.iload_n 1, 1) := by decide +kernel
theorem dX12_jumps_51 : decode cX12_jumps 51 = .ok (.iload_n 2, 1) := by decide +kernel
theorem dX12_jumps_52 : decode cX12_jumps 52 = .ok (.iload_n 3, 1) := by decide +kernel
theorem dX12_jumps_53 : decode cX12_jumps 53 = .ok (.invokevirtual 193, 3) := by decide +kernel
theorem dX12_jumps_56 : decode cX12_jumps 56 = .ok (.iconst 0, 1) := by decide +kernel
theorem dX12_jumps_57 : decode cX12_jumps 57 = .ok (.istore 6, 2) := by decide +kernel
theorem dX12_jumps_59 : decode cX12_jumps 59 = .ok (.bipush (-5), 2) := by decide +kernel
theorem dX12_jumps_61 : decode cX12_jumps 61 = .ok (.istore 7, 2) := by decide +kernel
theorem dX12_jumps_63 : decode cX12_jumps 63 = .ok (.iconst 2, 1) := by decide +kernel
theorem dX12_jumps_64 : decode cX12_jumps 64 = .ok (.istore 8, 2) := by decide +kernel
theorem dX12_jumps_66 : decode cX12_jumps 66 = .ok (.iload 8, 2) := by decide +kernel
theorem dX12_jumps_68 : decode cX12_jumps 68 = .ok (.bipush 60, 2) := by decide +kernel
theorem dX12_jumps_70 : decode cX12_jumps 70 = .ok (.if_icmp .gt 77, 3) := by decide +kernel
theorem dX12_jumps_73 : decode cX12_jumps 73 = .ok (.aload_n 0, 1) := by decide +kernel
theorem dX12_jumps_74 : decode cX12_jumps 74 = .ok (.getfield 32, 3) := by decide +kernel
theorem dX12_jumps_77 : decode cX12_jumps 77 = .ok (.iload 8, 2) := by decide +kernel
theorem dX12_jumps_79 : decode cX12_jumps 79 = .ok (.iaload, 1) := by decide +kernel
theorem dX12_jumps_80 : decode cX12_jumps 80 = .ok (.aload_n 0, 1) := by decide +kernel
theorem dX12_jumps_81 : decode cX12_jumps 81 = .ok (.getfield 32, 3) := by decide +kernel
theorem dX12_jumps_84 : decode cX12_jumps 84 = .ok (.iload 8, 2) := by decide +kernel
theorem dX12_jumps_86 : decode cX12_jumps 86 = .ok (.iconst 1, 1) := by decide +kernel
theorem dX12_jumps_87 : decode cX12_jumps 87 = .ok (.isub, 1) := by decide +kernel
theorem dX12_jumps_88 : decode cX12_jumps 88 = .ok (.iaload, 1) := by decide +kernel
theorem dX12_jumps_89 : decode cX12_jumps 89 = .ok (.isub, 1) := by decide +kernel
theorem dX12_jumps_90 : decode cX12_jumps 90 = .ok (.invokestatic 197, 3) := by decide +kernel
theorem dX12_jumps_93 : decode cX12_jumps 93 = .ok (.iload 4, 2) := by decide +kernel
theorem dX12_jumps_95 : decode cX12_jumps 95 = .ok (.if_icmp .lt 7, 3) := by decide +kernel
theorem dX12_jumps_98 : decode cX12_jumps 98 = .ok (.iconst 1, 1) := by decide +kernel
theorem dX12_jumps_99 : decode cX12_jumps 99 = .ok (.goto 4, 3) := by decide +kernel
theorem dX12_jumps_102 : decode cX12_jumps 102 = .ok (.iconst 0, 1) := by decide +kernel
theorem dX12_jumps_103 : decode cX12_jumps 103 = .ok (.istore 9, 2) := by decide +kernel
theorem dX12_jumps_105 : decode cX12_jumps 105 = .ok (.iload 6, 2) := by decide +kernel
theorem dX12_jumps_107 : decode cX12_jumps 107 = .ok (.iload 9, 2) := by decide +kernel
theorem dX12_jumps_109 : decode cX12_jumps 109 = .ok (.ifCond .eq 7, 3) := by decide +kernel
theorem dX12_jumps_112 : decode cX12_jumps 112 = .ok (.iconst 1, 1) := by decide +kernel
theorem dX12_jumps_113 : decode cX12_jumps 113 = .ok (.goto 4, 3) := by decide +kernel
theorem dX12_jumps_116 : decode cX12_jumps 116 = .ok (.iconst 0, 1) := by decide +kernel
theorem dX12_jumps_117 : decode cX12_jumps 117 = .ok (.iadd, 1) := by decide +kernel
theorem dX12_jumps_118 : decode cX12_jumps 118 = .ok (.istore 6, 2) := by decide +kernel
theorem dX12_jumps_120 : decode cX12_jumps 120 = .ok (.iload 9, 2) := by decide +kernel
theorem dX12_jumps_122 : decode cX12_jumps 122 = .ok (.ifCond .eq 15, 3) := by decide +kernel
theorem dX12_jumps_125 : decode cX12_jumps 125 = .ok (.iload 7, 2) := by decide +kernel
theorem dX12_jumps_127 : decode cX12_jumps 127 = .ok (.bipush (-5), 2) := by decide +kernel
theorem dX12_jumps_129 : decode cX12_jumps 129 = .ok (.if_icmp .ne 8, 3) := by decide +kernel
theorem dX12_jumps_132 : decode cX12_jumps 132 = .ok (.iload 8, 2) := by decide +kernel
theorem dX12_jumps_134 : decode cX12_jumps 134 = .ok (.goto 5, 3) := by decide +kernel
theorem dX12_jumps_137 : decode cX12_jumps 137 = .ok (.iload 7, 2) := by decide +kernel
theorem dX12_jumps_139 : decode cX12_jumps 139 = .ok (.istore 7, 2) := by decide +kernel
theorem dX12_jumps_141 : decode cX12_jumps 141 = .ok (.iinc 8 1, 3) := by decide +kernel
theorem dX12_jumps_144 : decode cX12_jumps 144 = .ok (.goto (-78), 3) := by decide +kernel
theorem dX12_jumps_147 : decode cX12_jumps 147 = .ok (.iload 5, 2) := by decide +kernel
theorem dX12_jumps_149 : decode cX12_jumps 149 = .ok (.ifCond .ne 8, 3) := by decide +kernel
theorem dX12_jumps_152 : decode cX12_jumps 152 = .ok (.iload 6, 2) := by decide +kernel
theorem dX12_jumps_154 : decode cX12_jumps 154 = .ok (.goto 5, 3) := by decide +kernel
theorem dX12_jumps_157 : decode cX12_jumps 157 = .ok (.iload 7, 2) := by decide +kernel
theorem dX12_jumps_159 : decode cX12_jumps 159 = .ok (.ireturn, 1) := by decide +kernel
theorem dX12_several_0 : decode cX12_several 0 = .ok (.aload_n 0, 1) := by decide +kernel
theorem dX12_several_1 : decode cX12_several 1 = .ok (.iload_n 1, 1) := by decide +kernel
theorem dX12_several_2 : decode cX12_several 2 = .ok (.invokevirtual 148, 3) := by decide +kernel
theorem dX12_several_5 : decode cX12_several 5 = .ok (.ifCond .eq 21, 3) := by decide +kernel
theorem dX12_several_8 : decode cX12_several 8 = .ok (.aload_n 0, 1) := by decide +kernel
theorem dX12_several_9 : decode cX12_several 9 = .ok (.iload_n 2, 1) := by decide +kernel
theorem dX12_several_10 : decode cX12_several 10 = .ok (.invokevirtual 59, 3) := by decide +kernel
theorem dX12_several_13 : decode cX12_several 13 = .ok (.ifCond .eq 13, 3) := by decide +kernel
theorem dX12_several_16 : decode cX12_several 16 = .ok (.iload 4, 2) := by decide +kernel
theorem dX12_several_18 : decode cX12_several 18 = .ok (.iconst 0, 1) := by decide +kernel
theorem dX12_several_19 : decode cX12_several 19 = .ok (.iconst 2, 1) := by decide +kernel
theorem dX12_several_20 : decode cX12_several 20 = .ok (.invokestatic 54, 3) := by decide +kernel
theorem dX12_several_23 : decode cX12_several 23 = .ok (.ifCond .ne 5, 3) := by decide +kernel
theorem dX12_several_26 : decode cX12_several 26 = .ok (.iconst (-1), 1) := by decide +kernel
theorem dX12_several_27 : decode cX12_several 27 = .ok (.ireturn, 1) := by decide +kernel
theorem dX12_several_28 : decode cX12_several 28 = .ok (.iload_n 3, 1) := by decide +kernel
theorem dX12_several_29 : decode cX12_several 29 = .ok (.invokestatic 190, 3) := by decide +kernel
theorem dX12_several_32 : decode cX12_several 32 = .ok (.ifCond .ne 6, 3) := by decide +kernel
theorem dX12_several_35 : decode cX12_several 35 = .ok (.bipush (-2), 2) := by decide +kernel
theorem dX12_several_37 : decode cX12_several 37 = .ok (.ireturn, 1) := by decide +kernel
theorem dX12_several_38 : decode cX12_several 38 = .ok (.aload_n 0, 1) := by decide +kernel
theorem dX12_several_39 : decode cX12_several 39 = .ok (.iload_n 1, 1) := by decide +kernel
theorem dX12_several_40 : decode cX12_several 40 = .ok (.iload_n 2, 1) := by decide +kernel
theorem dX12_several_41 : decode cX12_several 41 = .ok (.iload_n 3, 1) := by decide +kernel
theorem dX12_several_42 : decode cX12_several 42 = .ok (.invokevirtual 193, 3) := by decide +kernel
theorem dX12_several_45 : decode cX12_several 45 = .ok (.iconst 0, 1) := by decide +kernel
theorem dX12_several_46 : decode cX12_several 46 = .ok (.istore 5, 2) := by decide +kernel
theorem dX12_several_48 : decode cX12_several 48 = .ok (.bipush (-5), 2) := by decide +kernel
theorem dX12_several_50 : decode cX12_several 50 = .ok (.istore 6, 2) := by decide +kernel
theorem dX12_several_52 : decode cX12_several 52 = .ok (.bipush (-5), 2) := by decide +kernel
theorem dX12_several_54 : decode cX12_several 54 = .ok (.istore 7, 2) := by decide +kernel
theorem dX12_several_56 : decode cX12_several 56 = .ok (.iconst 1, 1) := by decide +kernel
theorem dX12_several_57 : decode cX12_several 57 = .ok (.istore 8, 2) := by decide +kernel
theorem dX12_several_59 : decode cX12_several 59 = .ok (.iload 8, 2) := by decide +kernel
theorem dX12_several_61 : decode cX12_several 61 = .ok (.bipush 60, 2) := by decide +kernel
theorem dX12_several_63 : decode cX12_several 63 = .ok (.if_icmp .gt 83, 3) := by decide +kernel
theorem dX12_several_66 : decode cX12_several 66 = .ok (.aload_n 0, 1) := by decide +kernel
theorem dX12_several_67 : decode cX12_several 67 = .ok (.getfield 32, 3) := by decide +kernel
theorem dX12_several_70 : decode cX12_several 70 = .ok (.iload 8, 2) := by decide +kernel
theorem dX12_several_72 : decode cX12_several 72 = .ok (.iaload, 1) := by decide +kernel
theorem dX12_several_73 : decode cX12_several 73 = .ok (.aload_n 0, 1) := by decide +kernel
theorem dX12_several_74 : decode cX12_several 74 = .ok (.getfield 35, 3) := by decide +kernel
theorem dX12_several_77 : decode cX12_several 77 = .ok (.iload 8, 2) := by decide +kernel
theorem dX12_several_79 : decode cX12_several 79 = .ok (.iaload, 1) := by decide +kernel
theorem dX12_several_80 : decode cX12_several 80 = .ok (.if_icmp .eq 7, 3) := by decide +kernel
theorem dX12_several_83 : decode cX12_several 83 = .ok (.iconst 1, 1) := by decide +kernel
theorem dX12_several_84 : decode cX12_several 84 = .ok (.goto 4, 3) := by decide +kernel
theorem dX12_several_87 : decode cX12_several 87 = .ok (.iconst 0, 1) := by decide +kernel
theorem dX12_several_88 : decode cX12_several 88 = .ok (.istore 9, 2) := by decide +kernel
theorem dX12_several_90 : decode cX12_several 90 = .ok (.iload 5, 2) := by decide +kernel
theorem dX12_several_92 : decode cX12_several 92 = .ok (.iload 9, 2) := by decide +kernel
theorem dX12_several_94 : decode cX12_several 94 = .ok (.ifCond .eq 7, 3) := by decide +kernel
theorem dX12_several_97 : decode cX12_several 97 = .ok (.iconst 1, 1) := by decide +kernel
theorem dX12_several_98 : decode cX12_several 98 = .ok (.goto 4, 3) := by decide +kernel
theorem dX12_several_101 : decode cX12_several 101 = .ok (.iconst 0, 1) := by decide +kernel
theorem dX12_several_102 : decode cX12_several 102 = .ok (.iadd, 1) := by decide +kernel
theorem dX12_several_103 : decode cX12_several 103 = .ok (.istore 5, 2) := by decide +kernel
theorem dX12_several_105 : decode cX12_several 105 = .ok (.iload 9, 2) := by decide +kernel
theorem dX12_several_107 : decode cX12_several 107 = .ok (.ifCond .eq 15, 3) := by decide +kernel
theorem dX12_several_110 : decode cX12_several 110 = .ok (.iload 6, 2) := by decide +kernel
theorem dX12_several_112 : decode cX12_several 112 = .ok (.bipush (-5), 2) := by decide +kernel
theorem dX12_several_114 : decode cX12_several 114 = .ok (.if_icmp .ne 8, 3) := by decide +kernel
theorem dX12_several_117 : decode cX12_several 117 = .ok (.iload 8, 2) := by decide +kernel
theorem dX12_several_119 : decode cX12_several 119 = .ok (.goto 5, 3) := by decide +kernel
theorem dX12_several_122 : decode cX12_several 122 = .ok (.iload 6, 2) := by decide +kernel
theorem dX12_several_124 : decode cX12_several 124 = .ok (.istore 6, 2) := by decide +kernel
theorem dX12_several_126 : decode cX12_several 126 = .ok (.iload 9, 2) := by decide +kernel
theorem dX12_several_128 : decode cX12_several 128 = .ok (.ifCond .eq 8, 3) := by decide +kernel
theorem dX12_several_131 : decode cX12_several 131 = .ok (.iload 8, 2) := by decide +kernel
theorem dX12_several_133 : decode cX12_several 133 = .ok (.goto 5, 3) := by decide +kernel
theorem dX12_several_136 : decode cX12_several 136 = .ok (.iload 7, 2) := by decide +kernel
theorem dX12_several_138 : decode cX12_several 138 = .ok (.istore 7, 2) := by decide +kernel
theorem dX12_several_140 : decode cX12_several 140 = .ok (.iinc 8 1, 3) := by decide +kernel
theorem dX12_several_143 : decode cX12_several 143 = .ok (.goto (-84), 3) := by decide +kernel
theorem dX12_several_146 : decode cX12_several 146 = .ok (.iload 4, 2) := by decide +kernel
theorem dX12_several_148 : decode cX12_several 148 = .ok (.ifCond .ne 8, 3) := by decide +kernel
theorem dX12_several_151 : decode cX12_several 151 = .ok (.iload 5, 2) := by decide +kernel
theorem dX12_several_153 : decode cX12_several 153 = .ok (.goto 16, 3) := by decide +kernel
theorem dX12_several_156 : decode cX12_several 156 = .ok (.iload 4, 2) := by decide +kernel
theorem dX12_several_158 : decode cX12_several 158 = .ok (.iconst 1, 1) := by decide +kernel
theorem dX12_several_159 : decode cX12_several 159 = .ok (.if_icmp .ne 8, 3) := by decide +kernel
theorem dX12_several_162 : decode cX12_several 162 = .ok (.iload 6, 2) := by decide +kernel
theorem dX12_several_164 : decode cX12_several 164 = .ok (.goto 5, 3) := by decide +kernel
theorem dX12_several_167 : decode cX12_several 167 = .ok (.iload 7, 2) := by decide +kernel
theorem dX12_several_169 : decode cX12_several 169 = .ok (.ireturn, 1) := by decide +kernel
theorem dX12_order_0 : decode cX12_order 0 = .ok (.aload_n 0, 1) := by decide +kernel
theorem dX12_order_1 : decode cX12_order 1 = .ok (.iload_n 1, 1) := by decide +kernel
theorem dX12_order_2 : decode cX12_order 2 = .ok (.invokevirtual 148, 3) := by decide +kernel
theorem dX12_order_5 : decode cX12_order 5 = .ok (.ifCond .eq 11, 3) := by decide +kernel
theorem dX12_order_8 : decode cX12_order 8 = .ok (.aload_n 0, 1) := by decide +kernel
theorem dX12_order_9 : decode cX12_order 9 = .ok (.iload_n 2, 1) := by decide +kernel
theorem dX12_order_10 : decode cX12_order 10 = .ok (.invokevirtual 59, 3) := by decide +kernel
theorem dX12_order_13 : decode cX12_order 13 = .ok (.ifCond .ne 5, 3) := by decide +kernel
theorem dX12_order_16 : decode cX12_order 16 = .ok (.iconst (-1), 1) := by decide +kernel
theorem dX12_order_17 : decode cX12_order 17 = .ok (.ireturn, 1) := by decide +kernel
theorem dX12_order_18 : decode cX12_order 18 = .ok (.iload_n 3, 1) := by decide +kernel
theorem dX12_order_19 : decode cX12_order 19 = .ok (.invokestatic 170, 3) := by decide +kernel
theorem dX12_order_22 : decode cX12_order 22 = .ok (.ifCond .eq 13, 3) := by decide +kernel
theorem dX12_order_25 : decode cX12_order 25 = .ok (.iload 4, 2) := by decide +kernel
theorem dX12_order_27 : decode cX12_order 27 = .ok (.iconst 0, 1) := by decide +kernel
theorem dX12_order_28 : decode cX12_order 28 = .ok (.iconst 4, 1) := by decide +kernel
theorem dX12_order_29 : decode cX12_order 29 = .ok (.invokestatic 54, 3) := by decide +kernel
theorem dX12_order_32 : decode cX12_order 32 = .ok (.ifCond .ne 6, 3) := by decide +kernel
theorem dX12_order_35 : decode cX12_order 35 = .ok (.bipush (-2), 2) := by decide +kernel
theorem dX12_order_37 : decode cX12_order 37 = .ok (.ireturn, 1) := by decide +kernel
theorem dX12_order_38 : decode cX12_order 38 = .ok (.iconst 0, 1) := by decide +kernel
theorem dX12_order_39 : decode cX12_order 39 = .ok (.istore 5, 2) := by decide +kernel
theorem dX12_order_41 : decode cX12_order 41 = .ok (.iload 5, 2) := by decide +kernel
theorem dX12_order_43 : decode cX12_order 43 = .ok (.bipush 100, 2) := by decide +kernel
theorem dX12_order_45 : decode cX12_order 45 = .ok (.if_icmp .ge 37, 3) := by decide +kernel
theorem dX12_order_48 : decode cX12_order 48 = .ok (.aload_n 0, 1) := by decide +kernel
theorem dX12_order_49 : decode cX12_order 49 = .ok (.iload_n 1, 1) := by decide +kernel
theorem dX12_order_50 : decode cX12_order 50 = .ok (.iload_n 2, 1) := by decide +kernel
theorem dX12_order_51 : decode cX12_order 51 = .ok (.iload_n 3, 1) := by decide +kernel
theorem dX12_order_52 : decode cX12_order 52 = .ok (.sipush 10000, 3) := by decide +kernel
theorem dX12_order_55 : decode cX12_order 55 = .ok (.idiv, 1) := by decide +kernel
theorem dX12_order_56 : decode cX12_order 56 = .ok (.iload_n 3, 1) := by decide +kernel
theorem dX12_order_57 : decode cX12_order 57 = .ok (.bipush 100, 2) := by decide +kernel
theorem dX12_order_59 : decode cX12_order 59 = .ok (.idiv, 1) := by decide +kernel
theorem dX12_order_60 : decode cX12_order 60 = .ok (.bipush 100, 2) := by decide +kernel
theorem dX12_order_62 : decode cX12_order 62 = .ok (.irem, 1) := by decide +kernel
theorem dX12_order_63 : decode cX12_order 63 = .ok (.iload 5, 2) := by decide +kernel
theorem dX12_order_65 : decode cX12_order 65 = .ok (.invokevirtual 173, 3) := by decide +kernel
theorem dX12_order_68 : decode cX12_order 68 = .ok (.iload 4, 2) := by decide +kernel
theorem dX12_order_70 : decode cX12_order 70 = .ok (.if_icmp .ne 6, 3) := by decide +kernel
theorem dX12_order_73 : decode cX12_order 73 = .ok (.iload 5, 2) := by decide +kernel
theorem dX12_order_75 : decode cX12_order 75 = .ok (.ireturn, 1) := by decide +kernel
theorem dX12_order_76 : decode cX12_order 76 = .ok (.iinc 5 1, 3) := by decide +kernel
theorem dX12_order_79 : decode cX12_order 79 = .ok (.goto (-38), 3) := by decide +kernel
theorem dX12_order_82 : decode cX12_order 82 = .ok (.bipush (-5), 2) := by decide +kernel
theorem dX12_order_84 : decode cX12_order 84 = .ok (.ireturn, 1) := by decide +kernel
theorem dX12_want_0 : decode cX12_want 0 = .ok (.iload_n 1, 1) := by decide +kernel
theorem dX12_want_1 : decode cX12_want 1 = .ok (.iconst (-1), 1) := by decide +kernel
theorem dX12_want_2 : decode cX12_want 2 = .ok (.if_icmp .ne 12, 3) := by decide +kernel
theorem dX12_want_5 : decode cX12_want 5 = .ok (.aload_n 0, 1) := by decide +kernel
theorem dX12_want_6 : decode cX12_want 6 = .ok (.getfield 7, 3) := by decide +kernel
theorem dX12_want_9 : decode cX12_want 9 = .ok (.iconst 4, 1) := by decide +kernel
theorem dX12_want_10 : decode cX12_want 10 = .ok (.iconst 0, 1) := by decide +kernel
theorem dX12_want_11 : decode cX12_want 11 = .ok (.iastore, 1) := by decide +kernel
theorem dX12_want_12 : decode cX12_want 12 = .ok (.iconst 0, 1) := by decide +kernel
theorem dX12_want_13 : decode cX12_want 13 = .ok (.ireturn, 1) := by decide +kernel
theorem dX12_want_14 : decode cX12_want 14 = .ok (.iload_n 1, 1) := by decide +kernel
theorem dX12_want_15 : decode cX12_want 15 = .ok (.iconst 0, 1) := by decide +kernel
theorem dX12_want_16 : decode cX12_want 16 = .ok (.iconst 4, 1) := by decide +kernel
theorem dX12_want_17 : decode cX12_want 17 = .ok (.invokestatic 54, 3) := by decide +kernel
theorem dX12_want_20 : decode cX12_want 20 = .ok (.ifCond .ne 6, 3) := by decide +kernel
theorem dX12_want_23 : decode cX12_want 23 = .ok (.bipush (-2), 2) := by decide +kernel
theorem dX12_want_25 : decode cX12_want 25 = .ok (.ireturn, 1) := by decide +kernel
theorem dX12_want_26 : decode cX12_want 26 = .ok (.aload_n 0, 1) := by decide +kernel
theorem dX12_want_27 : decode cX12_want 27 = .ok (.getfield 7, 3) := by decide +kernel
theorem dX12_want_30 : decode cX12_want 30 = .ok (.iconst 4, 1) := by decide +kernel
theorem dX12_want_31 : decode cX12_want 31 = .ok (.iaload, 1) := by decide +kernel
theorem dX12_want_32 : decode cX12_want 32 = .ok (.bipush 8, 2) := by decide +kernel
theorem dX12_want_34 : decode cX12_want 34 = .ok (.if_icmp .ne 6, 3) := by decide +kernel
theorem dX12_want_37 : decode cX12_want 37 = .ok (.bipush (-4), 2) := by decide +kernel
theorem dX12_want_39 : decode cX12_want 39 = .ok (.ireturn, 1) := by decide +kernel
theorem dX12_want_40 : decode cX12_want 40 = .ok (.aload_n 0, 1) := by decide +kernel
theorem dX12_want_41 : decode cX12_want 41 = .ok (.getfield 7, 3) := by decide +kernel
theorem dX12_want_44 : decode cX12_want 44 = .ok (.sipush 1352, 3) := by decide +kernel
theorem dX12_want_47 : decode cX12_want 47 = .ok (.aload_n 0, 1) := by decide +kernel
theorem dX12_want_48 : decode cX12_want 48 = .ok (.getfield 7, 3) := by decide +kernel
theorem dX12_want_51 : decode cX12_want 51 = .ok (.iconst 4, 1) := by decide +kernel
theorem dX12_want_52 : decode cX12_want 52 = .ok (.iaload, 1) := by decide +kernel
theorem dX12_want_53 : decode cX12_want 53 = .ok (.iadd, 1) := by decide +kernel
theorem dX12_want_54 : decode cX12_want 54 = .ok (.iload_n 1, 1) := by decide +kernel
theorem dX12_want_55 : decode cX12_want 55 = .ok (.iastore, 1) := by decide +kernel
theorem dX12_want_56 : decode cX12_want 56 = .ok (.aload_n 0, 1) := by decide +kernel
theorem dX12_want_57 : decode cX12_want 57 = .ok (.getfield 7, 3) := by decide +kernel
theorem dX12_want_60 : decode cX12_want 60 = .ok (.iconst 4, 1) := by decide +kernel
theorem dX12_want_61 : decode cX12_want 61 = .ok (.dup2, 1) := by decide +kernel
theorem dX12_want_62 : decode cX12_want 62 = .ok (.iaload, 1) := by decide +kernel
theorem dX12_want_63 : decode cX12_want 63 = .ok (.iconst 1, 1) := by decide +kernel
theorem dX12_want_64 : decode cX12_want 64 = .ok (.iadd, 1) := by decide +kernel
theorem dX12_want_65 : decode cX12_want 65 = .ok (.iastore, 1) := by decide +kernel
theorem dX12_want_66 : decode cX12_want 66 = .ok (.aload_n 0, 1) := by decide +kernel
theorem dX12_want_67 : decode cX12_want 67 = .ok (.getfield 7, 3) := by decide +kernel
theorem dX12_want_70 : decode cX12_want 70 = .ok (.iconst 4, 1) := by decide +kernel
theorem dX12_want_71 : decode cX12_want 71 = .ok (.iaload, 1) := by decide +kernel
theorem dX12_want_72 : decode cX12_want 72 = .ok (.ireturn, 1) := by decide +kernel
theorem dX12_looksAhead_0 : decode cX12_looksAhead 0 = .ok (.iconst 0, 1) := by decide +kernel
theorem dX12_looksAhead_1 : decode cX12_looksAhead 1 = .ok (.istore_n 2, 1) := by decide +kernel
theorem dX12_looksAhead_2 : decode cX12_looksAhead 2 = .ok (.iload_n 2, 1) := by decide +kernel
theorem dX12_looksAhead_3 : decode cX12_looksAhead 3 = .ok (.bipush 100, 2) := by decide +kernel
theorem dX12_looksAhead_5 : decode cX12_looksAhead 5 = .ok (.if_icmp .ge 26, 3) := by decide +kernel
theorem dX12_looksAhead_8 : decode cX12_looksAhead 8 = .ok (.aload_n 0, 1) := by decide +kernel
theorem dX12_looksAhead_9 : decode cX12_looksAhead 9 = .ok (.getfield 41, 3) := by decide +kernel
theorem dX12_looksAhead_12 : decode cX12_looksAhead 12 = .ok (.bipush 100, 2) := by decide +kernel
theorem dX12_looksAhead_14 : decode cX12_looksAhead 14 = .ok (.aload_n 0, 1) := by decide +kernel
theorem dX12_looksAhead_15 : decode cX12_looksAhead 15 = .ok (.getfield 7, 3) := by decide +kernel
theorem dX12_looksAhead_18 : decode cX12_looksAhead 18 = .ok (.iconst 4, 1) := by decide +kernel
theorem dX12_looksAhead_19 : decode cX12_looksAhead 19 = .ok (.iaload, 1) := by decide +kernel
theorem dX12_looksAhead_20 : decode cX12_looksAhead 20 = .ok (.imul, 1) := by decide +kernel
theorem dX12_looksAhead_21 : decode cX12_looksAhead 21 = .ok (.iload_n 2, 1) := by decide +kernel
theorem dX12_looksAhead_22 : decode cX12_looksAhead 22 = .ok (.iadd, 1) := by decide +kernel
theorem dX12_looksAhead_23 : decode cX12_looksAhead 23 = .ok (.iconst 0, 1) := by decide +kernel
theorem dX12_looksAhead_24 : decode cX12_looksAhead 24 = .ok (.iastore, 1) := by decide +kernel
theorem dX12_looksAhead_25 : decode cX12_looksAhead 25 = .ok (.iinc 2 1, 3) := by decide +kernel
theorem dX12_looksAhead_28 : decode cX12_looksAhead 28 = .ok (.goto (-26), 3) := by decide +kernel
theorem dX12_looksAhead_31 : decode cX12_looksAhead 31 = .ok (.aload_n 0, 1) := by decide +kernel
theorem dX12_looksAhead_32 : decode cX12_looksAhead 32 = .ok (.getfield 7, 3) := by decide +kernel
theorem dX12_looksAhead_35 : decode cX12_looksAhead 35 = .ok (.iconst 4, 1) := by decide +kernel
theorem dX12_looksAhead_36 : decode cX12_looksAhead 36 = .ok (.iaload, 1) := by decide +kernel
theorem dX12_looksAhead_37 : decode cX12_looksAhead 37 = .ok (.iconst 1, 1) := by decide +kernel
theorem dX12_looksAhead_38 : decode cX12_looksAhead 38 = .ok (.isub, 1) := by decide +kernel
theorem dX12_looksAhead_39 : decode cX12_looksAhead 39 = .ok (.istore_n 2, 1) := by decide +kernel
theorem dX12_looksAhead_40 : decode cX12_looksAhead 40 = .ok (.iload_n 2, 1) := by decide +kernel
theorem dX12_looksAhead_41 : decode cX12_looksAhead 41 = .ok (.ifCond .lt 200, 3) := by decide +kernel
theorem dX12_looksAhead_44 : decode cX12_looksAhead 44 = .ok (.iconst 0, 1) := by decide +kernel
theorem dX12_looksAhead_45 : decode cX12_looksAhead 45 = .ok (.istore_n 3, 1) := by decide +kernel
theorem dX12_looksAhead_46 : decode cX12_looksAhead 46 = .ok (.iload_n 3, 1) := by decide +kernel
theorem dX12_looksAhead_47 : decode cX12_looksAhead 47 = .ok (.bipush 100, 2) := by decide +kernel
theorem dX12_looksAhead_49 : decode cX12_looksAhead 49 = .ok (.if_icmp .ge 186, 3) := by decide +kernel
theorem dX12_looksAhead_52 : decode cX12_looksAhead 52 = .ok (.iconst (-1), 1) := by decide +kernel
theorem dX12_looksAhead_53 : decode cX12_looksAhead 53 = .ok (.istore 4, 2) := by decide +kernel
theorem dX12_looksAhead_55 : decode cX12_looksAhead 55 = .ok (.iconst 0, 1) := by decide +kernel
theorem dX12_looksAhead_56 : decode cX12_looksAhead 56 = .ok (.istore 5, 2) := by decide +kernel
theorem dX12_looksAhead_58 : decode cX12_looksAhead 58 = .ok (.iload 5, 2) := by decide +kernel
theorem dX12_looksAhead_60 : decode cX12_looksAhead 60 = .ok (.bipush 100, 2) := by decide +kernel
theorem dX12_looksAhead_62 : decode cX12_looksAhead 62 = .ok (.if_icmp .ge 131, 3) := by decide +kernel
theorem dX12_looksAhead_65 : decode cX12_looksAhead 65 = .ok (.iload_n 2, 1) := by decide +kernel
theorem dX12_looksAhead_66 : decode cX12_looksAhead 66 = .ok (.iconst 1, 1) := by decide +kernel
theorem dX12_looksAhead_67 : decode cX12_looksAhead 67 = .ok (.iadd, 1) := by decide +kernel
theorem dX12_looksAhead_68 : decode cX12_looksAhead 68 = .ok (.aload_n 0, 1) := by decide +kernel
theorem dX12_looksAhead_69 : decode cX12_looksAhead 69 = .ok (.getfield 7, 3) := by decide +kernel
theorem dX12_looksAhead_72 : decode cX12_looksAhead 72 = .ok (.iconst 4, 1) := by decide +kernel
theorem dX12_looksAhead_73 : decode cX12_looksAhead 73 = .ok (.iaload, 1) := by decide +kernel
theorem dX12_looksAhead_74 : decode cX12_looksAhead 74 = .ok (.if_icmp .ne 17, 3) := by decide +kernel
theorem dX12_looksAhead_77 : decode cX12_looksAhead 77 = .ok (.iload 5, 2) := by decide +kernel
theorem dX12_looksAhead_79 : decode cX12_looksAhead 79 = .ok (.iload_n 3, 1) := by decide +kernel
theorem dX12_looksAhead_80 : decode cX12_looksAhead 80 = .ok (.if_icmp .ne 7, 3) := by decide +kernel
theorem dX12_looksAhead_83 : decode cX12_looksAhead 83 = .ok (.iconst 1, 1) := by decide +kernel
theorem dX12_looksAhead_84 : decode cX12_looksAhead 84 = .ok (.goto 41, 3) := by decide +kernel
theorem dX12_looksAhead_87 : decode cX12_looksAhead 87 = .ok (.iconst 0, 1) := by decide +kernel
theorem dX12_looksAhead_88 : decode cX12_looksAhead 88 = .ok (.goto 37, 3) := by decide +kernel
theorem dX12_looksAhead_91 : decode cX12_looksAhead 91 = .ok (.iload_n 3, 1) := by decide +kernel
theorem dX12_looksAhead_92 : decode cX12_looksAhead 92 = .ok (.iload 5, 2) := by decide +kernel
theorem dX12_looksAhead_94 : decode cX12_looksAhead 94 = .ok (.isub, 1) := by decide +kernel
theorem dX12_looksAhead_95 : decode cX12_looksAhead 95 = .ok (.invokestatic 197, 3) := by decide +kernel
theorem dX12_looksAhead_98 : decode cX12_looksAhead 98 = .ok (.iload_n 1, 1) := by decide +kernel
theorem dX12_looksAhead_99 : decode cX12_looksAhead 99 = .ok (.if_icmp .gt 25, 3) := by decide +kernel
theorem dX12_looksAhead_102 : decode cX12_looksAhead 102 = .ok (.aload_n 0, 1) := by decide +kernel
theorem dX12_looksAhead_103 : decode cX12_looksAhead 103 = .ok (.getfield 41, 3) := by decide +kernel
theorem dX12_looksAhead_106 : decode cX12_looksAhead 106 = .ok (.bipush 100, 2) := by decide +kernel
theorem dX12_looksAhead_108 : decode cX12_looksAhead 108 = .ok (.iload_n 2, 1) := by decide +kernel
theorem dX12_looksAhead_109 : decode cX12_looksAhead 109 = .ok (.iconst 1, 1) := by decide +kernel
theorem dX12_looksAhead_110 : decode cX12_looksAhead 110 = .ok (.iadd, 1) := by decide +kernel
theorem dX12_looksAhead_111 : decode cX12_looksAhead 111 = .ok (.imul, 1) := by decide +kernel
theorem dX12_looksAhead_112 : decode cX12_looksAhead 112 = .ok (.iload 5, 2) := by decide +kernel
theorem dX12_looksAhead_114 : decode cX12_looksAhead 114 = .ok (.iadd, 1) := by decide +kernel
theorem dX12_looksAhead_115 : decode cX12_looksAhead 115 = .ok (.iaload, 1) := by decide +kernel
theorem dX12_looksAhead_116 : decode cX12_looksAhead 116 = .ok (.iconst (-1), 1) := by decide +kernel
theorem dX12_looksAhead_117 : decode cX12_looksAhead 117 = .ok (.if_icmp .eq 7, 3) := by decide +kernel
theorem dX12_looksAhead_120 : decode cX12_looksAhead 120 = .ok (.iconst 1, 1) := by decide +kernel
theorem dX12_looksAhead_121 : decode cX12_looksAhead 121 = .ok (.goto 4, 3) := by decide +kernel
theorem dX12_looksAhead_124 : decode cX12_looksAhead 124 = .ok (.iconst 0, 1) := by decide +kernel
theorem dX12_looksAhead_125 : decode cX12_looksAhead 125 = .ok (.istore 6, 2) := by decide +kernel
theorem dX12_looksAhead_127 : decode cX12_looksAhead 127 = .ok (.iload 6, 2) := by decide +kernel
theorem dX12_looksAhead_129 : decode cX12_looksAhead 129 = .ok (.ifCond .eq 28, 3) := by decide +kernel
theorem dX12_looksAhead_132 : decode cX12_looksAhead 132 = .ok (.iload_n 3, 1) := by decide +kernel
theorem dX12_looksAhead_133 : decode cX12_looksAhead 133 = .ok (.iload 5, 2) := by decide +kernel
theorem dX12_looksAhead_135 : decode cX12_looksAhead 135 = .ok (.isub, 1) := by decide +kernel
theorem dX12_looksAhead_136 : decode cX12_looksAhead 136 = .ok (.invokestatic 197, 3) := by decide +kernel
theorem dX12_looksAhead_139 : decode cX12_looksAhead 139 = .ok (.aload_n 0, 1) := by decide +kernel
theorem dX12_looksAhead_140 : decode cX12_looksAhead 140 = .ok (.getfield 41, 3) := by decide +kernel
theorem dX12_looksAhead_143 : decode cX12_looksAhead 143 = .ok (.bipush 100, 2) := by decide +kernel
theorem dX12_looksAhead_145 : decode cX12_looksAhead 145 = .ok (.iload_n 2, 1) := by decide +kernel
theorem dX12_looksAhead_146 : decode cX12_looksAhead 146 = .ok (.iconst 1, 1) := by decide +kernel
theorem dX12_looksAhead_147 : decode cX12_looksAhead 147 = .ok (.iadd, 1) := by decide +kernel
theorem dX12_looksAhead_148 : decode cX12_looksAhead 148 = .ok (.imul, 1) := by decide +kernel
theorem dX12_looksAhead_149 : decode cX12_looksAhead 149 = .ok (.iload 5, 2) := by decide +kernel
theorem dX12_looksAhead_151 : decode cX12_looksAhead 151 = .ok (.iadd, 1) := by decide +kernel
theorem dX12_looksAhead_152 : decode cX12_looksAhead 152 = .ok (.iaload, 1) := by decide +kernel
theorem dX12_looksAhead_153 : decode cX12_looksAhead 153 = .ok (.iadd, 1) := by decide +kernel
theorem dX12_looksAhead_154 : decode cX12_looksAhead 154 = .ok (.goto 4, 3) := by decide +kernel
theorem dX12_looksAhead_157 : decode cX12_looksAhead 157 = .ok (.iconst (-1), 1) := by decide +kernel
theorem dX12_looksAhead_158 : decode cX12_looksAhead 158 = .ok (.istore 7, 2) := by decide +kernel
theorem dX12_looksAhead_160 : decode cX12_looksAhead 160 = .ok (.iload 6, 2) := by decide +kernel
theorem dX12_looksAhead_162 : decode cX12_looksAhead 162 = .ok (.ifCond .eq 21, 3) := by decide +kernel
theorem dX12_looksAhead_165 : decode cX12_looksAhead 165 = .ok (.iload 4, 2) := by decide +kernel
theorem dX12_looksAhead_167 : decode cX12_looksAhead 167 = .ok (.iconst (-1), 1) := by decide +kernel
theorem dX12_looksAhead_168 : decode cX12_looksAhead 168 = .ok (.if_icmp .eq 10, 3) := by decide +kernel
theorem dX12_looksAhead_171 : decode cX12_looksAhead 171 = .ok (.iload 7, 2) := by decide +kernel
theorem dX12_looksAhead_173 : decode cX12_looksAhead 173 = .ok (.iload 4, 2) := by decide +kernel
theorem dX12_looksAhead_175 : decode cX12_looksAhead 175 = .ok (.if_icmp .ge 8, 3) := by decide +kernel
theorem dX12_looksAhead_178 : decode cX12_looksAhead 178 = .ok (.iload 7, 2) := by decide +kernel
theorem dX12_looksAhead_180 : decode cX12_looksAhead 180 = .ok (.goto 5, 3) := by decide +kernel
theorem dX12_looksAhead_183 : decode cX12_looksAhead 183 = .ok (.iload 4, 2) := by decide +kernel
theorem dX12_looksAhead_185 : decode cX12_looksAhead 185 = .ok (.istore 4, 2) := by decide +kernel
theorem dX12_looksAhead_187 : decode cX12_looksAhead 187 = .ok (.iinc 5 1, 3) := by decide +kernel
theorem dX12_looksAhead_190 : decode cX12_looksAhead 190 = .ok (.goto (-132), 3) := by decide +kernel
theorem dX12_looksAhead_193 : decode cX12_looksAhead 193 = .ok (.aload_n 0, 1) := by decide +kernel
theorem dX12_looksAhead_194 : decode cX12_looksAhead 194 = .ok (.getfield 41, 3) := by decide +kernel
theorem dX12_looksAhead_197 : decode cX12_looksAhead 197 = .ok (.bipush 100, 2) := by decide +kernel
theorem dX12_looksAhead_199 : decode cX12_looksAhead 199 = .ok (.iload_n 2, 1) := by decide +kernel
theorem dX12_looksAhead_200 : decode cX12_looksAhead 200 = .ok (.imul, 1) := by decide +kernel
theorem dX12_looksAhead_201 : decode cX12_looksAhead 201 = .ok (.iload_n 3, 1) := by decide +kernel
theorem dX12_looksAhead_202 : decode cX12_looksAhead 202 = .ok (.iadd, 1) := by decide +kernel
theorem dX12_looksAhead_203 : decode cX12_looksAhead 203 = .ok (.aload_n 0, 1) := by decide +kernel
theorem dX12_looksAhead_204 : decode cX12_looksAhead 204 = .ok (.getfield 38, 3) := by decide +kernel
theorem dX12_looksAhead_207 : decode cX12_looksAhead 207 = .ok (.iload_n 3, 1) := by decide +kernel
theorem dX12_looksAhead_208 : decode cX12_looksAhead 208 = .ok (.iaload, 1) := by decide +kernel
theorem dX12_looksAhead_209 : decode cX12_looksAhead 209 = .ok (.aload_n 0, 1) := by decide +kernel
theorem dX12_looksAhead_210 : decode cX12_looksAhead 210 = .ok (.getfield 7, 3) := by decide +kernel
theorem dX12_looksAhead_213 : decode cX12_looksAhead 213 = .ok (.sipush 1352, 3) := by decide +kernel
theorem dX12_looksAhead_216 : decode cX12_looksAhead 216 = .ok (.iload_n 2, 1) := by decide +kernel
theorem dX12_looksAhead_217 : decode cX12_looksAhead 217 = .ok (.iadd, 1) := by decide +kernel
theorem dX12_looksAhead_218 : decode cX12_looksAhead 218 = .ok (.iaload, 1) := by decide +kernel
theorem dX12_looksAhead_219 : decode cX12_looksAhead 219 = .ok (.if_icmp .ne 8, 3) := by decide +kernel
theorem dX12_looksAhead_222 : decode cX12_looksAhead 222 = .ok (.iload 4, 2) := by decide +kernel
theorem dX12_looksAhead_224 : decode cX12_looksAhead 224 = .ok (.goto 4, 3) := by decide +kernel
theorem dX12_looksAhead_227 : decode cX12_looksAhead 227 = .ok (.iconst (-1), 1) := by decide +kernel
theorem dX12_looksAhead_228 : decode cX12_looksAhead 228 = .ok (.iastore, 1) := by decide +kernel
theorem dX12_looksAhead_229 : decode cX12_looksAhead 229 = .ok (.iinc 3 1, 3) := by decide +kernel
theorem dX12_looksAhead_232 : decode cX12_looksAhead 232 = .ok (.goto (-186), 3) := by decide +kernel
theorem dX12_looksAhead_235 : decode cX12_looksAhead 235 = .ok (.iinc 2 (-1), 3) := by decide +kernel
theorem dX12_looksAhead_238 : decode cX12_looksAhead 238 = .ok (.goto (-198), 3) := by decide +kernel
theorem dX12_looksAhead_241 : decode cX12_looksAhead 241 = .ok (.return_, 1) := by decide +kernel
theorem dX12_found_0 : decode cX12_found 0 = .ok (.aload_n 0, 1) := by decide +kernel
theorem dX12_found_1 : decode cX12_found 1 = .ok (.iload_n 1, 1) := by decide +kernel
theorem dX12_found_2 : decode cX12_found 2 = .ok (.invokevirtual 148, 3) := by decide +kernel
theorem dX12_found_5 : decode cX12_found 5 = .ok (.ifCond .eq 28, 3) := by decide +kernel
theorem dX12_found_8 : decode cX12_found 8 = .ok (.aload_n 0, 1) := by decide +kernel
theorem dX12_found_9 : decode cX12_found 9 = .ok (.iload_n 2, 1) := by decide +kernel
theorem dX12_found_10 : decode cX12_found 10 = .ok (.invokevirtual 59, 3) := by decide +kernel
theorem dX12_found_13 : decode cX12_found 13 = .ok (.ifCond .eq 20, 3) := by decide +kernel
theorem dX12_found_16 : decode cX12_found 16 = .ok (.iload 5, 2) := by decide +kernel
theorem dX12_found_18 : decode cX12_found 18 = .ok (.iconst (-1), 1) := by decide +kernel
theorem dX12_found_19 : decode cX12_found 19 = .ok (.aload_n 0, 1) := by decide +kernel
theorem dX12_found_20 : decode cX12_found 20 = .ok (.getfield 7, 3) := by decide +kernel
theorem dX12_found_23 : decode cX12_found 23 = .ok (.iconst 4, 1) := by decide +kernel
theorem dX12_found_24 : decode cX12_found 24 = .ok (.iaload, 1) := by decide +kernel
theorem dX12_found_25 : decode cX12_found 25 = .ok (.iconst 1, 1) := by decide +kernel
theorem dX12_found_26 : decode cX12_found 26 = .ok (.isub, 1) := by decide +kernel
theorem dX12_found_27 : decode cX12_found 27 = .ok (.invokestatic 54, 3) := by decide +kernel
theorem dX12_found_30 : decode cX12_found 30 = .ok (.ifCond .ne 5, 3) := by decide +kernel
theorem dX12_found_33 : decode cX12_found 33 = .ok (.iconst (-1), 1) := by decide +kernel
theorem dX12_found_34 : decode cX12_found 34 = .ok (.ireturn, 1) := by decide +kernel
theorem dX12_found_35 : decode cX12_found 35 = .ok (.iload_n 3, 1) := by decide +kernel
theorem dX12_found_36 : decode cX12_found 36 = .ok (.invokestatic 170, 3) := by decide +kernel
theorem dX12_found_39 : decode cX12_found 39 = .ok (.ifCond .eq 14, 3) := by decide +kernel
theorem dX12_found_42 : decode cX12_found 42 = .ok (.iload 4, 2) := by decide +kernel
theorem dX12_found_44 : decode cX12_found 44 = .ok (.iconst 0, 1) := by decide +kernel
theorem dX12_found_45 : decode cX12_found 45 = .ok (.bipush 99, 2) := by decide +kernel
theorem dX12_found_47 : decode cX12_found 47 = .ok (.invokestatic 54, 3) := by decide +kernel
theorem dX12_found_50 : decode cX12_found 50 = .ok (.ifCond .ne 6, 3) := by decide +kernel
theorem dX12_found_53 : decode cX12_found 53 = .ok (.bipush (-2), 2) := by decide +kernel
theorem dX12_found_55 : decode cX12_found 55 = .ok (.ireturn, 1) := by decide +kernel
theorem dX12_found_56 : decode cX12_found 56 = .ok (.iconst 0, 1) := by decide +kernel
theorem dX12_found_57 : decode cX12_found 57 = .ok (.istore 6, 2) := by decide +kernel
theorem dX12_found_59 : decode cX12_found 59 = .ok (.iload 6, 2) := by decide +kernel
theorem dX12_found_61 : decode cX12_found 61 = .ok (.bipush 100, 2) := by decide +kernel
theorem dX12_found_63 : decode cX12_found 63 = .ok (.if_icmp .ge 36, 3) := by decide +kernel
theorem dX12_found_66 : decode cX12_found 66 = .ok (.aload_n 0, 1) := by decide +kernel
theorem dX12_found_67 : decode cX12_found 67 = .ok (.getfield 38, 3) := by decide +kernel
theorem dX12_found_70 : decode cX12_found 70 = .ok (.iload 6, 2) := by decide +kernel
theorem dX12_found_72 : decode cX12_found 72 = .ok (.aload_n 0, 1) := by decide +kernel
theorem dX12_found_73 : decode cX12_found 73 = .ok (.iload_n 1, 1) := by decide +kernel
theorem dX12_found_74 : decode cX12_found 74 = .ok (.iload_n 2, 1) := by decide +kernel
theorem dX12_found_75 : decode cX12_found 75 = .ok (.iload_n 3, 1) := by decide +kernel
theorem dX12_found_76 : decode cX12_found 76 = .ok (.sipush 10000, 3) := by decide +kernel
theorem dX12_found_79 : decode cX12_found 79 = .ok (.idiv, 1) := by decide +kernel
theorem dX12_found_80 : decode cX12_found 80 = .ok (.iload_n 3, 1) := by decide +kernel
theorem dX12_found_81 : decode cX12_found 81 = .ok (.bipush 100, 2) := by decide +kernel
theorem dX12_found_83 : decode cX12_found 83 = .ok (.idiv, 1) := by decide +kernel
theorem dX12_found_84 : decode cX12_found 84 = .ok (.bipush 100, 2) := by decide +kernel
theorem dX12_found_86 : decode cX12_found 86 = .ok (.irem, 1) := by decide +kernel
theorem dX12_found_87 : decode cX12_found 87 = .ok (.iload 6, 2) := by decide +kernel
theorem dX12_found_89 : decode cX12_found 89 = .ok (.invokevirtual 173, 3) := by decide +kernel
theorem dX12_found_92 : decode cX12_found 92 = .ok (.iastore, 1) := by decide +kernel
theorem dX12_found_93 : decode cX12_found 93 = .ok (.iinc 6 1, 3) := by decide +kernel
theorem dX12_found_96 : decode cX12_found 96 = .ok (.goto (-37), 3) := by decide +kernel
theorem dX12_found_99 : decode cX12_found 99 = .ok (.aload_n 0, 1) := by decide +kernel
theorem dX12_found_100 : decode cX12_found 100 = .ok (.iload 4, 2) := by decide +kernel
theorem dX12_found_102 : decode cX12_found 102 = .ok (.invokevirtual 200, 3) := by decide +kernel
theorem dX12_found_105 : decode cX12_found 105 = .ok (.iconst (-1), 1) := by decide +kernel
theorem dX12_found_106 : decode cX12_found 106 = .ok (.istore 6, 2) := by decide +kernel
theorem dX12_found_108 : decode cX12_found 108 = .ok (.iconst 0, 1) := by decide +kernel
theorem dX12_found_109 : decode cX12_found 109 = .ok (.istore 7, 2) := by decide +kernel
theorem dX12_found_111 : decode cX12_found 111 = .ok (.iload 7, 2) := by decide +kernel
theorem dX12_found_113 : decode cX12_found 113 = .ok (.bipush 100, 2) := by decide +kernel
theorem dX12_found_115 : decode cX12_found 115 = .ok (.if_icmp .ge 46, 3) := by decide +kernel
theorem dX12_found_118 : decode cX12_found 118 = .ok (.aload_n 0, 1) := by decide +kernel
theorem dX12_found_119 : decode cX12_found 119 = .ok (.getfield 41, 3) := by decide +kernel
theorem dX12_found_122 : decode cX12_found 122 = .ok (.iload 7, 2) := by decide +kernel
theorem dX12_found_124 : decode cX12_found 124 = .ok (.iaload, 1) := by decide +kernel
theorem dX12_found_125 : decode cX12_found 125 = .ok (.istore 8, 2) := by decide +kernel
theorem dX12_found_127 : decode cX12_found 127 = .ok (.iload 8, 2) := by decide +kernel
theorem dX12_found_129 : decode cX12_found 129 = .ok (.iconst (-1), 1) := by decide +kernel
theorem dX12_found_130 : decode cX12_found 130 = .ok (.if_icmp .eq 21, 3) := by decide +kernel
theorem dX12_found_133 : decode cX12_found 133 = .ok (.iload 6, 2) := by decide +kernel
theorem dX12_found_135 : decode cX12_found 135 = .ok (.iconst (-1), 1) := by decide +kernel
theorem dX12_found_136 : decode cX12_found 136 = .ok (.if_icmp .eq 10, 3) := by decide +kernel
theorem dX12_found_139 : decode cX12_found 139 = .ok (.iload 8, 2) := by decide +kernel
theorem dX12_found_141 : decode cX12_found 141 = .ok (.iload 6, 2) := by decide +kernel
theorem dX12_found_143 : decode cX12_found 143 = .ok (.if_icmp .ge 8, 3) := by decide +kernel
theorem dX12_found_146 : decode cX12_found 146 = .ok (.iload 8, 2) := by decide +kernel
theorem dX12_found_148 : decode cX12_found 148 = .ok (.goto 5, 3) := by decide +kernel
theorem dX12_found_151 : decode cX12_found 151 = .ok (.iload 6, 2) := by decide +kernel
theorem dX12_found_153 : decode cX12_found 153 = .ok (.istore 6, 2) := by decide +kernel
theorem dX12_found_155 : decode cX12_found 155 = .ok (.iinc 7 1, 3) := by decide +kernel
theorem dX12_found_158 : decode cX12_found 158 = .ok (.goto (-47), 3) := by decide +kernel
theorem dX12_found_161 : decode cX12_found 161 = .ok (.iload 6, 2) := by decide +kernel
theorem dX12_found_163 : decode cX12_found 163 = .ok (.iconst (-1), 1) := by decide +kernel
theorem dX12_found_164 : decode cX12_found 164 = .ok (.if_icmp .ne 6, 3) := by decide +kernel
theorem dX12_found_167 : decode cX12_found 167 = .ok (.bipush (-5), 2) := by decide +kernel
theorem dX12_found_169 : decode cX12_found 169 = .ok (.ireturn, 1) := by decide +kernel
theorem dX12_found_170 : decode cX12_found 170 = .ok (.iload 6, 2) := by decide +kernel
theorem dX12_found_172 : decode cX12_found 172 = .ok (.istore 7, 2) := by decide +kernel
theorem dX12_found_174 : decode cX12_found 174 = .ok (.iconst 0, 1) := by decide +kernel
theorem dX12_found_175 : decode cX12_found 175 = .ok (.istore 8, 2) := by decide +kernel
theorem dX12_found_177 : decode cX12_found 177 = .ok (.iload 8, 2) := by decide +kernel
theorem dX12_found_179 : decode cX12_found 179 = .ok (.aload_n 0, 1) := by decide +kernel
theorem dX12_found_180 : decode cX12_found 180 = .ok (.getfield 7, 3) := by decide +kernel
theorem dX12_found_183 : decode cX12_found 183 = .ok (.iconst 4, 1) := by decide +kernel
theorem dX12_found_184 : decode cX12_found 184 = .ok (.iaload, 1) := by decide +kernel
theorem dX12_found_185 : decode cX12_found 185 = .ok (.if_icmp .ge 127, 3) := by decide +kernel
theorem dX12_found_188 : decode cX12_found 188 = .ok (.iconst 0, 1) := by decide +kernel
theorem dX12_found_189 : decode cX12_found 189 = .ok (.istore 9, 2) := by decide +kernel
theorem dX12_found_191 : decode cX12_found 191 = .ok (.aload_n 0, 1) := by decide +kernel
theorem dX12_found_192 : decode cX12_found 192 = .ok (.getfield 41, 3) := by decide +kernel
theorem dX12_found_195 : decode cX12_found 195 = .ok (.bipush 100, 2) := by decide +kernel
theorem dX12_found_197 : decode cX12_found 197 = .ok (.iload 8, 2) := by decide +kernel
theorem dX12_found_199 : decode cX12_found 199 = .ok (.imul, 1) := by decide +kernel
theorem dX12_found_200 : decode cX12_found 200 = .ok (.iload 9, 2) := by decide +kernel
theorem dX12_found_202 : decode cX12_found 202 = .ok (.iadd, 1) := by decide +kernel
theorem dX12_found_203 : decode cX12_found 203 = .ok (.iaload, 1) := by decide +kernel
theorem dX12_found_204 : decode cX12_found 204 = .ok (.iconst (-1), 1) := by decide +kernel
theorem dX12_found_205 : decode cX12_found 205 = .ok (.if_icmp .eq 71, 3) := by decide +kernel
theorem dX12_found_208 : decode cX12_found 208 = .ok (.iload 8, 2) := by decide +kernel
theorem dX12_found_210 : decode cX12_found 210 = .ok (.ifCond .le 23, 3) := by decide +kernel
theorem dX12_found_213 : decode cX12_found 213 = .ok (.iload 9, 2) := by decide +kernel
theorem dX12_found_215 : decode cX12_found 215 = .ok (.aload_n 0, 1) := by decide +kernel
theorem dX12_found_216 : decode cX12_found 216 = .ok (.getfield 44, 3) := by decide +kernel
theorem dX12_found_219 : decode cX12_found 219 = .ok (.iload 8, 2) := by decide +kernel
theorem dX12_found_221 : decode cX12_found 221 = .ok (.iconst 1, 1) := by decide +kernel
theorem dX12_found_222 : decode cX12_found 222 = .ok (.isub, 1) := by decide +kernel
theorem dX12_found_223 : decode cX12_found 223 = .ok (.iaload, 1) := by decide +kernel
theorem dX12_found_224 : decode cX12_found 224 = .ok (.isub, 1) := by decide +kernel
theorem dX12_found_225 : decode cX12_found 225 = .ok (.invokestatic 197, 3) := by decide +kernel
theorem dX12_found_228 : decode cX12_found 228 = .ok (.iload 4, 2) := by decide +kernel
theorem dX12_found_230 : decode cX12_found 230 = .ok (.if_icmp .gt 46, 3) := by decide +kernel
theorem dX12_found_233 : decode cX12_found 233 = .ok (.aload_n 0, 1) := by decide +kernel
theorem dX12_found_234 : decode cX12_found 234 = .ok (.getfield 41, 3) := by decide +kernel
theorem dX12_found_237 : decode cX12_found 237 = .ok (.bipush 100, 2) := by decide +kernel
theorem dX12_found_239 : decode cX12_found 239 = .ok (.iload 8, 2) := by decide +kernel
theorem dX12_found_241 : decode cX12_found 241 = .ok (.imul, 1) := by decide +kernel
theorem dX12_found_242 : decode cX12_found 242 = .ok (.iload 9, 2) := by decide +kernel
theorem dX12_found_244 : decode cX12_found 244 = .ok (.iadd, 1) := by decide +kernel
theorem dX12_found_245 : decode cX12_found 245 = .ok (.iaload, 1) := by decide +kernel
theorem dX12_found_246 : decode cX12_found 246 = .ok (.iload 8, 2) := by decide +kernel
theorem dX12_found_248 : decode cX12_found 248 = .ok (.ifCond .le 21, 3) := by decide +kernel
theorem dX12_found_251 : decode cX12_found 251 = .ok (.iload 9, 2) := by decide +kernel
theorem dX12_found_253 : decode cX12_found 253 = .ok (.aload_n 0, 1) := by decide +kernel
theorem dX12_found_254 : decode cX12_found 254 = .ok (.getfield 44, 3) := by decide +kernel
theorem dX12_found_257 : decode cX12_found 257 = .ok (.iload 8, 2) := by decide +kernel
theorem dX12_found_259 : decode cX12_found 259 = .ok (.iconst 1, 1) := by decide +kernel
theorem dX12_found_260 : decode cX12_found 260 = .ok (.isub, 1) := by decide +kernel
theorem dX12_found_261 : decode cX12_found 261 = .ok (.iaload, 1) := by decide +kernel
theorem dX12_found_262 : decode cX12_found 262 = .ok (.isub, 1) := by decide +kernel
theorem dX12_found_263 : decode cX12_found 263 = .ok (.invokestatic 197, 3) := by decide +kernel
theorem dX12_found_266 : decode cX12_found 266 = .ok (.goto 4, 3) := by decide +kernel
theorem dX12_found_269 : decode cX12_found 269 = .ok (.iconst 0, 1) := by decide +kernel
theorem dX12_found_270 : decode cX12_found 270 = .ok (.iadd, 1) := by decide +kernel
theorem dX12_found_271 : decode cX12_found 271 = .ok (.iload 7, 2) := by decide +kernel
theorem dX12_found_273 : decode cX12_found 273 = .ok (.if_icmp .eq 9, 3) := by decide +kernel
theorem dX12_found_276 : decode cX12_found 276 = .ok (.iinc 9 1, 3) := by decide +kernel
theorem dX12_found_279 : decode cX12_found 279 = .ok (.goto (-88), 3) := by decide +kernel
theorem dX12_found_282 : decode cX12_found 282 = .ok (.aload_n 0, 1) := by decide +kernel
theorem dX12_found_283 : decode cX12_found 283 = .ok (.getfield 44, 3) := by decide +kernel
theorem dX12_found_286 : decode cX12_found 286 = .ok (.iload 8, 2) := by decide +kernel
theorem dX12_found_288 : decode cX12_found 288 = .ok (.iload 9, 2) := by decide +kernel
theorem dX12_found_290 : decode cX12_found 290 = .ok (.iastore, 1) := by decide +kernel
theorem dX12_found_291 : decode cX12_found 291 = .ok (.aload_n 0, 1) := by decide +kernel
theorem dX12_found_292 : decode cX12_found 292 = .ok (.getfield 41, 3) := by decide +kernel
theorem dX12_found_295 : decode cX12_found 295 = .ok (.bipush 100, 2) := by decide +kernel
theorem dX12_found_297 : decode cX12_found 297 = .ok (.iload 8, 2) := by decide +kernel
theorem dX12_found_299 : decode cX12_found 299 = .ok (.imul, 1) := by decide +kernel
theorem dX12_found_300 : decode cX12_found 300 = .ok (.iload 9, 2) := by decide +kernel
theorem dX12_found_302 : decode cX12_found 302 = .ok (.iadd, 1) := by decide +kernel
theorem dX12_found_303 : decode cX12_found 303 = .ok (.iaload, 1) := by decide +kernel
theorem dX12_found_304 : decode cX12_found 304 = .ok (.istore 7, 2) := by decide +kernel
theorem dX12_found_306 : decode cX12_found 306 = .ok (.iinc 8 1, 3) := by decide +kernel
theorem dX12_found_309 : decode cX12_found 309 = .ok (.goto (-132), 3) := by decide +kernel
theorem dX12_found_312 : decode cX12_found 312 = .ok (.iload 5, 2) := by decide +kernel
theorem dX12_found_314 : decode cX12_found 314 = .ok (.iconst (-1), 1) := by decide +kernel
theorem dX12_found_315 : decode cX12_found 315 = .ok (.if_icmp .ne 8, 3) := by decide +kernel
theorem dX12_found_318 : decode cX12_found 318 = .ok (.iload 6, 2) := by decide +kernel
theorem dX12_found_320 : decode cX12_found 320 = .ok (.goto 10, 3) := by decide +kernel
theorem dX12_found_323 : decode cX12_found 323 = .ok (.aload_n 0, 1) := by decide +kernel
theorem dX12_found_324 : decode cX12_found 324 = .ok (.getfield 44, 3) := by decide +kernel
theorem dX12_found_327 : decode cX12_found 327 = .ok (.iload 5, 2) := by decide +kernel
theorem dX12_found_329 : decode cX12_found 329 = .ok (.iaload, 1) := by decide +kernel
theorem dX12_found_330 : decode cX12_found 330 = .ok (.ireturn, 1) := by decide +kernel
theorem dX12_doesBear_0 : decode cX12_doesBear 0 = .ok (.iload_n 3, 1) := by decide +kernel
theorem dX12_doesBear_1 : decode cX12_doesBear 1 = .ok (.sipush 10000, 3) := by decide +kernel
theorem dX12_doesBear_4 : decode cX12_doesBear 4 = .ok (.idiv, 1) := by decide +kernel
theorem dX12_doesBear_5 : decode cX12_doesBear 5 = .ok (.istore 5, 2) := by decide +kernel
theorem dX12_doesBear_7 : decode cX12_doesBear 7 = .ok (.aload_n 0, 1) := by decide +kernel
theorem dX12_doesBear_8 : decode cX12_doesBear 8 = .ok (.iload_n 1, 1) := by decide +kernel
theorem dX12_doesBear_9 : decode cX12_doesBear 9 = .ok (.iload_n 2, 1) := by decide +kernel
theorem dX12_doesBear_10 : decode cX12_doesBear 10 = .ok (.iload 5, 2) := by decide +kernel
theorem dX12_doesBear_12 : decode cX12_doesBear 12 = .ok (.iload_n 3, 1) := by decide +kernel
theorem dX12_doesBear_13 : decode cX12_doesBear 13 = .ok (.bipush 100, 2) := by decide +kernel
theorem dX12_doesBear_15 : decode cX12_doesBear 15 = .ok (.idiv, 1) := by decide +kernel
theorem dX12_doesBear_16 : decode cX12_doesBear 16 = .ok (.bipush 100, 2) := by decide +kernel
theorem dX12_doesBear_18 : decode cX12_doesBear 18 = .ok (.irem, 1) := by decide +kernel
theorem dX12_doesBear_19 : decode cX12_doesBear 19 = .ok (.iload_n 3, 1) := by decide +kernel
theorem dX12_doesBear_20 : decode cX12_doesBear 20 = .ok (.bipush 100, 2) := by decide +kernel
theorem dX12_doesBear_22 : decode cX12_doesBear 22 = .ok (.irem, 1) := by decide +kernel
theorem dX12_doesBear_23 : decode cX12_doesBear 23 = .ok (.invokevirtual 173, 3) := by decide +kernel
theorem dX12_doesBear_26 : decode cX12_doesBear 26 = .ok (.istore 6, 2) := by decide +kernel
theorem dX12_doesBear_28 : decode cX12_doesBear 28 = .ok (.iconst 1, 1) := by decide +kernel
theorem dX12_doesBear_29 : decode cX12_doesBear 29 = .ok (.istore 7, 2) := by decide +kernel
theorem dX12_doesBear_31 : decode cX12_doesBear 31 = .ok (.iload 5, 2) := by decide +kernel
theorem dX12_doesBear_33 : decode cX12_doesBear 33 = .ok (.iload 4, 2) := by decide +kernel
theorem dX12_doesBear_35 : decode cX12_doesBear 35 = .ok (.isub, 1) := by decide +kernel
theorem dX12_doesBear_36 : decode cX12_doesBear 36 = .ok (.istore 8, 2) := by decide +kernel
theorem dX12_doesBear_38 : decode cX12_doesBear 38 = .ok (.iload 8, 2) := by decide +kernel
theorem dX12_doesBear_40 : decode cX12_doesBear 40 = .ok (.iload 5, 2) := by decide +kernel
theorem dX12_doesBear_42 : decode cX12_doesBear 42 = .ok (.iload 4, 2) := by decide +kernel
theorem dX12_doesBear_44 : decode cX12_doesBear 44 = .ok (.iadd, 1) := by decide +kernel
theorem dX12_doesBear_45 : decode cX12_doesBear 45 = .ok (.if_icmp .gt 56, 3) := by decide +kernel
theorem dX12_doesBear_48 : decode cX12_doesBear 48 = .ok (.iload 7, 2) := by decide +kernel
theorem dX12_doesBear_50 : decode cX12_doesBear 50 = .ok (.ifCond .eq 42, 3) := by decide +kernel
theorem dX12_doesBear_53 : decode cX12_doesBear 53 = .ok (.iload 8, 2) := by decide +kernel
theorem dX12_doesBear_55 : decode cX12_doesBear 55 = .ok (.iconst 1, 1) := by decide +kernel
theorem dX12_doesBear_56 : decode cX12_doesBear 56 = .ok (.bipush 60, 2) := by decide +kernel
theorem dX12_doesBear_58 : decode cX12_doesBear 58 = .ok (.invokestatic 54, 3) := by decide +kernel
theorem dX12_doesBear_61 : decode cX12_doesBear 61 = .ok (.ifCond .eq 27, 3) := by decide +kernel
theorem dX12_doesBear_64 : decode cX12_doesBear 64 = .ok (.aload_n 0, 1) := by decide +kernel
theorem dX12_doesBear_65 : decode cX12_doesBear 65 = .ok (.iload_n 1, 1) := by decide +kernel
theorem dX12_doesBear_66 : decode cX12_doesBear 66 = .ok (.iload_n 2, 1) := by decide +kernel
theorem dX12_doesBear_67 : decode cX12_doesBear 67 = .ok (.iload 8, 2) := by decide +kernel
theorem dX12_doesBear_69 : decode cX12_doesBear 69 = .ok (.iload_n 3, 1) := by decide +kernel
theorem dX12_doesBear_70 : decode cX12_doesBear 70 = .ok (.bipush 100, 2) := by decide +kernel
theorem dX12_doesBear_72 : decode cX12_doesBear 72 = .ok (.idiv, 1) := by decide +kernel
theorem dX12_doesBear_73 : decode cX12_doesBear 73 = .ok (.bipush 100, 2) := by decide +kernel
theorem dX12_doesBear_75 : decode cX12_doesBear 75 = .ok (.irem, 1) := by decide +kernel
theorem dX12_doesBear_76 : decode cX12_doesBear 76 = .ok (.iload_n 3, 1) := by decide +kernel
theorem dX12_doesBear_77 : decode cX12_doesBear 77 = .ok (.bipush 100, 2) := by decide +kernel
theorem dX12_doesBear_79 : decode cX12_doesBear 79 = .ok (.irem, 1) := by decide +kernel
theorem dX12_doesBear_80 : decode cX12_doesBear 80 = .ok (.invokevirtual 173, 3) := by decide +kernel
theorem dX12_doesBear_83 : decode cX12_doesBear 83 = .ok (.iload 6, 2) := by decide +kernel
theorem dX12_doesBear_85 : decode cX12_doesBear 85 = .ok (.if_icmp .ne 7, 3) := by decide +kernel
theorem dX12_doesBear_88 : decode cX12_doesBear 88 = .ok (.iconst 1, 1) := by decide +kernel
theorem dX12_doesBear_89 : decode cX12_doesBear 89 = .ok (.goto 4, 3) := by decide +kernel
theorem dX12_doesBear_92 : decode cX12_doesBear 92 = .ok (.iconst 0, 1) := by decide +kernel
theorem dX12_doesBear_93 : decode cX12_doesBear 93 = .ok (.istore 7, 2) := by decide +kernel
theorem dX12_doesBear_95 : decode cX12_doesBear 95 = .ok (.iinc 8 1, 3) := by decide +kernel
theorem dX12_doesBear_98 : decode cX12_doesBear 98 = .ok (.goto (-60), 3) := by decide +kernel
theorem dX12_doesBear_101 : decode cX12_doesBear 101 = .ok (.iload 7, 2) := by decide +kernel
theorem dX12_doesBear_103 : decode cX12_doesBear 103 = .ok (.ireturn, 1) := by decide +kernel
theorem dX12_bears_0 : decode cX12_bears 0 = .ok (.aload_n 0, 1) := by decide +kernel
theorem dX12_bears_1 : decode cX12_bears 1 = .ok (.iload_n 1, 1) := by decide +kernel
theorem dX12_bears_2 : decode cX12_bears 2 = .ok (.invokevirtual 148, 3) := by decide +kernel
theorem dX12_bears_5 : decode cX12_bears 5 = .ok (.ifCond .eq 11, 3) := by decide +kernel
theorem dX12_bears_8 : decode cX12_bears 8 = .ok (.aload_n 0, 1) := by decide +kernel
theorem dX12_bears_9 : decode cX12_bears 9 = .ok (.iload_n 2, 1) := by decide +kernel
theorem dX12_bears_10 : decode cX12_bears 10 = .ok (.invokevirtual 59, 3) := by decide +kernel
theorem dX12_bears_13 : decode cX12_bears 13 = .ok (.ifCond .ne 5, 3) := by decide +kernel
theorem dX12_bears_16 : decode cX12_bears 16 = .ok (.iconst (-1), 1) := by decide +kernel
theorem dX12_bears_17 : decode cX12_bears 17 = .ok (.ireturn, 1) := by decide +kernel
theorem dX12_bears_18 : decode cX12_bears 18 = .ok (.iload_n 3, 1) := by decide +kernel
theorem dX12_bears_19 : decode cX12_bears 19 = .ok (.invokestatic 170, 3) := by decide +kernel
theorem dX12_bears_22 : decode cX12_bears 22 = .ok (.ifCond .eq 14, 3) := by decide +kernel
theorem dX12_bears_25 : decode cX12_bears 25 = .ok (.iload 4, 2) := by decide +kernel
theorem dX12_bears_27 : decode cX12_bears 27 = .ok (.iconst (-1), 1) := by decide +kernel
theorem dX12_bears_28 : decode cX12_bears 28 = .ok (.bipush 20, 2) := by decide +kernel
theorem dX12_bears_30 : decode cX12_bears 30 = .ok (.invokestatic 54, 3) := by decide +kernel
theorem dX12_bears_33 : decode cX12_bears 33 = .ok (.ifCond .ne 6, 3) := by decide +kernel
theorem dX12_bears_36 : decode cX12_bears 36 = .ok (.bipush (-2), 2) := by decide +kernel
theorem dX12_bears_38 : decode cX12_bears 38 = .ok (.ireturn, 1) := by decide +kernel
theorem dX12_bears_39 : decode cX12_bears 39 = .ok (.iload 4, 2) := by decide +kernel
theorem dX12_bears_41 : decode cX12_bears 41 = .ok (.iconst (-1), 1) := by decide +kernel
theorem dX12_bears_42 : decode cX12_bears 42 = .ok (.if_icmp .eq 21, 3) := by decide +kernel
theorem dX12_bears_45 : decode cX12_bears 45 = .ok (.aload_n 0, 1) := by decide +kernel
theorem dX12_bears_46 : decode cX12_bears 46 = .ok (.iload_n 1, 1) := by decide +kernel
theorem dX12_bears_47 : decode cX12_bears 47 = .ok (.iload_n 2, 1) := by decide +kernel
theorem dX12_bears_48 : decode cX12_bears 48 = .ok (.iload_n 3, 1) := by decide +kernel
theorem dX12_bears_49 : decode cX12_bears 49 = .ok (.iload 4, 2) := by decide +kernel
theorem dX12_bears_51 : decode cX12_bears 51 = .ok (.invokevirtual 203, 3) := by decide +kernel
theorem dX12_bears_54 : decode cX12_bears 54 = .ok (.ifCond .eq 7, 3) := by decide +kernel
theorem dX12_bears_57 : decode cX12_bears 57 = .ok (.iconst 1, 1) := by decide +kernel
theorem dX12_bears_58 : decode cX12_bears 58 = .ok (.goto 4, 3) := by decide +kernel
theorem dX12_bears_61 : decode cX12_bears 61 = .ok (.iconst 0, 1) := by decide +kernel
theorem dX12_bears_62 : decode cX12_bears 62 = .ok (.ireturn, 1) := by decide +kernel
theorem dX12_bears_63 : decode cX12_bears 63 = .ok (.bipush 20, 2) := by decide +kernel
theorem dX12_bears_65 : decode cX12_bears 65 = .ok (.istore 5, 2) := by decide +kernel
theorem dX12_bears_67 : decode cX12_bears 67 = .ok (.aload_n 0, 1) := by decide +kernel
theorem dX12_bears_68 : decode cX12_bears 68 = .ok (.iload_n 1, 1) := by decide +kernel
theorem dX12_bears_69 : decode cX12_bears 69 = .ok (.iload_n 2, 1) := by decide +kernel
theorem dX12_bears_70 : decode cX12_bears 70 = .ok (.iload_n 3, 1) := by decide +kernel
theorem dX12_bears_71 : decode cX12_bears 71 = .ok (.iload 5, 2) := by decide +kernel
theorem dX12_bears_73 : decode cX12_bears 73 = .ok (.invokevirtual 203, 3) := by decide +kernel
theorem dX12_bears_76 : decode cX12_bears 76 = .ok (.ifCond .ne 9, 3) := by decide +kernel
theorem dX12_bears_79 : decode cX12_bears 79 = .ok (.iinc 5 (-1), 3) := by decide +kernel
theorem dX12_bears_82 : decode cX12_bears 82 = .ok (.goto (-15), 3) := by decide +kernel
theorem dX12_bears_85 : decode cX12_bears 85 = .ok (.iload 5, 2) := by decide +kernel
theorem dX12_bears_87 : decode cX12_bears 87 = .ok (.ireturn, 1) := by decide +kernel
theorem dX12_film_0 : decode cX12_film 0 = .ok (.aload_n 0, 1) := by decide +kernel
theorem dX12_film_1 : decode cX12_film 1 = .ok (.iload_n 1, 1) := by decide +kernel
theorem dX12_film_2 : decode cX12_film 2 = .ok (.invokevirtual 59, 3) := by decide +kernel
theorem dX12_film_5 : decode cX12_film 5 = .ok (.ifCond .ne 5, 3) := by decide +kernel
theorem dX12_film_8 : decode cX12_film 8 = .ok (.iconst (-1), 1) := by decide +kernel
theorem dX12_film_9 : decode cX12_film 9 = .ok (.ireturn, 1) := by decide +kernel
theorem dX12_film_10 : decode cX12_film 10 = .ok (.iload_n 2, 1) := by decide +kernel
theorem dX12_film_11 : decode cX12_film 11 = .ok (.invokestatic 170, 3) := by decide +kernel
theorem dX12_film_14 : decode cX12_film 14 = .ok (.ifCond .eq 14, 3) := by decide +kernel
theorem dX12_film_17 : decode cX12_film 17 = .ok (.iload_n 3, 1) := by decide +kernel
theorem dX12_film_18 : decode cX12_film 18 = .ok (.iconst 0, 1) := by decide +kernel
theorem dX12_film_19 : decode cX12_film 19 = .ok (.sipush 999, 3) := by decide +kernel
theorem dX12_film_22 : decode cX12_film 22 = .ok (.invokestatic 54, 3) := by decide +kernel
theorem dX12_film_25 : decode cX12_film 25 = .ok (.ifCond .ne 6, 3) := by decide +kernel
theorem dX12_film_28 : decode cX12_film 28 = .ok (.bipush (-2), 2) := by decide +kernel
theorem dX12_film_30 : decode cX12_film 30 = .ok (.ireturn, 1) := by decide +kernel
theorem dX12_film_31 : decode cX12_film 31 = .ok (.aload_n 0, 1) := by decide +kernel
theorem dX12_film_32 : decode cX12_film 32 = .ok (.getfield 7, 3) := by decide +kernel
theorem dX12_film_35 : decode cX12_film 35 = .ok (.iconst 2, 1) := by decide +kernel
theorem dX12_film_36 : decode cX12_film 36 = .ok (.iaload, 1) := by decide +kernel
theorem dX12_film_37 : decode cX12_film 37 = .ok (.bipush 12, 2) := by decide +kernel
theorem dX12_film_39 : decode cX12_film 39 = .ok (.if_icmp .ne 6, 3) := by decide +kernel
theorem dX12_film_42 : decode cX12_film 42 = .ok (.bipush (-4), 2) := by decide +kernel
theorem dX12_film_44 : decode cX12_film 44 = .ok (.ireturn, 1) := by decide +kernel
theorem dX12_film_45 : decode cX12_film 45 = .ok (.aload_n 0, 1) := by decide +kernel
theorem dX12_film_46 : decode cX12_film 46 = .ok (.getfield 7, 3) := by decide +kernel
theorem dX12_film_49 : decode cX12_film 49 = .ok (.sipush 1360, 3) := by decide +kernel
theorem dX12_film_52 : decode cX12_film 52 = .ok (.aload_n 0, 1) := by decide +kernel
theorem dX12_film_53 : decode cX12_film 53 = .ok (.getfield 7, 3) := by decide +kernel
theorem dX12_film_56 : decode cX12_film 56 = .ok (.iconst 2, 1) := by decide +kernel
theorem dX12_film_57 : decode cX12_film 57 = .ok (.iaload, 1) := by decide +kernel
theorem dX12_film_58 : decode cX12_film 58 = .ok (.iadd, 1) := by decide +kernel
theorem dX12_film_59 : decode cX12_film 59 = .ok (.iload_n 1, 1) := by decide +kernel
theorem dX12_film_60 : decode cX12_film 60 = .ok (.iastore, 1) := by decide +kernel
theorem dX12_film_61 : decode cX12_film 61 = .ok (.aload_n 0, 1) := by decide +kernel
theorem dX12_film_62 : decode cX12_film 62 = .ok (.getfield 7, 3) := by decide +kernel
theorem dX12_film_65 : decode cX12_film 65 = .ok (.sipush 1372, 3) := by decide +kernel
theorem dX12_film_68 : decode cX12_film 68 = .ok (.aload_n 0, 1) := by decide +kernel
theorem dX12_film_69 : decode cX12_film 69 = .ok (.getfield 7, 3) := by decide +kernel
theorem dX12_film_72 : decode cX12_film 72 = .ok (.iconst 2, 1) := by decide +kernel
theorem dX12_film_73 : decode cX12_film 73 = .ok (.iaload, 1) := by decide +kernel
theorem dX12_film_74 : decode cX12_film 74 = .ok (.iadd, 1) := by decide +kernel
theorem dX12_film_75 : decode cX12_film 75 = .ok (.iload_n 2, 1) := by decide +kernel
theorem dX12_film_76 : decode cX12_film 76 = .ok (.iastore, 1) := by decide +kernel
theorem dX12_film_77 : decode cX12_film 77 = .ok (.aload_n 0, 1) := by decide +kernel
theorem dX12_film_78 : decode cX12_film 78 = .ok (.getfield 7, 3) := by decide +kernel
theorem dX12_film_81 : decode cX12_film 81 = .ok (.sipush 1384, 3) := by decide +kernel
theorem dX12_film_84 : decode cX12_film 84 = .ok (.aload_n 0, 1) := by decide +kernel
theorem dX12_film_85 : decode cX12_film 85 = .ok (.getfield 7, 3) := by decide +kernel
theorem dX12_film_88 : decode cX12_film 88 = .ok (.iconst 2, 1) := by decide +kernel
theorem dX12_film_89 : decode cX12_film 89 = .ok (.iaload, 1) := by decide +kernel
theorem dX12_film_90 : decode cX12_film 90 = .ok (.iadd, 1) := by decide +kernel
theorem dX12_film_91 : decode cX12_film 91 = .ok (.iload_n 3, 1) := by decide +kernel
theorem dX12_film_92 : decode cX12_film 92 = .ok (.iastore, 1) := by decide +kernel
theorem dX12_film_93 : decode cX12_film 93 = .ok (.aload_n 0, 1) := by decide +kernel
theorem dX12_film_94 : decode cX12_film 94 = .ok (.getfield 7, 3) := by decide +kernel
theorem dX12_film_97 : decode cX12_film 97 = .ok (.iconst 2, 1) := by decide +kernel
theorem dX12_film_98 : decode cX12_film 98 = .ok (.dup2, 1) := by decide +kernel
theorem dX12_film_99 : decode cX12_film 99 = .ok (.iaload, 1) := by decide +kernel
theorem dX12_film_100 : decode cX12_film 100 = .ok (.iconst 1, 1) := by decide +kernel
theorem dX12_film_101 : decode cX12_film 101 = .ok (.iadd, 1) := by decide +kernel
theorem dX12_film_102 : decode cX12_film 102 = .ok (.iastore, 1) := by decide +kernel
theorem dX12_film_103 : decode cX12_film 103 = .ok (.aload_n 0, 1) := by decide +kernel
theorem dX12_film_104 : decode cX12_film 104 = .ok (.getfield 7, 3) := by decide +kernel
theorem dX12_film_107 : decode cX12_film 107 = .ok (.iconst 2, 1) := by decide +kernel
theorem dX12_film_108 : decode cX12_film 108 = .ok (.iaload, 1) := by decide +kernel
theorem dX12_film_109 : decode cX12_film 109 = .ok (.iconst 1, 1) := by decide +kernel
theorem dX12_film_110 : decode cX12_film 110 = .ok (.isub, 1) := by decide +kernel
theorem dX12_film_111 : decode cX12_film 111 = .ok (.ireturn, 1) := by decide +kernel
theorem dX12_offOf_0 : decode cX12_offOf 0 = .ok (.aload_n 0, 1) := by decide +kernel
theorem dX12_offOf_1 : decode cX12_offOf 1 = .ok (.getfield 7, 3) := by decide +kernel
theorem dX12_offOf_4 : decode cX12_offOf 4 = .ok (.sipush 1372, 3) := by decide +kernel
theorem dX12_offOf_7 : decode cX12_offOf 7 = .ok (.iload_n 2, 1) := by decide +kernel
theorem dX12_offOf_8 : decode cX12_offOf 8 = .ok (.iadd, 1) := by decide +kernel
theorem dX12_offOf_9 : decode cX12_offOf 9 = .ok (.iaload, 1) := by decide +kernel
theorem dX12_offOf_10 : decode cX12_offOf 10 = .ok (.istore_n 3, 1) := by decide +kernel
theorem dX12_offOf_11 : decode cX12_offOf 11 = .ok (.aload_n 0, 1) := by decide +kernel
theorem dX12_offOf_12 : decode cX12_offOf 12 = .ok (.iload_n 1, 1) := by decide +kernel
theorem dX12_offOf_13 : decode cX12_offOf 13 = .ok (.aload_n 0, 1) := by decide +kernel
theorem dX12_offOf_14 : decode cX12_offOf 14 = .ok (.getfield 7, 3) := by decide +kernel
theorem dX12_offOf_17 : decode cX12_offOf 17 = .ok (.sipush 1360, 3) := by decide +kernel
theorem dX12_offOf_20 : decode cX12_offOf 20 = .ok (.iload_n 2, 1) := by decide +kernel
theorem dX12_offOf_21 : decode cX12_offOf 21 = .ok (.iadd, 1) := by decide +kernel
theorem dX12_offOf_22 : decode cX12_offOf 22 = .ok (.iaload, 1) := by decide +kernel
theorem dX12_offOf_23 : decode cX12_offOf 23 = .ok (.iload_n 3, 1) := by decide +kernel
theorem dX12_offOf_24 : decode cX12_offOf 24 = .ok (.sipush 10000, 3) := by decide +kernel
theorem dX12_offOf_27 : decode cX12_offOf 27 = .ok (.idiv, 1) := by decide +kernel
theorem dX12_offOf_28 : decode cX12_offOf 28 = .ok (.iload_n 3, 1) := by decide +kernel
theorem dX12_offOf_29 : decode cX12_offOf 29 = .ok (.bipush 100, 2) := by decide +kernel
theorem dX12_offOf_31 : decode cX12_offOf 31 = .ok (.idiv, 1) := by decide +kernel
theorem dX12_offOf_32 : decode cX12_offOf 32 = .ok (.bipush 100, 2) := by decide +kernel
theorem dX12_offOf_34 : decode cX12_offOf 34 = .ok (.irem, 1) := by decide +kernel
theorem dX12_offOf_35 : decode cX12_offOf 35 = .ok (.iload_n 3, 1) := by decide +kernel
theorem dX12_offOf_36 : decode cX12_offOf 36 = .ok (.bipush 100, 2) := by decide +kernel
theorem dX12_offOf_38 : decode cX12_offOf 38 = .ok (.irem, 1) := by decide +kernel
theorem dX12_offOf_39 : decode cX12_offOf 39 = .ok (.invokevirtual 163, 3) := by decide +kernel
theorem dX12_offOf_42 : decode cX12_offOf 42 = .ok (.aload_n 0, 1) := by decide +kernel
theorem dX12_offOf_43 : decode cX12_offOf 43 = .ok (.getfield 7, 3) := by decide +kernel
theorem dX12_offOf_46 : decode cX12_offOf 46 = .ok (.sipush 1384, 3) := by decide +kernel
theorem dX12_offOf_49 : decode cX12_offOf 49 = .ok (.iload_n 2, 1) := by decide +kernel
theorem dX12_offOf_50 : decode cX12_offOf 50 = .ok (.iadd, 1) := by decide +kernel
theorem dX12_offOf_51 : decode cX12_offOf 51 = .ok (.iaload, 1) := by decide +kernel
theorem dX12_offOf_52 : decode cX12_offOf 52 = .ok (.isub, 1) := by decide +kernel
theorem dX12_offOf_53 : decode cX12_offOf 53 = .ok (.invokestatic 197, 3) := by decide +kernel
theorem dX12_offOf_56 : decode cX12_offOf 56 = .ok (.ireturn, 1) := by decide +kernel
theorem dX12_offAll_0 : decode cX12_offAll 0 = .ok (.iconst 0, 1) := by decide +kernel
theorem dX12_offAll_1 : decode cX12_offAll 1 = .ok (.istore_n 2, 1) := by decide +kernel
theorem dX12_offAll_2 : decode cX12_offAll 2 = .ok (.iconst 0, 1) := by decide +kernel
theorem dX12_offAll_3 : decode cX12_offAll 3 = .ok (.istore_n 3, 1) := by decide +kernel
theorem dX12_offAll_4 : decode cX12_offAll 4 = .ok (.iload_n 3, 1) := by decide +kernel
theorem dX12_offAll_5 : decode cX12_offAll 5 = .ok (.aload_n 0, 1) := by decide +kernel
theorem dX12_offAll_6 : decode cX12_offAll 6 = .ok (.getfield 7, 3) := by decide +kernel
theorem dX12_offAll_9 : decode cX12_offAll 9 = .ok (.iconst 2, 1) := by decide +kernel
theorem dX12_offAll_10 : decode cX12_offAll 10 = .ok (.iaload, 1) := by decide +kernel
theorem dX12_offAll_11 : decode cX12_offAll 11 = .ok (.if_icmp .ge 18, 3) := by decide +kernel
theorem dX12_offAll_14 : decode cX12_offAll 14 = .ok (.iload_n 2, 1) := by decide +kernel
theorem dX12_offAll_15 : decode cX12_offAll 15 = .ok (.aload_n 0, 1) := by decide +kernel
theorem dX12_offAll_16 : decode cX12_offAll 16 = .ok (.iload_n 1, 1) := by decide +kernel
theorem dX12_offAll_17 : decode cX12_offAll 17 = .ok (.iload_n 3, 1) := by decide +kernel
theorem dX12_offAll_18 : decode cX12_offAll 18 = .ok (.invokevirtual 207, 3) := by decide +kernel
theorem dX12_offAll_21 : decode cX12_offAll 21 = .ok (.iadd, 1) := by decide +kernel
theorem dX12_offAll_22 : decode cX12_offAll 22 = .ok (.istore_n 2, 1) := by decide +kernel
theorem dX12_offAll_23 : decode cX12_offAll 23 = .ok (.iinc 3 1, 3) := by decide +kernel
theorem dX12_offAll_26 : decode cX12_offAll 26 = .ok (.goto (-22), 3) := by decide +kernel
theorem dX12_offAll_29 : decode cX12_offAll 29 = .ok (.iload_n 2, 1) := by decide +kernel
theorem dX12_offAll_30 : decode cX12_offAll 30 = .ok (.ireturn, 1) := by decide +kernel
theorem dX12_off_0 : decode cX12_off 0 = .ok (.aload_n 0, 1) := by decide +kernel
theorem dX12_off_1 : decode cX12_off 1 = .ok (.iload_n 1, 1) := by decide +kernel
theorem dX12_off_2 : decode cX12_off 2 = .ok (.invokevirtual 148, 3) := by decide +kernel
theorem dX12_off_5 : decode cX12_off 5 = .ok (.ifCond .eq 11, 3) := by decide +kernel
theorem dX12_off_8 : decode cX12_off 8 = .ok (.aload_n 0, 1) := by decide +kernel
theorem dX12_off_9 : decode cX12_off 9 = .ok (.iload_n 1, 1) := by decide +kernel
theorem dX12_off_10 : decode cX12_off 10 = .ok (.invokevirtual 211, 3) := by decide +kernel
theorem dX12_off_13 : decode cX12_off 13 = .ok (.goto 4, 3) := by decide +kernel
theorem dX12_off_16 : decode cX12_off 16 = .ok (.iconst (-1), 1) := by decide +kernel
theorem dX12_off_17 : decode cX12_off 17 = .ok (.ireturn, 1) := by decide +kernel
theorem dX12_which_0 : decode cX12_which 0 = .ok (.bipush (-5), 2) := by decide +kernel
theorem dX12_which_2 : decode cX12_which 2 = .ok (.istore_n 1, 1) := by decide +kernel
theorem dX12_which_3 : decode cX12_which 3 = .ok (.iconst 0, 1) := by decide +kernel
theorem dX12_which_4 : decode cX12_which 4 = .ok (.istore_n 2, 1) := by decide +kernel
theorem dX12_which_5 : decode cX12_which 5 = .ok (.iconst 0, 1) := by decide +kernel
theorem dX12_which_6 : decode cX12_which 6 = .ok (.istore_n 3, 1) := by decide +kernel
theorem dX12_which_7 : decode cX12_which 7 = .ok (.iload_n 3, 1) := by decide +kernel
theorem dX12_which_8 : decode cX12_which 8 = .ok (.aload_n 0, 1) := by decide +kernel
theorem dX12_which_9 : decode cX12_which 9 = .ok (.getfield 7, 3) := by decide +kernel
theorem dX12_which_12 : decode cX12_which 12 = .ok (.iconst 1, 1) := by decide +kernel
theorem dX12_which_13 : decode cX12_which 13 = .ok (.iaload, 1) := by decide +kernel
theorem dX12_which_14 : decode cX12_which 14 = .ok (.if_icmp .ge 58, 3) := by decide +kernel
theorem dX12_which_17 : decode cX12_which 17 = .ok (.aload_n 0, 1) := by decide +kernel
theorem dX12_which_18 : decode cX12_which 18 = .ok (.iload_n 3, 1) := by decide +kernel
theorem dX12_which_19 : decode cX12_which 19 = .ok (.invokevirtual 211, 3) := by decide +kernel
theorem dX12_which_22 : decode cX12_which 22 = .ok (.istore 4, 2) := by decide +kernel
theorem dX12_which_24 : decode cX12_which 24 = .ok (.iload_n 1, 1) := by decide +kernel
theorem dX12_which_25 : decode cX12_which 25 = .ok (.bipush (-5), 2) := by decide +kernel
theorem dX12_which_27 : decode cX12_which 27 = .ok (.if_icmp .eq 9, 3) := by decide +kernel
theorem dX12_which_30 : decode cX12_which 30 = .ok (.iload 4, 2) := by decide +kernel
theorem dX12_which_32 : decode cX12_which 32 = .ok (.iload_n 2, 1) := by decide +kernel
theorem dX12_which_33 : decode cX12_which 33 = .ok (.if_icmp .ge 7, 3) := by decide +kernel
theorem dX12_which_36 : decode cX12_which 36 = .ok (.iconst 1, 1) := by decide +kernel
theorem dX12_which_37 : decode cX12_which 37 = .ok (.goto 4, 3) := by decide +kernel
theorem dX12_which_40 : decode cX12_which 40 = .ok (.iconst 0, 1) := by decide +kernel
theorem dX12_which_41 : decode cX12_which 41 = .ok (.istore 5, 2) := by decide +kernel
theorem dX12_which_43 : decode cX12_which 43 = .ok (.iload 5, 2) := by decide +kernel
theorem dX12_which_45 : decode cX12_which 45 = .ok (.ifCond .eq 7, 3) := by decide +kernel
theorem dX12_which_48 : decode cX12_which 48 = .ok (.iload_n 3, 1) := by decide +kernel
theorem dX12_which_49 : decode cX12_which 49 = .ok (.goto 4, 3) := by decide +kernel
theorem dX12_which_52 : decode cX12_which 52 = .ok (.iload_n 1, 1) := by decide +kernel
