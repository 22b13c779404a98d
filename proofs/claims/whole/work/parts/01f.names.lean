theorem dX8_nextToken_142 : decode cX8_nextToken 142 = .ok (.if_icmp .le 10, 3) := by decide +kernel
theorem dX8_nextToken_145 : decode cX8_nextToken 145 = .ok (.aload_n 0, 1) := by decide +kernel
theorem dX8_nextToken_146 : decode cX8_nextToken 146 = .ok (.getfield 64, 3) := by decide +kernel
theorem dX8_nextToken_149 : decode cX8_nextToken 149 = .ok (.goto 23, 3) := by decide +kernel
theorem dX8_nextToken_152 : decode cX8_nextToken 152 = .ok (.bipush 10, 2) := by decide +kernel
theorem dX8_nextToken_154 : decode cX8_nextToken 154 = .ok (.aload_n 0, 1) := by decide +kernel
theorem dX8_nextToken_155 : decode cX8_nextToken 155 = .ok (.getfield 64, 3) := by decide +kernel
theorem dX8_nextToken_158 : decode cX8_nextToken 158 = .ok (.imul, 1) := by decide +kernel
theorem dX8_nextToken_159 : decode cX8_nextToken 159 = .ok (.aload_n 0, 1) := by decide +kernel
theorem dX8_nextToken_160 : decode cX8_nextToken 160 = .ok (.getfield 16, 3) := by decide +kernel
theorem dX8_nextToken_163 : decode cX8_nextToken 163 = .ok (.aload_n 0, 1) := by decide +kernel
theorem dX8_nextToken_164 : decode cX8_nextToken 164 = .ok (.getfield 54, 3) := by decide +kernel
theorem dX8_nextToken_167 : decode cX8_nextToken 167 = .ok (.iaload, 1) := by decide +kernel
theorem dX8_nextToken_168 : decode cX8_nextToken 168 = .ok (.iadd, 1) := by decide +kernel
theorem dX8_nextToken_169 : decode cX8_nextToken 169 = .ok (.bipush 48, 2) := by decide +kernel
theorem dX8_nextToken_171 : decode cX8_nextToken 171 = .ok (.isub, 1) := by decide +kernel
theorem dX8_nextToken_172 : decode cX8_nextToken 172 = .ok (.putfield 64, 3) := by decide +kernel
theorem dX8_nextToken_175 : decode cX8_nextToken 175 = .ok (.aload_n 0, 1) := by decide +kernel
theorem dX8_nextToken_176 : decode cX8_nextToken 176 = .ok (.iconst 2, 1) := by decide +kernel
theorem dX8_nextToken_177 : decode cX8_nextToken 177 = .ok (.putfield 67, 3) := by decide +kernel
theorem dX8_nextToken_180 : decode cX8_nextToken 180 = .ok (.aload_n 0, 1) := by decide +kernel
theorem dX8_nextToken_181 : decode cX8_nextToken 181 = .ok (.dup, 1) := by decide +kernel
theorem dX8_nextToken_182 : decode cX8_nextToken 182 = .ok (.getfield 54, 3) := by decide +kernel
theorem dX8_nextToken_185 : decode cX8_nextToken 185 = .ok (.iconst 1, 1) := by decide +kernel
theorem dX8_nextToken_186 : decode cX8_nextToken 186 = .ok (.iadd, 1) := by decide +kernel
theorem dX8_nextToken_187 : decode cX8_nextToken 187 = .ok (.putfield 54, 3) := by decide +kernel
theorem dX8_nextToken_190 : decode cX8_nextToken 190 = .ok (.goto (-84), 3) := by decide +kernel
theorem dX8_nextToken_193 : decode cX8_nextToken 193 = .ok (.aload_n 0, 1) := by decide +kernel
theorem dX8_nextToken_194 : decode cX8_nextToken 194 = .ok (.getfield 67, 3) := by decide +kernel
theorem dX8_nextToken_197 : decode cX8_nextToken 197 = .ok (.iconst 2, 1) := by decide +kernel
theorem dX8_nextToken_198 : decode cX8_nextToken 198 = .ok (.if_icmp .ne 23, 3) := by decide +kernel
theorem dX8_nextToken_201 : decode cX8_nextToken 201 = .ok (.aload_n 0, 1) := by decide +kernel
theorem dX8_nextToken_202 : decode cX8_nextToken 202 = .ok (.getfield 54, 3) := by decide +kernel
theorem dX8_nextToken_205 : decode cX8_nextToken 205 = .ok (.aload_n 0, 1) := by decide +kernel
theorem dX8_nextToken_206 : decode cX8_nextToken 206 = .ok (.getfield 61, 3) := by decide +kernel
theorem dX8_nextToken_209 : decode cX8_nextToken 209 = .ok (.isub, 1) := by decide +kernel
theorem dX8_nextToken_210 : decode cX8_nextToken 210 = .ok (.iconst 2, 1) := by decide +kernel
theorem dX8_nextToken_211 : decode cX8_nextToken 211 = .ok (.if_icmp .le 10, 3) := by decide +kernel
theorem dX8_nextToken_214 : decode cX8_nextToken 214 = .ok (.aload_n 0, 1) := by decide +kernel
theorem dX8_nextToken_215 : decode cX8_nextToken 215 = .ok (.sipush 999, 3) := by decide +kernel
theorem dX8_nextToken_218 : decode cX8_nextToken 218 = .ok (.putfield 64, 3) := by decide +kernel
theorem dX8_nextToken_221 : decode cX8_nextToken 221 = .ok (.aload_n 0, 1) := by decide +kernel
theorem dX8_nextToken_222 : decode cX8_nextToken 222 = .ok (.getfield 67, 3) := by decide +kernel
theorem dX8_nextToken_225 : decode cX8_nextToken 225 = .ok (.ifCond .ne 26, 3) := by decide +kernel
theorem dX8_nextToken_228 : decode cX8_nextToken 228 = .ok (.aload_n 0, 1) := by decide +kernel
theorem dX8_nextToken_229 : decode cX8_nextToken 229 = .ok (.aload_n 0, 1) := by decide +kernel
theorem dX8_nextToken_230 : decode cX8_nextToken 230 = .ok (.getfield 16, 3) := by decide +kernel
theorem dX8_nextToken_233 : decode cX8_nextToken 233 = .ok (.aload_n 0, 1) := by decide +kernel
theorem dX8_nextToken_234 : decode cX8_nextToken 234 = .ok (.getfield 54, 3) := by decide +kernel
theorem dX8_nextToken_237 : decode cX8_nextToken 237 = .ok (.iaload, 1) := by decide +kernel
theorem dX8_nextToken_238 : decode cX8_nextToken 238 = .ok (.putfield 64, 3) := by decide +kernel
theorem dX8_nextToken_241 : decode cX8_nextToken 241 = .ok (.aload_n 0, 1) := by decide +kernel
theorem dX8_nextToken_242 : decode cX8_nextToken 242 = .ok (.dup, 1) := by decide +kernel
theorem dX8_nextToken_243 : decode cX8_nextToken 243 = .ok (.getfield 54, 3) := by decide +kernel
theorem dX8_nextToken_246 : decode cX8_nextToken 246 = .ok (.iconst 1, 1) := by decide +kernel
theorem dX8_nextToken_247 : decode cX8_nextToken 247 = .ok (.iadd, 1) := by decide +kernel
theorem dX8_nextToken_248 : decode cX8_nextToken 248 = .ok (.putfield 54, 3) := by decide +kernel
theorem dX8_nextToken_251 : decode cX8_nextToken 251 = .ok (.return_, 1) := by decide +kernel
theorem dX8_wordOf_0 : decode cX8_wordOf 0 = .ok (.lconst 0, 1) := by decide +kernel
theorem dX8_wordOf_1 : decode cX8_wordOf 1 = .ok (.lstore_n 1, 1) := by decide +kernel
theorem dX8_wordOf_2 : decode cX8_wordOf 2 = .ok (.aload_n 0, 1) := by decide +kernel
theorem dX8_wordOf_3 : decode cX8_wordOf 3 = .ok (.getfield 61, 3) := by decide +kernel
theorem dX8_wordOf_6 : decode cX8_wordOf 6 = .ok (.istore_n 3, 1) := by decide +kernel
theorem dX8_wordOf_7 : decode cX8_wordOf 7 = .ok (.iload_n 3, 1) := by decide +kernel
theorem dX8_wordOf_8 : decode cX8_wordOf 8 = .ok (.aload_n 0, 1) := by decide +kernel
theorem dX8_wordOf_9 : decode cX8_wordOf 9 = .ok (.getfield 54, 3) := by decide +kernel
theorem dX8_wordOf_12 : decode cX8_wordOf 12 = .ok (.if_icmp .ge 40, 3) := by decide +kernel
theorem dX8_wordOf_15 : decode cX8_wordOf 15 = .ok (.iload_n 3, 1) := by decide +kernel
theorem dX8_wordOf_16 : decode cX8_wordOf 16 = .ok (.aload_n 0, 1) := by decide +kernel
theorem dX8_wordOf_17 : decode cX8_wordOf 17 = .ok (.getfield 61, 3) := by decide +kernel
theorem dX8_wordOf_20 : decode cX8_wordOf 20 = .ok (.bipush 9, 2) := by decide +kernel
theorem dX8_wordOf_22 : decode cX8_wordOf 22 = .ok (.iadd, 1) := by decide +kernel
theorem dX8_wordOf_23 : decode cX8_wordOf 23 = .ok (.if_icmp .ge 29, 3) := by decide +kernel
theorem dX8_wordOf_26 : decode cX8_wordOf 26 = .ok (.ldc2_w 78, 3) := by decide +kernel
theorem dX8_wordOf_29 : decode cX8_wordOf 29 = .ok (.lload_n 1, 1) := by decide +kernel
theorem dX8_wordOf_30 : decode cX8_wordOf 30 = .ok (.lmul, 1) := by decide +kernel
theorem dX8_wordOf_31 : decode cX8_wordOf 31 = .ok (.aload_n 0, 1) := by decide +kernel
theorem dX8_wordOf_32 : decode cX8_wordOf 32 = .ok (.getfield 16, 3) := by decide +kernel
theorem dX8_wordOf_35 : decode cX8_wordOf 35 = .ok (.iload_n 3, 1) := by decide +kernel
theorem dX8_wordOf_36 : decode cX8_wordOf 36 = .ok (.iaload, 1) := by decide +kernel
theorem dX8_wordOf_37 : decode cX8_wordOf 37 = .ok (.i2l, 1) := by decide +kernel
theorem dX8_wordOf_38 : decode cX8_wordOf 38 = .ok (.ladd, 1) := by decide +kernel
theorem dX8_wordOf_39 : decode cX8_wordOf 39 = .ok (.ldc2_w 70, 3) := by decide +kernel
theorem dX8_wordOf_42 : decode cX8_wordOf 42 = .ok (.lsub, 1) := by decide +kernel
theorem dX8_wordOf_43 : decode cX8_wordOf 43 = .ok (.lconst 1, 1) := by decide +kernel
theorem dX8_wordOf_44 : decode cX8_wordOf 44 = .ok (.ladd, 1) := by decide +kernel
theorem dX8_wordOf_45 : decode cX8_wordOf 45 = .ok (.lstore_n 1, 1) := by decide +kernel
theorem dX8_wordOf_46 : decode cX8_wordOf 46 = .ok (.iinc 3 1, 3) := by decide +kernel
theorem dX8_wordOf_49 : decode cX8_wordOf 49 = .ok (.goto (-42), 3) := by decide +kernel
theorem dX8_wordOf_52 : decode cX8_wordOf 52 = .ok (.aload_n 0, 1) := by decide +kernel
theorem dX8_wordOf_53 : decode cX8_wordOf 53 = .ok (.getfield 67, 3) := by decide +kernel
theorem dX8_wordOf_56 : decode cX8_wordOf 56 = .ok (.iconst 1, 1) := by decide +kernel
theorem dX8_wordOf_57 : decode cX8_wordOf 57 = .ok (.if_icmp .ne 7, 3) := by decide +kernel
theorem dX8_wordOf_60 : decode cX8_wordOf 60 = .ok (.lload_n 1, 1) := by decide +kernel
theorem dX8_wordOf_61 : decode cX8_wordOf 61 = .ok (.goto 4, 3) := by decide +kernel
theorem dX8_wordOf_64 : decode cX8_wordOf 64 = .ok (.lconst 0, 1) := by decide +kernel
theorem dX8_wordOf_65 : decode cX8_wordOf 65 = .ok (.lreturn, 1) := by decide +kernel
theorem dX8_spelt_0 : decode cX8_spelt 0 = .ok (.lconst 0, 1) := by decide +kernel
theorem dX8_spelt_1 : decode cX8_spelt 1 = .ok (.lstore 7, 2) := by decide +kernel
theorem dX8_spelt_3 : decode cX8_spelt 3 = .ok (.lload 7, 2) := by decide +kernel
theorem dX8_spelt_5 : decode cX8_spelt 5 = .ok (.ldc2_w 78, 3) := by decide +kernel
theorem dX8_spelt_8 : decode cX8_spelt 8 = .ok (.lmul, 1) := by decide +kernel
theorem dX8_spelt_9 : decode cX8_spelt 9 = .ok (.iload_n 0, 1) := by decide +kernel
theorem dX8_spelt_10 : decode cX8_spelt 10 = .ok (.ifCond .ne 7, 3) := by decide +kernel
theorem dX8_spelt_13 : decode cX8_spelt 13 = .ok (.iconst 0, 1) := by decide +kernel
theorem dX8_spelt_14 : decode cX8_spelt 14 = .ok (.goto 9, 3) := by decide +kernel
theorem dX8_spelt_17 : decode cX8_spelt 17 = .ok (.iload_n 0, 1) := by decide +kernel
theorem dX8_spelt_18 : decode cX8_spelt 18 = .ok (.bipush 97, 2) := by decide +kernel
theorem dX8_spelt_20 : decode cX8_spelt 20 = .ok (.isub, 1) := by decide +kernel
theorem dX8_spelt_21 : decode cX8_spelt 21 = .ok (.iconst 1, 1) := by decide +kernel
theorem dX8_spelt_22 : decode cX8_spelt 22 = .ok (.iadd, 1) := by decide +kernel
theorem dX8_spelt_23 : decode cX8_spelt 23 = .ok (.i2l, 1) := by decide +kernel
theorem dX8_spelt_24 : decode cX8_spelt 24 = .ok (.ladd, 1) := by decide +kernel
theorem dX8_spelt_25 : decode cX8_spelt 25 = .ok (.lstore 7, 2) := by decide +kernel
theorem dX8_spelt_27 : decode cX8_spelt 27 = .ok (.iload_n 1, 1) := by decide +kernel
theorem dX8_spelt_28 : decode cX8_spelt 28 = .ok (.ifCond .ne 8, 3) := by decide +kernel
theorem dX8_spelt_31 : decode cX8_spelt 31 = .ok (.lload 7, 2) := by decide +kernel
theorem dX8_spelt_33 : decode cX8_spelt 33 = .ok (.goto 18, 3) := by decide +kernel
theorem dX8_spelt_36 : decode cX8_spelt 36 = .ok (.lload 7, 2) := by decide +kernel
theorem dX8_spelt_38 : decode cX8_spelt 38 = .ok (.ldc2_w 78, 3) := by decide +kernel
theorem dX8_spelt_41 : decode cX8_spelt 41 = .ok (.lmul, 1) := by decide +kernel
theorem dX8_spelt_42 : decode cX8_spelt 42 = .ok (.iload_n 1, 1) := by decide +kernel
theorem dX8_spelt_43 : decode cX8_spelt 43 = .ok (.i2l, 1) := by decide +kernel
theorem dX8_spelt_44 : decode cX8_spelt 44 = .ok (.ladd, 1) := by decide +kernel
theorem dX8_spelt_45 : decode cX8_spelt 45 = .ok (.ldc2_w 70, 3) := by decide +kernel
theorem dX8_spelt_48 : decode cX8_spelt 48 = .ok (.lsub, 1) := by decide +kernel
theorem dX8_spelt_49 : decode cX8_spelt 49 = .ok (.lconst 1, 1) := by decide +kernel
theorem dX8_spelt_50 : decode cX8_spelt 50 = .ok (.ladd, 1) := by decide +kernel
theorem dX8_spelt_51 : decode cX8_spelt 51 = .ok (.lstore 7, 2) := by decide +kernel
theorem dX8_spelt_53 : decode cX8_spelt 53 = .ok (.iload_n 2, 1) := by decide +kernel
theorem dX8_spelt_54 : decode cX8_spelt 54 = .ok (.ifCond .ne 8, 3) := by decide +kernel
theorem dX8_spelt_57 : decode cX8_spelt 57 = .ok (.lload 7, 2) := by decide +kernel
theorem dX8_spelt_59 : decode cX8_spelt 59 = .ok (.goto 18, 3) := by decide +kernel
theorem dX8_spelt_62 : decode cX8_spelt 62 = .ok (.lload 7, 2) := by decide +kernel
theorem dX8_spelt_64 : decode cX8_spelt 64 = .ok (.ldc2_w 78, 3) := by decide +kernel
theorem dX8_spelt_67 : decode cX8_spelt 67 = .ok (.lmul, 1) := by decide +kernel
theorem dX8_spelt_68 : decode cX8_spelt 68 = .ok (.iload_n 2, 1) := by decide +kernel
theorem dX8_spelt_69 : decode cX8_spelt 69 = .ok (.i2l, 1) := by decide +kernel
theorem dX8_spelt_70 : decode cX8_spelt 70 = .ok (.ladd, 1) := by decide +kernel
theorem dX8_spelt_71 : decode cX8_spelt 71 = .ok (.ldc2_w 70, 3) := by decide +kernel
theorem dX8_spelt_74 : decode cX8_spelt 74 = .ok (.lsub, 1) := by decide +kernel
theorem dX8_spelt_75 : decode cX8_spelt 75 = .ok (.lconst 1, 1) := by decide +kernel
theorem dX8_spelt_76 : decode cX8_spelt 76 = .ok (.ladd, 1) := by decide +kernel
theorem dX8_spelt_77 : decode cX8_spelt 77 = .ok (.lstore 7, 2) := by decide +kernel
theorem dX8_spelt_79 : decode cX8_spelt 79 = .ok (.iload_n 3, 1) := by decide +kernel
theorem dX8_spelt_80 : decode cX8_spelt 80 = .ok (.ifCond .ne 8, 3) := by decide +kernel
theorem dX8_spelt_83 : decode cX8_spelt 83 = .ok (.lload 7, 2) := by decide +kernel
theorem dX8_spelt_85 : decode cX8_spelt 85 = .ok (.goto 18, 3) := by decide +kernel
theorem dX8_spelt_88 : decode cX8_spelt 88 = .ok (.lload 7, 2) := by decide +kernel
theorem dX8_spelt_90 : decode cX8_spelt 90 = .ok (.ldc2_w 78, 3) := by decide +kernel
theorem dX8_spelt_93 : decode cX8_spelt 93 = .ok (.lmul, 1) := by decide +kernel
theorem dX8_spelt_94 : decode cX8_spelt 94 = .ok (.iload_n 3, 1) := by decide +kernel
theorem dX8_spelt_95 : decode cX8_spelt 95 = .ok (.i2l, 1) := by decide +kernel
theorem dX8_spelt_96 : decode cX8_spelt 96 = .ok (.ladd, 1) := by decide +kernel
theorem dX8_spelt_97 : decode cX8_spelt 97 = .ok (.ldc2_w 70, 3) := by decide +kernel
theorem dX8_spelt_100 : decode cX8_spelt 100 = .ok (.lsub, 1) := by decide +kernel
theorem dX8_spelt_101 : decode cX8_spelt 101 = .ok (.lconst 1, 1) := by decide +kernel
theorem dX8_spelt_102 : decode cX8_spelt 102 = .ok (.ladd, 1) := by decide +kernel
theorem dX8_spelt_103 : decode cX8_spelt 103 = .ok (.lstore 7, 2) := by decide +kernel
theorem dX8_spelt_105 : decode cX8_spelt 105 = .ok (.iload 4, 2) := by decide +kernel
theorem dX8_spelt_107 : decode cX8_spelt 107 = .ok (.ifCond .ne 8, 3) := by decide +kernel
theorem dX8_spelt_110 : decode cX8_spelt 110 = .ok (.lload 7, 2) := by decide +kernel
theorem dX8_spelt_112 : decode cX8_spelt 112 = .ok (.goto 19, 3) := by decide +kernel
theorem dX8_spelt_115 : decode cX8_spelt 115 = .ok (.lload 7, 2) := by decide +kernel
theorem dX8_spelt_117 : decode cX8_spelt 117 = .ok (.ldc2_w 78, 3) := by decide +kernel
theorem dX8_spelt_120 : decode cX8_spelt 120 = .ok (.lmul, 1) := by decide +kernel
theorem dX8_spelt_121 : decode cX8_spelt 121 = .ok (.iload 4, 2) := by decide +kernel
theorem dX8_spelt_123 : decode cX8_spelt 123 = .ok (.i2l, 1) := by decide +kernel
theorem dX8_spelt_124 : decode cX8_spelt 124 = .ok (.ladd, 1) := by decide +kernel
theorem dX8_spelt_125 : decode cX8_spelt 125 = .ok (.ldc2_w 70, 3) := by decide +kernel
theorem dX8_spelt_128 : decode cX8_spelt 128 = .ok (.lsub, 1) := by decide +kernel
theorem dX8_spelt_129 : decode cX8_spelt 129 = .ok (.lconst 1, 1) := by decide +kernel
theorem dX8_spelt_130 : decode cX8_spelt 130 = .ok (.ladd, 1) := by decide +kernel
theorem dX8_spelt_131 : decode cX8_spelt 131 = .ok (.lstore 7, 2) := by decide +kernel
theorem dX8_spelt_133 : decode cX8_spelt 133 = .ok (.iload 5, 2) := by decide +kernel
theorem dX8_spelt_135 : decode cX8_spelt 135 = .ok (.ifCond .ne 8, 3) := by decide +kernel
theorem dX8_spelt_138 : decode cX8_spelt 138 = .ok (.lload 7, 2) := by decide +kernel
theorem dX8_spelt_140 : decode cX8_spelt 140 = .ok (.goto 19, 3) := by decide +kernel
theorem dX8_spelt_143 : decode cX8_spelt 143 = .ok (.lload 7, 2) := by decide +kernel
theorem dX8_spelt_145 : decode cX8_spelt 145 = .ok (.ldc2_w 78, 3) := by decide +kernel
theorem dX8_spelt_148 : decode cX8_spelt 148 = .ok (.lmul, 1) := by decide +kernel
theorem dX8_spelt_149 : decode cX8_spelt 149 = .ok (.iload 5, 2) := by decide +kernel
theorem dX8_spelt_151 : decode cX8_spelt 151 = .ok (.i2l, 1) := by decide +kernel
theorem dX8_spelt_152 : decode cX8_spelt 152 = .ok (.ladd, 1) := by decide +kernel
theorem dX8_spelt_153 : decode cX8_spelt 153 = .ok (.ldc2_w 70, 3) := by decide +kernel
theorem dX8_spelt_156 : decode cX8_spelt 156 = .ok (.lsub, 1) := by decide +kernel
theorem dX8_spelt_157 : decode cX8_spelt 157 = .ok (.lconst 1, 1) := by decide +kernel
theorem dX8_spelt_158 : decode cX8_spelt 158 = .ok (.ladd, 1) := by decide +kernel
theorem dX8_spelt_159 : decode cX8_spelt 159 = .ok (.lstore 7, 2) := by decide +kernel
theorem dX8_spelt_161 : decode cX8_spelt 161 = .ok (.iload 6, 2) := by decide +kernel
theorem dX8_spelt_163 : decode cX8_spelt 163 = .ok (.ifCond .ne 8, 3) := by decide +kernel
theorem dX8_spelt_166 : decode cX8_spelt 166 = .ok (.lload 7, 2) := by decide +kernel
theorem dX8_spelt_168 : decode cX8_spelt 168 = .ok (.goto 19, 3) := by decide +kernel
theorem dX8_spelt_171 : decode cX8_spelt 171 = .ok (.lload 7, 2) := by decide +kernel
theorem dX8_spelt_173 : decode cX8_spelt 173 = .ok (.ldc2_w 78, 3) := by decide +kernel
theorem dX8_spelt_176 : decode cX8_spelt 176 = .ok (.lmul, 1) := by decide +kernel
theorem dX8_spelt_177 : decode cX8_spelt 177 = .ok (.iload 6, 2) := by decide +kernel
theorem dX8_spelt_179 : decode cX8_spelt 179 = .ok (.i2l, 1) := by decide +kernel
theorem dX8_spelt_180 : decode cX8_spelt 180 = .ok (.ladd, 1) := by decide +kernel
theorem dX8_spelt_181 : decode cX8_spelt 181 = .ok (.ldc2_w 70, 3) := by decide +kernel
theorem dX8_spelt_184 : decode cX8_spelt 184 = .ok (.lsub, 1) := by decide +kernel
theorem dX8_spelt_185 : decode cX8_spelt 185 = .ok (.lconst 1, 1) := by decide +kernel
theorem dX8_spelt_186 : decode cX8_spelt 186 = .ok (.ladd, 1) := by decide +kernel
theorem dX8_spelt_187 : decode cX8_spelt 187 = .ok (.lreturn, 1) := by decide +kernel
set_option maxRecDepth 20000 in
theorem ggX8_verb_X8_wordOf : GoodIn wsX8_verb wsX8_wordOf := goodIn_r _ [5, 6, 7, 8, 9, 10, 11, 15, 16, 17, 18, 19, 20, 21, 22, 23, 24, 25, 26, 27, 28, 29, 30, 31, 32] (by decide +kernel) (by decide +kernel)
set_option maxRecDepth 20000 in
theorem gX8_verb_X8_wordOf : GoodIn wsX8_verb (wsV RX8 80 RX8 yX8_wordOf wsX8_wordOf) := goodIn_app (goodIn_of _ (by decide +kernel)) ggX8_verb_X8_wordOf
set_option maxRecDepth 20000 in
theorem ggX8_verb_X8_spelt : GoodIn wsX8_verb wsX8_spelt := goodIn_r _ [14, 8, 10] (by decide +kernel) (by decide +kernel)
set_option maxRecDepth 20000 in
theorem gX8_verb_X8_spelt : GoodIn wsX8_verb (va_wsS RX8 84 yX8_spelt wsX8_spelt) := goodIn_app (goodIn_of _ (by decide +kernel)) ggX8_verb_X8_spelt
theorem dX8_verb_0 : decode cX8_verb 0 = .ok (.aload_n 0, 1) := by decide +kernel
theorem dX8_verb_1 : decode cX8_verb 1 = .ok (.invokevirtual 80, 3) := by decide +kernel
theorem dX8_verb_4 : decode cX8_verb 4 = .ok (.lstore_n 1, 1) := by decide +kernel
theorem dX8_verb_5 : decode cX8_verb 5 = .ok (.lload_n 1, 1) := by decide +kernel
theorem dX8_verb_6 : decode cX8_verb 6 = .ok (.bipush 99, 2) := by decide +kernel
theorem dX8_verb_8 : decode cX8_verb 8 = .ok (.bipush 108, 2) := by decide +kernel
theorem dX8_verb_10 : decode cX8_verb 10 = .ok (.bipush 105, 2) := by decide +kernel
theorem dX8_verb_12 : decode cX8_verb 12 = .ok (.bipush 109, 2) := by decide +kernel
theorem dX8_verb_14 : decode cX8_verb 14 = .ok (.bipush 98, 2) := by decide +kernel
theorem dX8_verb_16 : decode cX8_verb 16 = .ok (.bipush 101, 2) := by decide +kernel
theorem dX8_verb_18 : decode cX8_verb 18 = .ok (.bipush 114, 2) := by decide +kernel
theorem dX8_verb_20 : decode cX8_verb 20 = .ok (.invokestatic 84, 3) := by decide +kernel
theorem dX8_verb_23 : decode cX8_verb 23 = .ok (.lcmp, 1) := by decide +kernel
theorem dX8_verb_24 : decode cX8_verb 24 = .ok (.ifCond .ne 5, 3) := by decide +kernel
theorem dX8_verb_27 : decode cX8_verb 27 = .ok (.iconst 0, 1) := by decide +kernel
theorem dX8_verb_28 : decode cX8_verb 28 = .ok (.ireturn, 1) := by decide +kernel
theorem dX8_verb_29 : decode cX8_verb 29 = .ok (.lload_n 1, 1) := by decide +kernel
theorem dX8_verb_30 : decode cX8_verb 30 = .ok (.bipush 103, 2) := by decide +kernel
theorem dX8_verb_32 : decode cX8_verb 32 = .ok (.bipush 117, 2) := by decide +kernel
theorem dX8_verb_34 : decode cX8_verb 34 = .ok (.bipush 105, 2) := by decide +kernel
theorem dX8_verb_36 : decode cX8_verb 36 = .ok (.bipush 100, 2) := by decide +kernel
theorem dX8_verb_38 : decode cX8_verb 38 = .ok (.bipush 101, 2) := by decide +kernel
theorem dX8_verb_40 : decode cX8_verb 40 = .ok (.iconst 0, 1) := by decide +kernel
theorem dX8_verb_41 : decode cX8_verb 41 = .ok (.iconst 0, 1) := by decide +kernel
theorem dX8_verb_42 : decode cX8_verb 42 = .ok (.invokestatic 84, 3) := by decide +kernel
theorem dX8_verb_45 : decode cX8_verb 45 = .ok (.lcmp, 1) := by decide +kernel
theorem dX8_verb_46 : decode cX8_verb 46 = .ok (.ifCond .ne 5, 3) := by decide +kernel
theorem dX8_verb_49 : decode cX8_verb 49 = .ok (.iconst 1, 1) := by decide +kernel
theorem dX8_verb_50 : decode cX8_verb 50 = .ok (.ireturn, 1) := by decide +kernel
theorem dX8_verb_51 : decode cX8_verb 51 = .ok (.lload_n 1, 1) := by decide +kernel
theorem dX8_verb_52 : decode cX8_verb 52 = .ok (.bipush 109, 2) := by decide +kernel
theorem dX8_verb_54 : decode cX8_verb 54 = .ok (.bipush 111, 2) := by decide +kernel
theorem dX8_verb_56 : decode cX8_verb 56 = .ok (.bipush 117, 2) := by decide +kernel
theorem dX8_verb_58 : decode cX8_verb 58 = .ok (.bipush 114, 2) := by decide +kernel
theorem dX8_verb_60 : decode cX8_verb 60 = .ok (.bipush 110, 2) := by decide +kernel
theorem dX8_verb_62 : decode cX8_verb 62 = .ok (.bipush 101, 2) := by decide +kernel
theorem dX8_verb_64 : decode cX8_verb 64 = .ok (.bipush 114, 2) := by decide +kernel
theorem dX8_verb_66 : decode cX8_verb 66 = .ok (.invokestatic 84, 3) := by decide +kernel
theorem dX8_verb_69 : decode cX8_verb 69 = .ok (.lcmp, 1) := by decide +kernel
theorem dX8_verb_70 : decode cX8_verb 70 = .ok (.ifCond .ne 5, 3) := by decide +kernel
theorem dX8_verb_73 : decode cX8_verb 73 = .ok (.iconst 2, 1) := by decide +kernel
theorem dX8_verb_74 : decode cX8_verb 74 = .ok (.ireturn, 1) := by decide +kernel
theorem dX8_verb_75 : decode cX8_verb 75 = .ok (.lload_n 1, 1) := by decide +kernel
theorem dX8_verb_76 : decode cX8_verb 76 = .ok (.bipush 98, 2) := by decide +kernel
theorem dX8_verb_78 : decode cX8_verb 78 = .ok (.bipush 97, 2) := by decide +kernel
theorem dX8_verb_80 : decode cX8_verb 80 = .ok (.bipush 110, 2) := by decide +kernel
theorem dX8_verb_82 : decode cX8_verb 82 = .ok (.bipush 107, 2) := by decide +kernel
theorem dX8_verb_84 : decode cX8_verb 84 = .ok (.iconst 0, 1) := by decide +kernel
theorem dX8_verb_85 : decode cX8_verb 85 = .ok (.iconst 0, 1) := by decide +kernel
theorem dX8_verb_86 : decode cX8_verb 86 = .ok (.iconst 0, 1) := by decide +kernel
theorem dX8_verb_87 : decode cX8_verb 87 = .ok (.invokestatic 84, 3) := by decide +kernel
theorem dX8_verb_90 : decode cX8_verb 90 = .ok (.lcmp, 1) := by decide +kernel
theorem dX8_verb_91 : decode cX8_verb 91 = .ok (.ifCond .ne 5, 3) := by decide +kernel
theorem dX8_verb_94 : decode cX8_verb 94 = .ok (.iconst 3, 1) := by decide +kernel
theorem dX8_verb_95 : decode cX8_verb 95 = .ok (.ireturn, 1) := by decide +kernel
theorem dX8_verb_96 : decode cX8_verb 96 = .ok (.lload_n 1, 1) := by decide +kernel
theorem dX8_verb_97 : decode cX8_verb 97 = .ok (.bipush 116, 2) := by decide +kernel
theorem dX8_verb_99 : decode cX8_verb 99 = .ok (.bipush 111, 2) := by decide +kernel
theorem dX8_verb_101 : decode cX8_verb 101 = .ok (.bipush 112, 2) := by decide +kernel
theorem dX8_verb_103 : decode cX8_verb 103 = .ok (.iconst 0, 1) := by decide +kernel
theorem dX8_verb_104 : decode cX8_verb 104 = .ok (.iconst 0, 1) := by decide +kernel
theorem dX8_verb_105 : decode cX8_verb 105 = .ok (.iconst 0, 1) := by decide +kernel
theorem dX8_verb_106 : decode cX8_verb 106 = .ok (.iconst 0, 1) := by decide +kernel
theorem dX8_verb_107 : decode cX8_verb 107 = .ok (.invokestatic 84, 3) := by decide +kernel
theorem dX8_verb_110 : decode cX8_verb 110 = .ok (.lcmp, 1) := by decide +kernel
theorem dX8_verb_111 : decode cX8_verb 111 = .ok (.ifCond .ne 5, 3) := by decide +kernel
theorem dX8_verb_114 : decode cX8_verb 114 = .ok (.iconst 4, 1) := by decide +kernel
theorem dX8_verb_115 : decode cX8_verb 115 = .ok (.ireturn, 1) := by decide +kernel
theorem dX8_verb_116 : decode cX8_verb 116 = .ok (.lload_n 1, 1) := by decide +kernel
theorem dX8_verb_117 : decode cX8_verb 117 = .ok (.bipush 100, 2) := by decide +kernel
theorem dX8_verb_119 : decode cX8_verb 119 = .ok (.bipush 101, 2) := by decide +kernel
theorem dX8_verb_121 : decode cX8_verb 121 = .ok (.bipush 101, 2) := by decide +kernel
theorem dX8_verb_123 : decode cX8_verb 123 = .ok (.bipush 100, 2) := by decide +kernel
theorem dX8_verb_125 : decode cX8_verb 125 = .ok (.iconst 0, 1) := by decide +kernel
theorem dX8_verb_126 : decode cX8_verb 126 = .ok (.iconst 0, 1) := by decide +kernel
theorem dX8_verb_127 : decode cX8_verb 127 = .ok (.iconst 0, 1) := by decide +kernel
theorem dX8_verb_128 : decode cX8_verb 128 = .ok (.invokestatic 84, 3) := by decide +kernel
theorem dX8_verb_131 : decode cX8_verb 131 = .ok (.lcmp, 1) := by decide +kernel
theorem dX8_verb_132 : decode cX8_verb 132 = .ok (.ifCond .ne 5, 3) := by decide +kernel
theorem dX8_verb_135 : decode cX8_verb 135 = .ok (.iconst 5, 1) := by decide +kernel
theorem dX8_verb_136 : decode cX8_verb 136 = .ok (.ireturn, 1) := by decide +kernel
theorem dX8_verb_137 : decode cX8_verb 137 = .ok (.lload_n 1, 1) := by decide +kernel
theorem dX8_verb_138 : decode cX8_verb 138 = .ok (.bipush 102, 2) := by decide +kernel
theorem dX8_verb_140 : decode cX8_verb 140 = .ok (.bipush 111, 2) := by decide +kernel
theorem dX8_verb_142 : decode cX8_verb 142 = .ok (.bipush 103, 2) := by decide +kernel
theorem dX8_verb_144 : decode cX8_verb 144 = .ok (.iconst 0, 1) := by decide +kernel
theorem dX8_verb_145 : decode cX8_verb 145 = .ok (.iconst 0, 1) := by decide +kernel
theorem dX8_verb_146 : decode cX8_verb 146 = .ok (.iconst 0, 1) := by decide +kernel
theorem dX8_verb_147 : decode cX8_verb 147 = .ok (.iconst 0, 1) := by decide +kernel
theorem dX8_verb_148 : decode cX8_verb 148 = .ok (.invokestatic 84, 3) := by decide +kernel
theorem dX8_verb_151 : decode cX8_verb 151 = .ok (.lcmp, 1) := by decide +kernel
theorem dX8_verb_152 : decode cX8_verb 152 = .ok (.ifCond .ne 8, 3) := by decide +kernel
theorem dX8_verb_155 : decode cX8_verb 155 = .ok (.bipush 6, 2) := by decide +kernel
theorem dX8_verb_157 : decode cX8_verb 157 = .ok (.goto 29, 3) := by decide +kernel
theorem dX8_verb_160 : decode cX8_verb 160 = .ok (.lload_n 1, 1) := by decide +kernel
theorem dX8_verb_161 : decode cX8_verb 161 = .ok (.bipush 99, 2) := by decide +kernel
theorem dX8_verb_163 : decode cX8_verb 163 = .ok (.bipush 108, 2) := by decide +kernel
theorem dX8_verb_165 : decode cX8_verb 165 = .ok (.bipush 101, 2) := by decide +kernel
theorem dX8_verb_167 : decode cX8_verb 167 = .ok (.bipush 97, 2) := by decide +kernel
theorem dX8_verb_169 : decode cX8_verb 169 = .ok (.bipush 114, 2) := by decide +kernel
theorem dX8_verb_171 : decode cX8_verb 171 = .ok (.iconst 0, 1) := by decide +kernel
theorem dX8_verb_172 : decode cX8_verb 172 = .ok (.iconst 0, 1) := by decide +kernel
theorem dX8_verb_173 : decode cX8_verb 173 = .ok (.invokestatic 84, 3) := by decide +kernel
theorem dX8_verb_176 : decode cX8_verb 176 = .ok (.lcmp, 1) := by decide +kernel
theorem dX8_verb_177 : decode cX8_verb 177 = .ok (.ifCond .ne 8, 3) := by decide +kernel
theorem dX8_verb_180 : decode cX8_verb 180 = .ok (.bipush 7, 2) := by decide +kernel
theorem dX8_verb_182 : decode cX8_verb 182 = .ok (.goto 4, 3) := by decide +kernel
theorem dX8_verb_185 : decode cX8_verb 185 = .ok (.iconst (-1), 1) := by decide +kernel
theorem dX8_verb_186 : decode cX8_verb 186 = .ok (.ireturn, 1) := by decide +kernel
set_option maxRecDepth 20000 in
theorem ggX8_number_X8_nextToken : GoodIn wsX8_number wsX8_nextToken := goodIn_r _ [7, 8, 9, 2, 10, 1, 11, 12, 13, 14, 15, 16, 17, 18, 6, 19, 20, 21, 22, 23, 24, 25, 26, 27, 28, 29, 30, 31, 32, 33, 34, 35, 36, 37, 38, 39, 40] (by decide +kernel) (by decide +kernel)
set_option maxRecDepth 20000 in
theorem gX8_number_X8_nextToken : GoodIn wsX8_number (wsV RX8 88 RX8 yX8_nextToken wsX8_nextToken) := goodIn_app (goodIn_of _ (by decide +kernel)) ggX8_number_X8_nextToken
set_option maxRecDepth 20000 in
theorem ggX8_number_X8_in : GoodIn wsX8_number wsX8_in := goodIn_r _ [22] (by decide +kernel) (by decide +kernel)
set_option maxRecDepth 20000 in
theorem gX8_number_X8_in : GoodIn wsX8_number (va_wsS RX8 44 yX8_in wsX8_in) := goodIn_app (goodIn_of _ (by decide +kernel)) ggX8_number_X8_in
theorem dX8_number_0 : decode cX8_number 0 = .ok (.aload_n 0, 1) := by decide +kernel
theorem dX8_number_1 : decode cX8_number 1 = .ok (.invokevirtual 88, 3) := by decide +kernel
theorem dX8_number_4 : decode cX8_number 4 = .ok (.aload_n 0, 1) := by decide +kernel
theorem dX8_number_5 : decode cX8_number 5 = .ok (.getfield 67, 3) := by decide +kernel
theorem dX8_number_8 : decode cX8_number 8 = .ok (.iconst 2, 1) := by decide +kernel
theorem dX8_number_9 : decode cX8_number 9 = .ok (.if_icmp .ne 25, 3) := by decide +kernel
theorem dX8_number_12 : decode cX8_number 12 = .ok (.aload_n 0, 1) := by decide +kernel
theorem dX8_number_13 : decode cX8_number 13 = .ok (.getfield 64, 3) := by decide +kernel
theorem dX8_number_16 : decode cX8_number 16 = .ok (.i2l, 1) := by decide +kernel
theorem dX8_number_17 : decode cX8_number 17 = .ok (.iload_n 1, 1) := by decide +kernel
theorem dX8_number_18 : decode cX8_number 18 = .ok (.i2l, 1) := by decide +kernel
theorem dX8_number_19 : decode cX8_number 19 = .ok (.iload_n 2, 1) := by decide +kernel
theorem dX8_number_20 : decode cX8_number 20 = .ok (.i2l, 1) := by decide +kernel
theorem dX8_number_21 : decode cX8_number 21 = .ok (.invokestatic 44, 3) := by decide +kernel
theorem dX8_number_24 : decode cX8_number 24 = .ok (.ifCond .eq 10, 3) := by decide +kernel
theorem dX8_number_27 : decode cX8_number 27 = .ok (.aload_n 0, 1) := by decide +kernel
theorem dX8_number_28 : decode cX8_number 28 = .ok (.getfield 64, 3) := by decide +kernel
theorem dX8_number_31 : decode cX8_number 31 = .ok (.goto 4, 3) := by decide +kernel
theorem dX8_number_34 : decode cX8_number 34 = .ok (.iconst (-1), 1) := by decide +kernel
theorem dX8_number_35 : decode cX8_number 35 = .ok (.ireturn, 1) := by decide +kernel
set_option maxRecDepth 20000 in
theorem ggX8_readPerson_X8_number : GoodIn wsX8_readPerson wsX8_number := goodIn_r _ [6, 7, 8, 9, 10, 11, 5, 12, 13, 14, 15, 16, 17, 18, 19, 20, 21, 22, 23, 24, 25, 26, 27, 28, 29, 30, 31, 32, 33, 34, 35, 36, 37, 38, 39, 40, 41, 42, 43, 44, 45] (by decide +kernel) (by decide +kernel)
set_option maxRecDepth 20000 in
theorem gX8_readPerson_X8_number : GoodIn wsX8_readPerson (wsV RX8 91 RX8 yX8_number wsX8_number) := goodIn_app (goodIn_of _ (by decide +kernel)) ggX8_readPerson_X8_number
theorem dX8_readPerson_0 : decode cX8_readPerson 0 = .ok (.aload_n 0, 1) := by decide +kernel
theorem dX8_readPerson_1 : decode cX8_readPerson 1 = .ok (.getfield 19, 3) := by decide +kernel
theorem dX8_readPerson_4 : decode cX8_readPerson 4 = .ok (.iconst 0, 1) := by decide +kernel
theorem dX8_readPerson_5 : decode cX8_readPerson 5 = .ok (.iaload, 1) := by decide +kernel
theorem dX8_readPerson_6 : decode cX8_readPerson 6 = .ok (.istore_n 2, 1) := by decide +kernel
theorem dX8_readPerson_7 : decode cX8_readPerson 7 = .ok (.iload_n 2, 1) := by decide +kernel
theorem dX8_readPerson_8 : decode cX8_readPerson 8 = .ok (.bipush 6, 2) := by decide +kernel
theorem dX8_readPerson_10 : decode cX8_readPerson 10 = .ok (.if_icmp .ne 5, 3) := by decide +kernel
theorem dX8_readPerson_13 : decode cX8_readPerson 13 = .ok (.iconst 0, 1) := by decide +kernel
theorem dX8_readPerson_14 : decode cX8_readPerson 14 = .ok (.ireturn, 1) := by decide +kernel
theorem dX8_readPerson_15 : decode cX8_readPerson 15 = .ok (.aload_n 0, 1) := by decide +kernel
theorem dX8_readPerson_16 : decode cX8_readPerson 16 = .ok (.iconst 1, 1) := by decide +kernel
theorem dX8_readPerson_17 : decode cX8_readPerson 17 = .ok (.bipush 20, 2) := by decide +kernel
theorem dX8_readPerson_19 : decode cX8_readPerson 19 = .ok (.invokevirtual 91, 3) := by decide +kernel
theorem dX8_readPerson_22 : decode cX8_readPerson 22 = .ok (.istore_n 3, 1) := by decide +kernel
theorem dX8_readPerson_23 : decode cX8_readPerson 23 = .ok (.iload_n 3, 1) := by decide +kernel
theorem dX8_readPerson_24 : decode cX8_readPerson 24 = .ok (.ifCond .ge 7, 3) := by decide +kernel
theorem dX8_readPerson_27 : decode cX8_readPerson 27 = .ok (.iconst (-1), 1) := by decide +kernel
theorem dX8_readPerson_28 : decode cX8_readPerson 28 = .ok (.goto 10, 3) := by decide +kernel
theorem dX8_readPerson_31 : decode cX8_readPerson 31 = .ok (.aload_n 0, 1) := by decide +kernel
theorem dX8_readPerson_32 : decode cX8_readPerson 32 = .ok (.iconst 1, 1) := by decide +kernel
theorem dX8_readPerson_33 : decode cX8_readPerson 33 = .ok (.bipush 6, 2) := by decide +kernel
theorem dX8_readPerson_35 : decode cX8_readPerson 35 = .ok (.invokevirtual 91, 3) := by decide +kernel
theorem dX8_readPerson_38 : decode cX8_readPerson 38 = .ok (.istore 4, 2) := by decide +kernel
theorem dX8_readPerson_40 : decode cX8_readPerson 40 = .ok (.iload 4, 2) := by decide +kernel
theorem dX8_readPerson_42 : decode cX8_readPerson 42 = .ok (.ifCond .ge 7, 3) := by decide +kernel
theorem dX8_readPerson_45 : decode cX8_readPerson 45 = .ok (.iconst (-1), 1) := by decide +kernel
theorem dX8_readPerson_46 : decode cX8_readPerson 46 = .ok (.goto 10, 3) := by decide +kernel
theorem dX8_readPerson_49 : decode cX8_readPerson 49 = .ok (.aload_n 0, 1) := by decide +kernel
theorem dX8_readPerson_50 : decode cX8_readPerson 50 = .ok (.iconst 0, 1) := by decide +kernel
theorem dX8_readPerson_51 : decode cX8_readPerson 51 = .ok (.bipush 20, 2) := by decide +kernel
theorem dX8_readPerson_53 : decode cX8_readPerson 53 = .ok (.invokevirtual 91, 3) := by decide +kernel
theorem dX8_readPerson_56 : decode cX8_readPerson 56 = .ok (.istore 5, 2) := by decide +kernel
theorem dX8_readPerson_58 : decode cX8_readPerson 58 = .ok (.iload 5, 2) := by decide +kernel
theorem dX8_readPerson_60 : decode cX8_readPerson 60 = .ok (.ifCond .ge 5, 3) := by decide +kernel
theorem dX8_readPerson_63 : decode cX8_readPerson 63 = .ok (.iconst 0, 1) := by decide +kernel
theorem dX8_readPerson_64 : decode cX8_readPerson 64 = .ok (.ireturn, 1) := by decide +kernel
theorem dX8_readPerson_65 : decode cX8_readPerson 65 = .ok (.aload_n 0, 1) := by decide +kernel
theorem dX8_readPerson_66 : decode cX8_readPerson 66 = .ok (.getfield 19, 3) := by decide +kernel
theorem dX8_readPerson_69 : decode cX8_readPerson 69 = .ok (.iconst 1, 1) := by decide +kernel
theorem dX8_readPerson_70 : decode cX8_readPerson 70 = .ok (.iload_n 2, 1) := by decide +kernel
theorem dX8_readPerson_71 : decode cX8_readPerson 71 = .ok (.iadd, 1) := by decide +kernel
theorem dX8_readPerson_72 : decode cX8_readPerson 72 = .ok (.iload_n 1, 1) := by decide +kernel
theorem dX8_readPerson_73 : decode cX8_readPerson 73 = .ok (.iastore, 1) := by decide +kernel
theorem dX8_readPerson_74 : decode cX8_readPerson 74 = .ok (.aload_n 0, 1) := by decide +kernel
theorem dX8_readPerson_75 : decode cX8_readPerson 75 = .ok (.getfield 19, 3) := by decide +kernel
theorem dX8_readPerson_78 : decode cX8_readPerson 78 = .ok (.bipush 7, 2) := by decide +kernel
theorem dX8_readPerson_80 : decode cX8_readPerson 80 = .ok (.iload_n 2, 1) := by decide +kernel
theorem dX8_readPerson_81 : decode cX8_readPerson 81 = .ok (.iadd, 1) := by decide +kernel
theorem dX8_readPerson_82 : decode cX8_readPerson 82 = .ok (.iload_n 3, 1) := by decide +kernel
theorem dX8_readPerson_83 : decode cX8_readPerson 83 = .ok (.iastore, 1) := by decide +kernel
theorem dX8_readPerson_84 : decode cX8_readPerson 84 = .ok (.aload_n 0, 1) := by decide +kernel
theorem dX8_readPerson_85 : decode cX8_readPerson 85 = .ok (.getfield 19, 3) := by decide +kernel
theorem dX8_readPerson_88 : decode cX8_readPerson 88 = .ok (.bipush 13, 2) := by decide +kernel
theorem dX8_readPerson_90 : decode cX8_readPerson 90 = .ok (.iload_n 2, 1) := by decide +kernel
theorem dX8_readPerson_91 : decode cX8_readPerson 91 = .ok (.iadd, 1) := by decide +kernel
theorem dX8_readPerson_92 : decode cX8_readPerson 92 = .ok (.iload 4, 2) := by decide +kernel
theorem dX8_readPerson_94 : decode cX8_readPerson 94 = .ok (.iastore, 1) := by decide +kernel
theorem dX8_readPerson_95 : decode cX8_readPerson 95 = .ok (.aload_n 0, 1) := by decide +kernel
theorem dX8_readPerson_96 : decode cX8_readPerson 96 = .ok (.getfield 19, 3) := by decide +kernel
theorem dX8_readPerson_99 : decode cX8_readPerson 99 = .ok (.bipush 19, 2) := by decide +kernel
theorem dX8_readPerson_101 : decode cX8_readPerson 101 = .ok (.iload_n 2, 1) := by decide +kernel
theorem dX8_readPerson_102 : decode cX8_readPerson 102 = .ok (.iadd, 1) := by decide +kernel
theorem dX8_readPerson_103 : decode cX8_readPerson 103 = .ok (.iload 5, 2) := by decide +kernel
theorem dX8_readPerson_105 : decode cX8_readPerson 105 = .ok (.iastore, 1) := by decide +kernel
theorem dX8_readPerson_106 : decode cX8_readPerson 106 = .ok (.aload_n 0, 1) := by decide +kernel
theorem dX8_readPerson_107 : decode cX8_readPerson 107 = .ok (.getfield 19, 3) := by decide +kernel
theorem dX8_readPerson_110 : decode cX8_readPerson 110 = .ok (.iconst 0, 1) := by decide +kernel
theorem dX8_readPerson_111 : decode cX8_readPerson 111 = .ok (.dup2, 1) := by decide +kernel
theorem dX8_readPerson_112 : decode cX8_readPerson 112 = .ok (.iaload, 1) := by decide +kernel
theorem dX8_readPerson_113 : decode cX8_readPerson 113 = .ok (.iconst 1, 1) := by decide +kernel
theorem dX8_readPerson_114 : decode cX8_readPerson 114 = .ok (.iadd, 1) := by decide +kernel
theorem dX8_readPerson_115 : decode cX8_readPerson 115 = .ok (.iastore, 1) := by decide +kernel
theorem dX8_readPerson_116 : decode cX8_readPerson 116 = .ok (.iconst 1, 1) := by decide +kernel
theorem dX8_readPerson_117 : decode cX8_readPerson 117 = .ok (.ireturn, 1) := by decide +kernel
theorem dX8_fill_0 : decode cX8_fill 0 = .ok (.iload_n 2, 1) := by decide +kernel
theorem dX8_fill_1 : decode cX8_fill 1 = .ok (.istore 5, 2) := by decide +kernel
theorem dX8_fill_3 : decode cX8_fill 3 = .ok (.iload 5, 2) := by decide +kernel
theorem dX8_fill_5 : decode cX8_fill 5 = .ok (.iload_n 3, 1) := by decide +kernel
theorem dX8_fill_6 : decode cX8_fill 6 = .ok (.if_icmp .gt 20, 3) := by decide +kernel
theorem dX8_fill_9 : decode cX8_fill 9 = .ok (.aload_n 0, 1) := by decide +kernel
theorem dX8_fill_10 : decode cX8_fill 10 = .ok (.getfield 19, 3) := by decide +kernel
theorem dX8_fill_13 : decode cX8_fill 13 = .ok (.iload_n 1, 1) := by decide +kernel
theorem dX8_fill_14 : decode cX8_fill 14 = .ok (.iload 5, 2) := by decide +kernel
theorem dX8_fill_16 : decode cX8_fill 16 = .ok (.iadd, 1) := by decide +kernel
theorem dX8_fill_17 : decode cX8_fill 17 = .ok (.iload 4, 2) := by decide +kernel
theorem dX8_fill_19 : decode cX8_fill 19 = .ok (.iastore, 1) := by decide +kernel
theorem dX8_fill_20 : decode cX8_fill 20 = .ok (.iinc 5 1, 3) := by decide +kernel
theorem dX8_fill_23 : decode cX8_fill 23 = .ok (.goto (-20), 3) := by decide +kernel
theorem dX8_fill_26 : decode cX8_fill 26 = .ok (.return_, 1) := by decide +kernel
set_option maxRecDepth 20000 in
theorem ggX8_readSpan_X8_number : GoodIn wsX8_readSpan wsX8_number := goodIn_r _ [5, 6, 7, 8, 9, 10, 4, 11, 12, 13, 14, 15, 16, 17, 18, 19, 20, 21, 22, 23, 24, 25, 26, 32, 33, 34, 35, 36, 37, 38, 39, 40, 41, 42, 43, 44, 45, 46, 47, 48, 49] (by decide +kernel) (by decide +kernel)
set_option maxRecDepth 20000 in
theorem gX8_readSpan_X8_number : GoodIn wsX8_readSpan (wsV RX8 91 RX8 yX8_number wsX8_number) := goodIn_app (goodIn_of _ (by decide +kernel)) ggX8_readSpan_X8_number
set_option maxRecDepth 20000 in
theorem ggX8_readSpan_X8_fill : GoodIn wsX8_readSpan wsX8_fill := goodIn_r _ [30, 31, 32, 33, 34, 35, 36, 37, 38, 39, 40, 41, 42, 43, 44, 45, 46, 47, 48, 49] (by decide +kernel) (by decide +kernel)
set_option maxRecDepth 20000 in
theorem gX8_readSpan_X8_fill : GoodIn wsX8_readSpan (wsV RX8 95 RX8 yX8_fill wsX8_fill) := goodIn_app (goodIn_of _ (by decide +kernel)) ggX8_readSpan_X8_fill
theorem dX8_readSpan_0 : decode cX8_readSpan 0 = .ok (.aload_n 0, 1) := by decide +kernel
theorem dX8_readSpan_1 : decode cX8_readSpan 1 = .ok (.iconst 0, 1) := by decide +kernel
theorem dX8_readSpan_2 : decode cX8_readSpan 2 = .ok (.bipush 59, 2) := by decide +kernel
theorem dX8_readSpan_4 : decode cX8_readSpan 4 = .ok (.invokevirtual 91, 3) := by decide +kernel
theorem dX8_readSpan_7 : decode cX8_readSpan 7 = .ok (.istore_n 3, 1) := by decide +kernel
theorem dX8_readSpan_8 : decode cX8_readSpan 8 = .ok (.iload_n 3, 1) := by decide +kernel
theorem dX8_readSpan_9 : decode cX8_readSpan 9 = .ok (.ifCond .ge 7, 3) := by decide +kernel
theorem dX8_readSpan_12 : decode cX8_readSpan 12 = .ok (.iconst (-1), 1) := by decide +kernel
theorem dX8_readSpan_13 : decode cX8_readSpan 13 = .ok (.goto 10, 3) := by decide +kernel
theorem dX8_readSpan_16 : decode cX8_readSpan 16 = .ok (.aload_n 0, 1) := by decide +kernel
theorem dX8_readSpan_17 : decode cX8_readSpan 17 = .ok (.iload_n 3, 1) := by decide +kernel
theorem dX8_readSpan_18 : decode cX8_readSpan 18 = .ok (.bipush 59, 2) := by decide +kernel
theorem dX8_readSpan_20 : decode cX8_readSpan 20 = .ok (.invokevirtual 91, 3) := by decide +kernel
theorem dX8_readSpan_23 : decode cX8_readSpan 23 = .ok (.istore 4, 2) := by decide +kernel
theorem dX8_readSpan_25 : decode cX8_readSpan 25 = .ok (.iload 4, 2) := by decide +kernel
theorem dX8_readSpan_27 : decode cX8_readSpan 27 = .ok (.ifCond .ge 5, 3) := by decide +kernel
theorem dX8_readSpan_30 : decode cX8_readSpan 30 = .ok (.iconst 0, 1) := by decide +kernel
theorem dX8_readSpan_31 : decode cX8_readSpan 31 = .ok (.ireturn, 1) := by decide +kernel
theorem dX8_readSpan_32 : decode cX8_readSpan 32 = .ok (.aload_n 0, 1) := by decide +kernel
theorem dX8_readSpan_33 : decode cX8_readSpan 33 = .ok (.iload_n 1, 1) := by decide +kernel
theorem dX8_readSpan_34 : decode cX8_readSpan 34 = .ok (.iload_n 3, 1) := by decide +kernel
theorem dX8_readSpan_35 : decode cX8_readSpan 35 = .ok (.iload 4, 2) := by decide +kernel
theorem dX8_readSpan_37 : decode cX8_readSpan 37 = .ok (.iload_n 2, 1) := by decide +kernel
theorem dX8_readSpan_38 : decode cX8_readSpan 38 = .ok (.invokevirtual 95, 3) := by decide +kernel
theorem dX8_readSpan_41 : decode cX8_readSpan 41 = .ok (.iconst 1, 1) := by decide +kernel
theorem dX8_readSpan_42 : decode cX8_readSpan 42 = .ok (.ireturn, 1) := by decide +kernel
set_option maxRecDepth 20000 in
theorem ggX8_readClause_X8_verb : GoodIn wsX8_readClause wsX8_verb := goodIn_r _ [6, 7, 8, 9, 5, 10, 11, 12, 13, 14, 15, 16, 17, 18, 19, 52, 53, 54, 55, 56, 57, 58, 59, 60, 61, 62, 63, 64, 65, 66, 67, 68, 69] (by decide +kernel) (by decide +kernel)
set_option maxRecDepth 20000 in
theorem gX8_readClause_X8_verb : GoodIn wsX8_readClause (wsV RX8 99 RX8 yX8_verb wsX8_verb) := goodIn_app (goodIn_of _ (by decide +kernel)) ggX8_readClause_X8_verb
set_option maxRecDepth 20000 in
theorem ggX8_readClause_X8_readPerson : GoodIn wsX8_readClause wsX8_readPerson := goodIn_r _ [23, 1, 24, 25, 26, 5, 27, 16, 28, 29, 30, 31, 32, 12, 11, 33, 15, 34, 35, 36, 14, 37, 38, 39, 40, 41, 42, 43, 52, 53, 54, 55, 56, 57, 58, 59, 60, 61, 62, 63, 64, 65, 66, 67, 68, 69] (by decide +kernel) (by decide +kernel)
set_option maxRecDepth 20000 in
theorem gX8_readClause_X8_readPerson : GoodIn wsX8_readClause (wsV RX8 103 RX8 yX8_readPerson wsX8_readPerson) := goodIn_app (goodIn_of _ (by decide +kernel)) ggX8_readClause_X8_readPerson
set_option maxRecDepth 20000 in
theorem ggX8_readClause_X8_number : GoodIn wsX8_readClause wsX8_number := goodIn_r _ [27, 16, 28, 29, 30, 31, 5, 32, 12, 11, 33, 15, 34, 35, 36, 14, 37, 38, 39, 40, 41, 42, 43, 52, 53, 54, 55, 56, 57, 58, 59, 60, 61, 62, 63, 64, 65, 66, 67, 68, 69] (by decide +kernel) (by decide +kernel)
set_option maxRecDepth 20000 in
theorem gX8_readClause_X8_number : GoodIn wsX8_readClause (wsV RX8 91 RX8 yX8_number wsX8_number) := goodIn_app (goodIn_of _ (by decide +kernel)) ggX8_readClause_X8_number
set_option maxRecDepth 20000 in
theorem ggX8_readClause_X8_readSpan : GoodIn wsX8_readClause wsX8_readSpan := goodIn_r _ [47, 24, 25, 26, 5, 27, 16, 28, 29, 30, 31, 32, 12, 11, 33, 15, 34, 35, 36, 14, 37, 38, 39, 40, 41, 42, 43, 48, 49, 50, 51, 1, 52, 53, 54, 55, 56, 57, 58, 59, 60, 61, 62, 63, 64, 65, 66, 67, 68, 69] (by decide +kernel) (by decide +kernel)
set_option maxRecDepth 20000 in
theorem gX8_readClause_X8_readSpan : GoodIn wsX8_readClause (wsV RX8 107 RX8 yX8_readSpan wsX8_readSpan) := goodIn_app (goodIn_of _ (by decide +kernel)) ggX8_readClause_X8_readSpan
set_option maxRecDepth 20000 in
theorem ggX8_readClause_X8_fill : GoodIn wsX8_readClause wsX8_fill := goodIn_r _ [51, 1, 52, 53, 54, 55, 56, 57, 58, 59, 60, 61, 62, 63, 64, 65, 66, 67, 68, 69] (by decide +kernel) (by decide +kernel)
set_option maxRecDepth 20000 in
theorem gX8_readClause_X8_fill : GoodIn wsX8_readClause (wsV RX8 95 RX8 yX8_fill wsX8_fill) := goodIn_app (goodIn_of _ (by decide +kernel)) ggX8_readClause_X8_fill
theorem dX8_readClause_0 : decode cX8_readClause 0 = .ok (.aload_n 0, 1) := by decide +kernel
theorem dX8_readClause_1 : decode cX8_readClause 1 = .ok (.invokevirtual 99, 3) := by decide +kernel
theorem dX8_readClause_4 : decode cX8_readClause 4 = .ok (.istore_n 1, 1) := by decide +kernel
theorem dX8_readClause_5 : decode cX8_readClause 5 = .ok (.iload_n 1, 1) := by decide +kernel
theorem dX8_readClause_6 : decode cX8_readClause 6 = .ok (.ifCond .ge 5, 3) := by decide +kernel
theorem dX8_readClause_9 : decode cX8_readClause 9 = .ok (.iconst 0, 1) := by decide +kernel
theorem dX8_readClause_10 : decode cX8_readClause 10 = .ok (.ireturn, 1) := by decide +kernel
theorem dX8_readClause_11 : decode cX8_readClause 11 = .ok (.iload_n 1, 1) := by decide +kernel
theorem dX8_readClause_12 : decode cX8_readClause 12 = .ok (.iconst 4, 1) := by decide +kernel
theorem dX8_readClause_13 : decode cX8_readClause 13 = .ok (.if_icmp .ge 9, 3) := by decide +kernel
theorem dX8_readClause_16 : decode cX8_readClause 16 = .ok (.aload_n 0, 1) := by decide +kernel
theorem dX8_readClause_17 : decode cX8_readClause 17 = .ok (.iload_n 1, 1) := by decide +kernel
theorem dX8_readClause_18 : decode cX8_readClause 18 = .ok (.invokevirtual 103, 3) := by decide +kernel
theorem dX8_readClause_21 : decode cX8_readClause 21 = .ok (.ireturn, 1) := by decide +kernel
theorem dX8_readClause_22 : decode cX8_readClause 22 = .ok (.iload_n 1, 1) := by decide +kernel
theorem dX8_readClause_23 : decode cX8_readClause 23 = .ok (.iconst 5, 1) := by decide +kernel
theorem dX8_readClause_24 : decode cX8_readClause 24 = .ok (.if_icmp .ne 37, 3) := by decide +kernel
theorem dX8_readClause_27 : decode cX8_readClause 27 = .ok (.aload_n 0, 1) := by decide +kernel
theorem dX8_readClause_28 : decode cX8_readClause 28 = .ok (.iconst 0, 1) := by decide +kernel
theorem dX8_readClause_29 : decode cX8_readClause 29 = .ok (.aload_n 0, 1) := by decide +kernel
theorem dX8_readClause_30 : decode cX8_readClause 30 = .ok (.getfield 19, 3) := by decide +kernel
theorem dX8_readClause_33 : decode cX8_readClause 33 = .ok (.iconst 0, 1) := by decide +kernel
theorem dX8_readClause_34 : decode cX8_readClause 34 = .ok (.iaload, 1) := by decide +kernel
theorem dX8_readClause_35 : decode cX8_readClause 35 = .ok (.iconst 1, 1) := by decide +kernel
theorem dX8_readClause_36 : decode cX8_readClause 36 = .ok (.isub, 1) := by decide +kernel
theorem dX8_readClause_37 : decode cX8_readClause 37 = .ok (.invokevirtual 91, 3) := by decide +kernel
theorem dX8_readClause_40 : decode cX8_readClause 40 = .ok (.istore_n 2, 1) := by decide +kernel
theorem dX8_readClause_41 : decode cX8_readClause 41 = .ok (.iload_n 2, 1) := by decide +kernel
theorem dX8_readClause_42 : decode cX8_readClause 42 = .ok (.ifCond .lt 17, 3) := by decide +kernel
theorem dX8_readClause_45 : decode cX8_readClause 45 = .ok (.aload_n 0, 1) := by decide +kernel
theorem dX8_readClause_46 : decode cX8_readClause 46 = .ok (.bipush 25, 2) := by decide +kernel
theorem dX8_readClause_48 : decode cX8_readClause 48 = .ok (.iload_n 2, 1) := by decide +kernel
theorem dX8_readClause_49 : decode cX8_readClause 49 = .ok (.invokevirtual 107, 3) := by decide +kernel
theorem dX8_readClause_52 : decode cX8_readClause 52 = .ok (.ifCond .eq 7, 3) := by decide +kernel
theorem dX8_readClause_55 : decode cX8_readClause 55 = .ok (.iconst 1, 1) := by decide +kernel
theorem dX8_readClause_56 : decode cX8_readClause 56 = .ok (.goto 4, 3) := by decide +kernel
theorem dX8_readClause_59 : decode cX8_readClause 59 = .ok (.iconst 0, 1) := by decide +kernel
theorem dX8_readClause_60 : decode cX8_readClause 60 = .ok (.ireturn, 1) := by decide +kernel
theorem dX8_readClause_61 : decode cX8_readClause 61 = .ok (.iload_n 1, 1) := by decide +kernel
theorem dX8_readClause_62 : decode cX8_readClause 62 = .ok (.bipush 6, 2) := by decide +kernel
theorem dX8_readClause_64 : decode cX8_readClause 64 = .ok (.if_icmp .ne 11, 3) := by decide +kernel
theorem dX8_readClause_67 : decode cX8_readClause 67 = .ok (.aload_n 0, 1) := by decide +kernel
theorem dX8_readClause_68 : decode cX8_readClause 68 = .ok (.bipush 85, 2) := by decide +kernel
theorem dX8_readClause_70 : decode cX8_readClause 70 = .ok (.iconst 1, 1) := by decide +kernel
theorem dX8_readClause_71 : decode cX8_readClause 71 = .ok (.invokevirtual 107, 3) := by decide +kernel
theorem dX8_readClause_74 : decode cX8_readClause 74 = .ok (.ireturn, 1) := by decide +kernel
theorem dX8_readClause_75 : decode cX8_readClause 75 = .ok (.aload_n 0, 1) := by decide +kernel
theorem dX8_readClause_76 : decode cX8_readClause 76 = .ok (.bipush 85, 2) := by decide +kernel
theorem dX8_readClause_78 : decode cX8_readClause 78 = .ok (.iconst 0, 1) := by decide +kernel
theorem dX8_readClause_79 : decode cX8_readClause 79 = .ok (.bipush 59, 2) := by decide +kernel
theorem dX8_readClause_81 : decode cX8_readClause 81 = .ok (.iconst 0, 1) := by decide +kernel
theorem dX8_readClause_82 : decode cX8_readClause 82 = .ok (.invokevirtual 95, 3) := by decide +kernel
theorem dX8_readClause_85 : decode cX8_readClause 85 = .ok (.iload_n 1, 1) := by decide +kernel
theorem dX8_readClause_86 : decode cX8_readClause 86 = .ok (.iconst 4, 1) := by decide +kernel
theorem dX8_readClause_87 : decode cX8_readClause 87 = .ok (.if_icmp .ne 20, 3) := by decide +kernel
theorem dX8_readClause_90 : decode cX8_readClause 90 = .ok (.aload_n 0, 1) := by decide +kernel
theorem dX8_readClause_91 : decode cX8_readClause 91 = .ok (.getfield 19, 3) := by decide +kernel
theorem dX8_readClause_94 : decode cX8_readClause 94 = .ok (.iconst 0, 1) := by decide +kernel
theorem dX8_readClause_95 : decode cX8_readClause 95 = .ok (.iconst 0, 1) := by decide +kernel
theorem dX8_readClause_96 : decode cX8_readClause 96 = .ok (.iastore, 1) := by decide +kernel
theorem dX8_readClause_97 : decode cX8_readClause 97 = .ok (.aload_n 0, 1) := by decide +kernel
theorem dX8_readClause_98 : decode cX8_readClause 98 = .ok (.bipush 25, 2) := by decide +kernel
theorem dX8_readClause_100 : decode cX8_readClause 100 = .ok (.iconst 0, 1) := by decide +kernel
theorem dX8_readClause_101 : decode cX8_readClause 101 = .ok (.bipush 59, 2) := by decide +kernel
theorem dX8_readClause_103 : decode cX8_readClause 103 = .ok (.iconst (-1), 1) := by decide +kernel
theorem dX8_readClause_104 : decode cX8_readClause 104 = .ok (.invokevirtual 95, 3) := by decide +kernel
theorem dX8_readClause_107 : decode cX8_readClause 107 = .ok (.iconst 1, 1) := by decide +kernel
theorem dX8_readClause_108 : decode cX8_readClause 108 = .ok (.ireturn, 1) := by decide +kernel
set_option maxRecDepth 20000 in
theorem ggX8_readText_X8_nextToken : GoodIn wsX8_readText wsX8_nextToken := goodIn_r _ [11, 1, 12, 6, 13, 5, 14, 15, 16, 17, 18, 19, 20, 21, 10, 22, 23, 24, 25, 58, 59, 60, 61, 62, 63, 64, 65, 66, 67, 68, 69, 70, 71, 72, 73, 74, 75] (by decide +kernel) (by decide +kernel)
set_option maxRecDepth 20000 in
theorem gX8_readText_X8_nextToken : GoodIn wsX8_readText (wsV RX8 88 RX8 yX8_nextToken wsX8_nextToken) := goodIn_app (goodIn_of _ (by decide +kernel)) ggX8_readText_X8_nextToken
set_option maxRecDepth 20000 in
theorem ggX8_readText_X8_readClause : GoodIn wsX8_readText wsX8_readClause := goodIn_r _ [29, 3, 30, 31, 32, 10, 33, 34, 35, 36, 37, 12, 1, 38, 18, 14, 5, 39, 40, 41, 42, 43, 44, 45, 46, 47, 48, 49, 6, 7, 8, 9, 11, 13, 15, 16, 17, 19, 20, 21, 22, 23, 24, 25, 50, 51, 52, 53, 54, 55, 56, 57, 58, 59, 60, 61, 62, 63, 64, 65, 66, 67, 68, 69, 70, 71, 72, 73, 74, 75] (by decide +kernel) (by decide +kernel)
set_option maxRecDepth 20000 in
theorem gX8_readText_X8_readClause : GoodIn wsX8_readText (wsV RX8 114 RX8 yX8_readClause wsX8_readClause) := goodIn_app (goodIn_of _ (by decide +kernel)) ggX8_readText_X8_readClause
theorem dX8_readText_0 : decode cX8_readText 0 = .ok (.aload_n 0, 1) := by decide +kernel
theorem dX8_readText_1 : decode cX8_readText 1 = .ok (.iconst 0, 1) := by decide +kernel
theorem dX8_readText_2 : decode cX8_readText 2 = .ok (.putfield 54, 3) := by decide +kernel
theorem dX8_readText_5 : decode cX8_readText 5 = .ok (.aload_n 0, 1) := by decide +kernel
theorem dX8_readText_6 : decode cX8_readText 6 = .ok (.iconst 0, 1) := by decide +kernel
theorem dX8_readText_7 : decode cX8_readText 7 = .ok (.putfield 111, 3) := by decide +kernel
theorem dX8_readText_10 : decode cX8_readText 10 = .ok (.iconst 0, 1) := by decide +kernel
theorem dX8_readText_11 : decode cX8_readText 11 = .ok (.istore_n 1, 1) := by decide +kernel
theorem dX8_readText_12 : decode cX8_readText 12 = .ok (.iload_n 1, 1) := by decide +kernel
theorem dX8_readText_13 : decode cX8_readText 13 = .ok (.sipush 145, 3) := by decide +kernel
theorem dX8_readText_16 : decode cX8_readText 16 = .ok (.if_icmp .ge 21, 3) := by decide +kernel
theorem dX8_readText_19 : decode cX8_readText 19 = .ok (.aload_n 0, 1) := by decide +kernel
theorem dX8_readText_20 : decode cX8_readText 20 = .ok (.getfield 19, 3) := by decide +kernel
theorem dX8_readText_23 : decode cX8_readText 23 = .ok (.iload_n 1, 1) := by decide +kernel
theorem dX8_readText_24 : decode cX8_readText 24 = .ok (.aload_n 0, 1) := by decide +kernel
theorem dX8_readText_25 : decode cX8_readText 25 = .ok (.getfield 7, 3) := by decide +kernel
theorem dX8_readText_28 : decode cX8_readText 28 = .ok (.iload_n 1, 1) := by decide +kernel
theorem dX8_readText_29 : decode cX8_readText 29 = .ok (.iaload, 1) := by decide +kernel
theorem dX8_readText_30 : decode cX8_readText 30 = .ok (.iastore, 1) := by decide +kernel
theorem dX8_readText_31 : decode cX8_readText 31 = .ok (.iinc 1 1, 3) := by decide +kernel
theorem dX8_readText_34 : decode cX8_readText 34 = .ok (.goto (-22), 3) := by decide +kernel
theorem dX8_readText_37 : decode cX8_readText 37 = .ok (.aload_n 0, 1) := by decide +kernel
theorem dX8_readText_38 : decode cX8_readText 38 = .ok (.invokevirtual 88, 3) := by decide +kernel
theorem dX8_readText_41 : decode cX8_readText 41 = .ok (.aload_n 0, 1) := by decide +kernel
theorem dX8_readText_42 : decode cX8_readText 42 = .ok (.invokevirtual 114, 3) := by decide +kernel
theorem dX8_readText_45 : decode cX8_readText 45 = .ok (.ifCond .ne 5, 3) := by decide +kernel
theorem dX8_readText_48 : decode cX8_readText 48 = .ok (.iconst 0, 1) := by decide +kernel
theorem dX8_readText_49 : decode cX8_readText 49 = .ok (.ireturn, 1) := by decide +kernel
theorem dX8_readText_50 : decode cX8_readText 50 = .ok (.aload_n 0, 1) := by decide +kernel
theorem dX8_readText_51 : decode cX8_readText 51 = .ok (.dup, 1) := by decide +kernel
theorem dX8_readText_52 : decode cX8_readText 52 = .ok (.getfield 111, 3) := by decide +kernel
theorem dX8_readText_55 : decode cX8_readText 55 = .ok (.iconst 1, 1) := by decide +kernel
theorem dX8_readText_56 : decode cX8_readText 56 = .ok (.iadd, 1) := by decide +kernel
theorem dX8_readText_57 : decode cX8_readText 57 = .ok (.putfield 111, 3) := by decide +kernel
theorem dX8_readText_60 : decode cX8_readText 60 = .ok (.aload_n 0, 1) := by decide +kernel
theorem dX8_readText_61 : decode cX8_readText 61 = .ok (.invokevirtual 88, 3) := by decide +kernel
theorem dX8_readText_64 : decode cX8_readText 64 = .ok (.aload_n 0, 1) := by decide +kernel
theorem dX8_readText_65 : decode cX8_readText 65 = .ok (.getfield 67, 3) := by decide +kernel
theorem dX8_readText_68 : decode cX8_readText 68 = .ok (.iconst 3, 1) := by decide +kernel
theorem dX8_readText_69 : decode cX8_readText 69 = .ok (.if_icmp .ne 5, 3) := by decide +kernel
theorem dX8_readText_72 : decode cX8_readText 72 = .ok (.iconst 1, 1) := by decide +kernel
theorem dX8_readText_73 : decode cX8_readText 73 = .ok (.ireturn, 1) := by decide +kernel
theorem dX8_readText_74 : decode cX8_readText 74 = .ok (.aload_n 0, 1) := by decide +kernel
theorem dX8_readText_75 : decode cX8_readText 75 = .ok (.getfield 67, 3) := by decide +kernel
theorem dX8_readText_78 : decode cX8_readText 78 = .ok (.ifCond .ne 21, 3) := by decide +kernel
theorem dX8_readText_81 : decode cX8_readText 81 = .ok (.aload_n 0, 1) := by decide +kernel
theorem dX8_readText_82 : decode cX8_readText 82 = .ok (.getfield 64, 3) := by decide +kernel
theorem dX8_readText_85 : decode cX8_readText 85 = .ok (.bipush 59, 2) := by decide +kernel
theorem dX8_readText_87 : decode cX8_readText 87 = .ok (.if_icmp .ne 12, 3) := by decide +kernel
theorem dX8_readText_90 : decode cX8_readText 90 = .ok (.aload_n 0, 1) := by decide +kernel
theorem dX8_readText_91 : decode cX8_readText 91 = .ok (.getfield 111, 3) := by decide +kernel
theorem dX8_readText_94 : decode cX8_readText 94 = .ok (.bipush 14, 2) := by decide +kernel
theorem dX8_readText_96 : decode cX8_readText 96 = .ok (.if_icmp .ne (-59), 3) := by decide +kernel
theorem dX8_readText_99 : decode cX8_readText 99 = .ok (.iconst 0, 1) := by decide +kernel
theorem dX8_readText_100 : decode cX8_readText 100 = .ok (.ireturn, 1) := by decide +kernel
set_option maxRecDepth 20000 in
theorem ggX8_fault_X8_readText : GoodIn wsX8_fault wsX8_readText := goodIn_r _ [6, 7, 8, 9, 10, 11, 12, 13, 14, 15, 5, 16, 1, 17, 18, 19, 20, 21, 22, 23, 24, 25, 26, 27, 28, 29, 30, 31, 32, 33, 34, 35, 36, 37, 38, 39, 40, 41, 42, 43, 44, 45, 46, 47, 48, 49, 50, 51, 52, 53, 54, 55, 56, 57, 58, 59, 60, 61, 62, 63, 64, 65, 66, 67, 68, 69, 70, 71, 72, 73, 74, 75, 76, 77, 78, 79] (by decide +kernel) (by decide +kernel)
set_option maxRecDepth 20000 in
theorem gX8_fault_X8_readText : GoodIn wsX8_fault (wsV RX8 118 RX8 yX8_readText wsX8_readText) := goodIn_app (goodIn_of _ (by decide +kernel)) ggX8_fault_X8_readText
theorem dX8_fault_0 : decode cX8_fault 0 = .ok (.aload_n 0, 1) := by decide +kernel
theorem dX8_fault_1 : decode cX8_fault 1 = .ok (.invokevirtual 118, 3) := by decide +kernel
theorem dX8_fault_4 : decode cX8_fault 4 = .ok (.ifCond .eq 7, 3) := by decide +kernel
theorem dX8_fault_7 : decode cX8_fault 7 = .ok (.iconst (-1), 1) := by decide +kernel
theorem dX8_fault_8 : decode cX8_fault 8 = .ok (.goto 7, 3) := by decide +kernel
theorem dX8_fault_11 : decode cX8_fault 11 = .ok (.aload_n 0, 1) := by decide +kernel
theorem dX8_fault_12 : decode cX8_fault 12 = .ok (.getfield 61, 3) := by decide +kernel
theorem dX8_fault_15 : decode cX8_fault 15 = .ok (.ireturn, 1) := by decide +kernel
theorem dX8_anew_0 : decode cX8_anew 0 = .ok (.iconst 0, 1) := by decide +kernel
theorem dX8_anew_1 : decode cX8_anew 1 = .ok (.istore_n 1, 1) := by decide +kernel
theorem dX8_anew_2 : decode cX8_anew 2 = .ok (.iload_n 1, 1) := by decide +kernel
theorem dX8_anew_3 : decode cX8_anew 3 = .ok (.bipush 60, 2) := by decide +kernel
theorem dX8_anew_5 : decode cX8_anew 5 = .ok (.if_icmp .ge 24, 3) := by decide +kernel
theorem dX8_anew_8 : decode cX8_anew 8 = .ok (.aload_n 0, 1) := by decide +kernel
theorem dX8_anew_9 : decode cX8_anew 9 = .ok (.getfield 13, 3) := by decide +kernel
theorem dX8_anew_12 : decode cX8_anew 12 = .ok (.iload_n 1, 1) := by decide +kernel
theorem dX8_anew_13 : decode cX8_anew 13 = .ok (.aload_n 0, 1) := by decide +kernel
theorem dX8_anew_14 : decode cX8_anew 14 = .ok (.getfield 7, 3) := by decide +kernel
theorem dX8_anew_17 : decode cX8_anew 17 = .ok (.bipush 25, 2) := by decide +kernel
theorem dX8_anew_19 : decode cX8_anew 19 = .ok (.iload_n 1, 1) := by decide +kernel
theorem dX8_anew_20 : decode cX8_anew 20 = .ok (.iadd, 1) := by decide +kernel
theorem dX8_anew_21 : decode cX8_anew 21 = .ok (.iaload, 1) := by decide +kernel
theorem dX8_anew_22 : decode cX8_anew 22 = .ok (.iastore, 1) := by decide +kernel
theorem dX8_anew_23 : decode cX8_anew 23 = .ok (.iinc 1 1, 3) := by decide +kernel
theorem dX8_anew_26 : decode cX8_anew 26 = .ok (.goto (-24), 3) := by decide +kernel
theorem dX8_anew_29 : decode cX8_anew 29 = .ok (.iconst 0, 1) := by decide +kernel
theorem dX8_anew_30 : decode cX8_anew 30 = .ok (.istore_n 1, 1) := by decide +kernel
theorem dX8_anew_31 : decode cX8_anew 31 = .ok (.iload_n 1, 1) := by decide +kernel
theorem dX8_anew_32 : decode cX8_anew 32 = .ok (.bipush 6, 2) := by decide +kernel
theorem dX8_anew_34 : decode cX8_anew 34 = .ok (.if_icmp .ge 29, 3) := by decide +kernel
theorem dX8_anew_37 : decode cX8_anew 37 = .ok (.aload_n 0, 1) := by decide +kernel
theorem dX8_anew_38 : decode cX8_anew 38 = .ok (.getfield 13, 3) := by decide +kernel
theorem dX8_anew_41 : decode cX8_anew 41 = .ok (.bipush 60, 2) := by decide +kernel
theorem dX8_anew_43 : decode cX8_anew 43 = .ok (.iload_n 1, 1) := by decide +kernel
theorem dX8_anew_44 : decode cX8_anew 44 = .ok (.iadd, 1) := by decide +kernel
theorem dX8_anew_45 : decode cX8_anew 45 = .ok (.iconst (-1), 1) := by decide +kernel
theorem dX8_anew_46 : decode cX8_anew 46 = .ok (.iastore, 1) := by decide +kernel
theorem dX8_anew_47 : decode cX8_anew 47 = .ok (.aload_n 0, 1) := by decide +kernel
theorem dX8_anew_48 : decode cX8_anew 48 = .ok (.getfield 13, 3) := by decide +kernel
theorem dX8_anew_51 : decode cX8_anew 51 = .ok (.bipush 66, 2) := by decide +kernel
theorem dX8_anew_53 : decode cX8_anew 53 = .ok (.iload_n 1, 1) := by decide +kernel
theorem dX8_anew_54 : decode cX8_anew 54 = .ok (.iadd, 1) := by decide +kernel
theorem dX8_anew_55 : decode cX8_anew 55 = .ok (.iconst 0, 1) := by decide +kernel
theorem dX8_anew_56 : decode cX8_anew 56 = .ok (.iastore, 1) := by decide +kernel
theorem dX8_anew_57 : decode cX8_anew 57 = .ok (.iinc 1 1, 3) := by decide +kernel
theorem dX8_anew_60 : decode cX8_anew 60 = .ok (.goto (-29), 3) := by decide +kernel
theorem dX8_anew_63 : decode cX8_anew 63 = .ok (.aload_n 0, 1) := by decide +kernel
theorem dX8_anew_64 : decode cX8_anew 64 = .ok (.getfield 13, 3) := by decide +kernel
theorem dX8_anew_67 : decode cX8_anew 67 = .ok (.bipush 72, 2) := by decide +kernel
theorem dX8_anew_69 : decode cX8_anew 69 = .ok (.iconst 0, 1) := by decide +kernel
theorem dX8_anew_70 : decode cX8_anew 70 = .ok (.iastore, 1) := by decide +kernel
theorem dX8_anew_71 : decode cX8_anew 71 = .ok (.return_, 1) := by decide +kernel
set_option maxRecDepth 20000 in
theorem ggX8_top_X8_readText : GoodIn wsX8_top wsX8_readText := goodIn_r _ [12, 13, 7, 3, 2, 14, 15, 16, 17, 18, 11, 19, 20, 1, 21, 22, 23, 24, 25, 26, 27, 28, 29, 30, 31, 32, 33, 34, 35, 36, 37, 38, 39, 40, 41, 42, 43, 44, 45, 46, 47, 48, 49, 50, 51, 52, 53, 54, 55, 56, 57, 58, 59, 60, 61, 62, 63, 64, 70, 71, 72, 73, 74, 75, 76, 77, 78, 79, 80, 81, 82, 83, 84, 85, 86, 87] (by decide +kernel) (by decide +kernel)
set_option maxRecDepth 20000 in
theorem gX8_top_X8_readText : GoodIn wsX8_top (wsV RX8 118 RX8 yX8_readText wsX8_readText) := goodIn_app (goodIn_of _ (by decide +kernel)) ggX8_top_X8_readText
set_option maxRecDepth 20000 in
theorem ggX8_top_X8_anew : GoodIn wsX8_top wsX8_anew := goodIn_r _ [68, 69, 2, 70, 71, 72, 73, 74, 75, 76, 77, 78, 79, 80, 81, 82, 83, 84, 85, 86, 87] (by decide +kernel) (by decide +kernel)
set_option maxRecDepth 20000 in
theorem gX8_top_X8_anew : GoodIn wsX8_top (wsV RX8 41 RX8 yX8_anew wsX8_anew) := goodIn_app (goodIn_of _ (by decide +kernel)) ggX8_top_X8_anew
theorem dX8_top_0 : decode cX8_top 0 = .ok (.aload_n 0, 1) := by decide +kernel
theorem dX8_top_1 : decode cX8_top 1 = .ok (.invokevirtual 118, 3) := by decide +kernel
theorem dX8_top_4 : decode cX8_top 4 = .ok (.ifCond .ne 6, 3) := by decide +kernel
theorem dX8_top_7 : decode cX8_top 7 = .ok (.bipush (-4), 2) := by decide +kernel
theorem dX8_top_9 : decode cX8_top 9 = .ok (.ireturn, 1) := by decide +kernel
theorem dX8_top_10 : decode cX8_top 10 = .ok (.aload_n 0, 1) := by decide +kernel
theorem dX8_top_11 : decode cX8_top 11 = .ok (.iconst 0, 1) := by decide +kernel
theorem dX8_top_12 : decode cX8_top 12 = .ok (.putfield 50, 3) := by decide +kernel
theorem dX8_top_15 : decode cX8_top 15 = .ok (.iconst 0, 1) := by decide +kernel
theorem dX8_top_16 : decode cX8_top 16 = .ok (.istore_n 1, 1) := by decide +kernel
theorem dX8_top_17 : decode cX8_top 17 = .ok (.iload_n 1, 1) := by decide +kernel
theorem dX8_top_18 : decode cX8_top 18 = .ok (.sipush 145, 3) := by decide +kernel
theorem dX8_top_21 : decode cX8_top 21 = .ok (.if_icmp .ge 21, 3) := by decide +kernel
theorem dX8_top_24 : decode cX8_top 24 = .ok (.aload_n 0, 1) := by decide +kernel
theorem dX8_top_25 : decode cX8_top 25 = .ok (.getfield 7, 3) := by decide +kernel
theorem dX8_top_28 : decode cX8_top 28 = .ok (.iload_n 1, 1) := by decide +kernel
theorem dX8_top_29 : decode cX8_top 29 = .ok (.aload_n 0, 1) := by decide +kernel
theorem dX8_top_30 : decode cX8_top 30 = .ok (.getfield 19, 3) := by decide +kernel
theorem dX8_top_33 : decode cX8_top 33 = .ok (.iload_n 1, 1) := by decide +kernel
theorem dX8_top_34 : decode cX8_top 34 = .ok (.iaload, 1) := by decide +kernel
theorem dX8_top_35 : decode cX8_top 35 = .ok (.iastore, 1) := by decide +kernel
theorem dX8_top_36 : decode cX8_top 36 = .ok (.iinc 1 1, 3) := by decide +kernel
theorem dX8_top_39 : decode cX8_top 39 = .ok (.goto (-22), 3) := by decide +kernel
theorem dX8_top_42 : decode cX8_top 42 = .ok (.aload_n 0, 1) := by decide +kernel
theorem dX8_top_43 : decode cX8_top 43 = .ok (.invokevirtual 41, 3) := by decide +kernel
theorem dX8_top_46 : decode cX8_top 46 = .ok (.aload_n 0, 1) := by decide +kernel
theorem dX8_top_47 : decode cX8_top 47 = .ok (.iconst 0, 1) := by decide +kernel
theorem dX8_top_48 : decode cX8_top 48 = .ok (.putfield 121, 3) := by decide +kernel
theorem dX8_top_51 : decode cX8_top 51 = .ok (.aload_n 0, 1) := by decide +kernel
theorem dX8_top_52 : decode cX8_top 52 = .ok (.iconst 0, 1) := by decide +kernel
theorem dX8_top_53 : decode cX8_top 53 = .ok (.putfield 124, 3) := by decide +kernel
theorem dX8_top_56 : decode cX8_top 56 = .ok (.aload_n 0, 1) := by decide +kernel
theorem dX8_top_57 : decode cX8_top 57 = .ok (.getfield 25, 3) := by decide +kernel
theorem dX8_top_60 : decode cX8_top 60 = .ok (.iconst 0, 1) := by decide +kernel
theorem dX8_top_61 : decode cX8_top 61 = .ok (.iconst 0, 1) := by decide +kernel
theorem dX8_top_62 : decode cX8_top 62 = .ok (.bastore, 1) := by decide +kernel
theorem dX8_top_63 : decode cX8_top 63 = .ok (.aload_n 0, 1) := by decide +kernel
theorem dX8_top_64 : decode cX8_top 64 = .ok (.getfield 25, 3) := by decide +kernel
theorem dX8_top_67 : decode cX8_top 67 = .ok (.iconst 1, 1) := by decide +kernel
theorem dX8_top_68 : decode cX8_top 68 = .ok (.iconst 0, 1) := by decide +kernel
theorem dX8_top_69 : decode cX8_top 69 = .ok (.bastore, 1) := by decide +kernel
theorem dX8_top_70 : decode cX8_top 70 = .ok (.aload_n 0, 1) := by decide +kernel
theorem dX8_top_71 : decode cX8_top 71 = .ok (.getfield 111, 3) := by decide +kernel
theorem dX8_top_74 : decode cX8_top 74 = .ok (.ireturn, 1) := by decide +kernel
theorem dX8_walkOf_0 : decode cX8_walkOf 0 = .ok (.aload_n 0, 1) := by decide +kernel
theorem dX8_walkOf_1 : decode cX8_walkOf 1 = .ok (.getfield 7, 3) := by decide +kernel
theorem dX8_walkOf_4 : decode cX8_walkOf 4 = .ok (.bipush 7, 2) := by decide +kernel
theorem dX8_walkOf_6 : decode cX8_walkOf 6 = .ok (.iload_n 1, 1) := by decide +kernel
theorem dX8_walkOf_7 : decode cX8_walkOf 7 = .ok (.iadd, 1) := by decide +kernel
theorem dX8_walkOf_8 : decode cX8_walkOf 8 = .ok (.iaload, 1) := by decide +kernel
theorem dX8_walkOf_9 : decode cX8_walkOf 9 = .ok (.istore_n 2, 1) := by decide +kernel
theorem dX8_walkOf_10 : decode cX8_walkOf 10 = .ok (.aload_n 0, 1) := by decide +kernel
theorem dX8_walkOf_11 : decode cX8_walkOf 11 = .ok (.getfield 7, 3) := by decide +kernel
theorem dX8_walkOf_14 : decode cX8_walkOf 14 = .ok (.iconst 1, 1) := by decide +kernel
theorem dX8_walkOf_15 : decode cX8_walkOf 15 = .ok (.iload_n 1, 1) := by decide +kernel
theorem dX8_walkOf_16 : decode cX8_walkOf 16 = .ok (.iadd, 1) := by decide +kernel
theorem dX8_walkOf_17 : decode cX8_walkOf 17 = .ok (.iaload, 1) := by decide +kernel
theorem dX8_walkOf_18 : decode cX8_walkOf 18 = .ok (.iconst 1, 1) := by decide +kernel
theorem dX8_walkOf_19 : decode cX8_walkOf 19 = .ok (.if_icmp .ne 14, 3) := by decide +kernel
theorem dX8_walkOf_22 : decode cX8_walkOf 22 = .ok (.iload_n 2, 1) := by decide +kernel
theorem dX8_walkOf_23 : decode cX8_walkOf 23 = .ok (.iconst 1, 1) := by decide +kernel
theorem dX8_walkOf_24 : decode cX8_walkOf 24 = .ok (.if_icmp .le 9, 3) := by decide +kernel
theorem dX8_walkOf_27 : decode cX8_walkOf 27 = .ok (.iload_n 2, 1) := by decide +kernel
theorem dX8_walkOf_28 : decode cX8_walkOf 28 = .ok (.iconst 1, 1) := by decide +kernel
theorem dX8_walkOf_29 : decode cX8_walkOf 29 = .ok (.isub, 1) := by decide +kernel
theorem dX8_walkOf_30 : decode cX8_walkOf 30 = .ok (.goto 4, 3) := by decide +kernel
theorem dX8_walkOf_33 : decode cX8_walkOf 33 = .ok (.iload_n 2, 1) := by decide +kernel
theorem dX8_walkOf_34 : decode cX8_walkOf 34 = .ok (.ireturn, 1) := by decide +kernel
theorem dX8_costOf_0 : decode cX8_costOf 0 = .ok (.aload_n 0, 1) := by decide +kernel
theorem dX8_costOf_1 : decode cX8_costOf 1 = .ok (.getfield 7, 3) := by decide +kernel
theorem dX8_costOf_4 : decode cX8_costOf 4 = .ok (.iconst 1, 1) := by decide +kernel
theorem dX8_costOf_5 : decode cX8_costOf 5 = .ok (.iload_n 1, 1) := by decide +kernel
theorem dX8_costOf_6 : decode cX8_costOf 6 = .ok (.iadd, 1) := by decide +kernel
theorem dX8_costOf_7 : decode cX8_costOf 7 = .ok (.iaload, 1) := by decide +kernel
theorem dX8_costOf_8 : decode cX8_costOf 8 = .ok (.iconst 3, 1) := by decide +kernel
theorem dX8_costOf_9 : decode cX8_costOf 9 = .ok (.if_icmp .ne 17, 3) := by decide +kernel
theorem dX8_costOf_12 : decode cX8_costOf 12 = .ok (.iconst 2, 1) := by decide +kernel
theorem dX8_costOf_13 : decode cX8_costOf 13 = .ok (.aload_n 0, 1) := by decide +kernel
theorem dX8_costOf_14 : decode cX8_costOf 14 = .ok (.getfield 7, 3) := by decide +kernel
theorem dX8_costOf_17 : decode cX8_costOf 17 = .ok (.bipush 19, 2) := by decide +kernel
theorem dX8_costOf_19 : decode cX8_costOf 19 = .ok (.iload_n 1, 1) := by decide +kernel
theorem dX8_costOf_20 : decode cX8_costOf 20 = .ok (.iadd, 1) := by decide +kernel
theorem dX8_costOf_21 : decode cX8_costOf 21 = .ok (.iaload, 1) := by decide +kernel
theorem dX8_costOf_22 : decode cX8_costOf 22 = .ok (.imul, 1) := by decide +kernel
theorem dX8_costOf_23 : decode cX8_costOf 23 = .ok (.goto 12, 3) := by decide +kernel
theorem dX8_costOf_26 : decode cX8_costOf 26 = .ok (.aload_n 0, 1) := by decide +kernel
theorem dX8_costOf_27 : decode cX8_costOf 27 = .ok (.getfield 7, 3) := by decide +kernel
theorem dX8_costOf_30 : decode cX8_costOf 30 = .ok (.bipush 19, 2) := by decide +kernel
theorem dX8_costOf_32 : decode cX8_costOf 32 = .ok (.iload_n 1, 1) := by decide +kernel
theorem dX8_costOf_33 : decode cX8_costOf 33 = .ok (.iadd, 1) := by decide +kernel
theorem dX8_costOf_34 : decode cX8_costOf 34 = .ok (.iaload, 1) := by decide +kernel
theorem dX8_costOf_35 : decode cX8_costOf 35 = .ok (.ireturn, 1) := by decide +kernel
set_option maxRecDepth 20000 in
theorem ggX8_thereBy_X8_walkOf : GoodIn wsX8_thereBy wsX8_walkOf := goodIn_r _ [6, 7, 8, 9, 10, 11, 12, 13, 14, 15, 16, 17, 18, 19, 20, 21, 22, 23, 24, 25] (by decide +kernel) (by decide +kernel)
set_option maxRecDepth 20000 in
theorem gX8_thereBy_X8_walkOf : GoodIn wsX8_thereBy (wsV RX8 127 RX8 yX8_walkOf wsX8_walkOf) := goodIn_app (goodIn_of _ (by decide +kernel)) ggX8_thereBy_X8_walkOf
theorem dX8_thereBy_0 : decode cX8_thereBy 0 = .ok (.iload_n 2, 1) := by decide +kernel
theorem dX8_thereBy_1 : decode cX8_thereBy 1 = .ok (.aload_n 0, 1) := by decide +kernel
theorem dX8_thereBy_2 : decode cX8_thereBy 2 = .ok (.iload_n 1, 1) := by decide +kernel
theorem dX8_thereBy_3 : decode cX8_thereBy 3 = .ok (.invokevirtual 127, 3) := by decide +kernel
theorem dX8_thereBy_6 : decode cX8_thereBy 6 = .ok (.iadd, 1) := by decide +kernel
theorem dX8_thereBy_7 : decode cX8_thereBy 7 = .ok (.aload_n 0, 1) := by decide +kernel
theorem dX8_thereBy_8 : decode cX8_thereBy 8 = .ok (.getfield 13, 3) := by decide +kernel
theorem dX8_thereBy_11 : decode cX8_thereBy 11 = .ok (.bipush 72, 2) := by decide +kernel
theorem dX8_thereBy_13 : decode cX8_thereBy 13 = .ok (.iaload, 1) := by decide +kernel
theorem dX8_thereBy_14 : decode cX8_thereBy 14 = .ok (.iadd, 1) := by decide +kernel
theorem dX8_thereBy_15 : decode cX8_thereBy 15 = .ok (.ireturn, 1) := by decide +kernel
set_option maxRecDepth 20000 in
theorem ggX8_standsIn_X8_thereBy : GoodIn wsX8_standsIn wsX8_thereBy := goodIn_r _ [7, 1, 8, 9, 10, 6, 11, 2, 15, 16, 17, 18, 19, 20, 21, 22, 23, 24, 25, 26, 27, 28, 29, 30, 31, 32] (by decide +kernel) (by decide +kernel)
set_option maxRecDepth 20000 in
theorem gX8_standsIn_X8_thereBy : GoodIn wsX8_standsIn (wsV RX8 130 RX8 yX8_thereBy wsX8_thereBy) := goodIn_app (goodIn_of _ (by decide +kernel)) ggX8_standsIn_X8_thereBy
set_option maxRecDepth 20000 in
theorem ggX8_standsIn_X8_in : GoodIn wsX8_standsIn wsX8_in := goodIn_r _ [14] (by decide +kernel) (by decide +kernel)
set_option maxRecDepth 20000 in
theorem gX8_standsIn_X8_in : GoodIn wsX8_standsIn (va_wsS RX8 44 yX8_in wsX8_in) := goodIn_app (goodIn_of _ (by decide +kernel)) ggX8_standsIn_X8_in
theorem dX8_standsIn_0 : decode cX8_standsIn 0 = .ok (.aload_n 0, 1) := by decide +kernel
theorem dX8_standsIn_1 : decode cX8_standsIn 1 = .ok (.getfield 13, 3) := by decide +kernel
theorem dX8_standsIn_4 : decode cX8_standsIn 4 = .ok (.bipush 60, 2) := by decide +kernel
theorem dX8_standsIn_6 : decode cX8_standsIn 6 = .ok (.iload_n 1, 1) := by decide +kernel
theorem dX8_standsIn_7 : decode cX8_standsIn 7 = .ok (.iadd, 1) := by decide +kernel
theorem dX8_standsIn_8 : decode cX8_standsIn 8 = .ok (.iaload, 1) := by decide +kernel
theorem dX8_standsIn_9 : decode cX8_standsIn 9 = .ok (.ifCond .ge 5, 3) := by decide +kernel
theorem dX8_standsIn_12 : decode cX8_standsIn 12 = .ok (.iconst 0, 1) := by decide +kernel
theorem dX8_standsIn_13 : decode cX8_standsIn 13 = .ok (.ireturn, 1) := by decide +kernel
theorem dX8_standsIn_14 : decode cX8_standsIn 14 = .ok (.aload_n 0, 1) := by decide +kernel
theorem dX8_standsIn_15 : decode cX8_standsIn 15 = .ok (.iload_n 1, 1) := by decide +kernel
theorem dX8_standsIn_16 : decode cX8_standsIn 16 = .ok (.aload_n 0, 1) := by decide +kernel
theorem dX8_standsIn_17 : decode cX8_standsIn 17 = .ok (.getfield 13, 3) := by decide +kernel
theorem dX8_standsIn_20 : decode cX8_standsIn 20 = .ok (.bipush 60, 2) := by decide +kernel
theorem dX8_standsIn_22 : decode cX8_standsIn 22 = .ok (.iload_n 1, 1) := by decide +kernel
theorem dX8_standsIn_23 : decode cX8_standsIn 23 = .ok (.iadd, 1) := by decide +kernel
theorem dX8_standsIn_24 : decode cX8_standsIn 24 = .ok (.iaload, 1) := by decide +kernel
theorem dX8_standsIn_25 : decode cX8_standsIn 25 = .ok (.invokevirtual 130, 3) := by decide +kernel
theorem dX8_standsIn_28 : decode cX8_standsIn 28 = .ok (.istore_n 3, 1) := by decide +kernel
theorem dX8_standsIn_29 : decode cX8_standsIn 29 = .ok (.iload_n 2, 1) := by decide +kernel
theorem dX8_standsIn_30 : decode cX8_standsIn 30 = .ok (.i2l, 1) := by decide +kernel
theorem dX8_standsIn_31 : decode cX8_standsIn 31 = .ok (.iload_n 3, 1) := by decide +kernel
theorem dX8_standsIn_32 : decode cX8_standsIn 32 = .ok (.i2l, 1) := by decide +kernel
theorem dX8_standsIn_33 : decode cX8_standsIn 33 = .ok (.iload_n 3, 1) := by decide +kernel
theorem dX8_standsIn_34 : decode cX8_standsIn 34 = .ok (.aload_n 0, 1) := by decide +kernel
theorem dX8_standsIn_35 : decode cX8_standsIn 35 = .ok (.getfield 7, 3) := by decide +kernel
theorem dX8_standsIn_38 : decode cX8_standsIn 38 = .ok (.bipush 13, 2) := by decide +kernel
theorem dX8_standsIn_40 : decode cX8_standsIn 40 = .ok (.iload_n 1, 1) := by decide +kernel
theorem dX8_standsIn_41 : decode cX8_standsIn 41 = .ok (.iadd, 1) := by decide +kernel
theorem dX8_standsIn_42 : decode cX8_standsIn 42 = .ok (.iaload, 1) := by decide +kernel
theorem dX8_standsIn_43 : decode cX8_standsIn 43 = .ok (.iadd, 1) := by decide +kernel
theorem dX8_standsIn_44 : decode cX8_standsIn 44 = .ok (.iconst 1, 1) := by decide +kernel
theorem dX8_standsIn_45 : decode cX8_standsIn 45 = .ok (.isub, 1) := by decide +kernel
theorem dX8_standsIn_46 : decode cX8_standsIn 46 = .ok (.i2l, 1) := by decide +kernel
theorem dX8_standsIn_47 : decode cX8_standsIn 47 = .ok (.invokestatic 44, 3) := by decide +kernel
theorem dX8_standsIn_50 : decode cX8_standsIn 50 = .ok (.ireturn, 1) := by decide +kernel
set_option maxRecDepth 20000 in
theorem ggX8_costs_X8_costOf : GoodIn wsX8_costs wsX8_costOf := goodIn_r _ [7, 2, 8, 9, 10, 11, 12, 13, 14, 15, 16, 17, 18, 19, 20, 21, 22, 23, 24, 25] (by decide +kernel) (by decide +kernel)
set_option maxRecDepth 20000 in
theorem gX8_costs_X8_costOf : GoodIn wsX8_costs (wsV RX8 133 RX8 yX8_costOf wsX8_costOf) := goodIn_app (goodIn_of _ (by decide +kernel)) ggX8_costs_X8_costOf
theorem dX8_costs_0 : decode cX8_costs 0 = .ok (.aload_n 0, 1) := by decide +kernel
theorem dX8_costs_1 : decode cX8_costs 1 = .ok (.getfield 13, 3) := by decide +kernel
theorem dX8_costs_4 : decode cX8_costs 4 = .ok (.iload_n 2, 1) := by decide +kernel
theorem dX8_costs_5 : decode cX8_costs 5 = .ok (.iaload, 1) := by decide +kernel
theorem dX8_costs_6 : decode cX8_costs 6 = .ok (.istore_n 3, 1) := by decide +kernel
theorem dX8_costs_7 : decode cX8_costs 7 = .ok (.aload_n 0, 1) := by decide +kernel
theorem dX8_costs_8 : decode cX8_costs 8 = .ok (.getfield 7, 3) := by decide +kernel
theorem dX8_costs_11 : decode cX8_costs 11 = .ok (.bipush 85, 2) := by decide +kernel
theorem dX8_costs_13 : decode cX8_costs 13 = .ok (.iload_n 2, 1) := by decide +kernel
theorem dX8_costs_14 : decode cX8_costs 14 = .ok (.iadd, 1) := by decide +kernel
theorem dX8_costs_15 : decode cX8_costs 15 = .ok (.iaload, 1) := by decide +kernel
theorem dX8_costs_16 : decode cX8_costs 16 = .ok (.iconst 1, 1) := by decide +kernel
theorem dX8_costs_17 : decode cX8_costs 17 = .ok (.if_icmp .eq 30, 3) := by decide +kernel
theorem dX8_costs_20 : decode cX8_costs 20 = .ok (.iload_n 3, 1) := by decide +kernel
theorem dX8_costs_21 : decode cX8_costs 21 = .ok (.ifCond .lt 26, 3) := by decide +kernel
theorem dX8_costs_24 : decode cX8_costs 24 = .ok (.iload_n 3, 1) := by decide +kernel
theorem dX8_costs_25 : decode cX8_costs 25 = .ok (.iload_n 1, 1) := by decide +kernel
theorem dX8_costs_26 : decode cX8_costs 26 = .ok (.if_icmp .eq 21, 3) := by decide +kernel
theorem dX8_costs_29 : decode cX8_costs 29 = .ok (.aload_n 0, 1) := by decide +kernel
theorem dX8_costs_30 : decode cX8_costs 30 = .ok (.getfield 7, 3) := by decide +kernel
theorem dX8_costs_33 : decode cX8_costs 33 = .ok (.iconst 1, 1) := by decide +kernel
theorem dX8_costs_34 : decode cX8_costs 34 = .ok (.iload_n 1, 1) := by decide +kernel
theorem dX8_costs_35 : decode cX8_costs 35 = .ok (.iadd, 1) := by decide +kernel
theorem dX8_costs_36 : decode cX8_costs 36 = .ok (.iaload, 1) := by decide +kernel
theorem dX8_costs_37 : decode cX8_costs 37 = .ok (.iconst 2, 1) := by decide +kernel
theorem dX8_costs_38 : decode cX8_costs 38 = .ok (.if_icmp .ne 13, 3) := by decide +kernel
theorem dX8_costs_41 : decode cX8_costs 41 = .ok (.iload_n 2, 1) := by decide +kernel
theorem dX8_costs_42 : decode cX8_costs 42 = .ok (.bipush 50, 2) := by decide +kernel
theorem dX8_costs_44 : decode cX8_costs 44 = .ok (.if_icmp .lt 7, 3) := by decide +kernel
theorem dX8_costs_47 : decode cX8_costs 47 = .ok (.iconst 1, 1) := by decide +kernel
theorem dX8_costs_48 : decode cX8_costs 48 = .ok (.goto 4, 3) := by decide +kernel
theorem dX8_costs_51 : decode cX8_costs 51 = .ok (.iconst 0, 1) := by decide +kernel
theorem dX8_costs_52 : decode cX8_costs 52 = .ok (.istore 4, 2) := by decide +kernel
theorem dX8_costs_54 : decode cX8_costs 54 = .ok (.iload 4, 2) := by decide +kernel
theorem dX8_costs_56 : decode cX8_costs 56 = .ok (.ifCond .eq 7, 3) := by decide +kernel
theorem dX8_costs_59 : decode cX8_costs 59 = .ok (.iconst 0, 1) := by decide +kernel
theorem dX8_costs_60 : decode cX8_costs 60 = .ok (.goto 8, 3) := by decide +kernel
theorem dX8_costs_63 : decode cX8_costs 63 = .ok (.aload_n 0, 1) := by decide +kernel
theorem dX8_costs_64 : decode cX8_costs 64 = .ok (.iload_n 3, 1) := by decide +kernel
theorem dX8_costs_65 : decode cX8_costs 65 = .ok (.invokevirtual 133, 3) := by decide +kernel
theorem dX8_costs_68 : decode cX8_costs 68 = .ok (.ireturn, 1) := by decide +kernel
set_option maxRecDepth 20000 in
theorem ggX8_fullFine_X8_standsIn : GoodIn wsX8_fullFine wsX8_standsIn := goodIn_r _ [5, 6, 7, 8, 9, 10, 4, 11, 12, 13, 14, 15, 16, 17, 18, 27, 28, 29, 30, 31, 32, 33, 34, 35, 36, 37, 38, 39, 40, 41, 42, 43, 44] (by decide +kernel) (by decide +kernel)
set_option maxRecDepth 20000 in
theorem gX8_fullFine_X8_standsIn : GoodIn wsX8_fullFine (wsV RX8 136 RX8 yX8_standsIn wsX8_standsIn) := goodIn_app (goodIn_of _ (by decide +kernel)) ggX8_fullFine_X8_standsIn
set_option maxRecDepth 20000 in
theorem ggX8_fullFine_X8_costs : GoodIn wsX8_fullFine wsX8_costs := goodIn_r _ [22, 6, 7, 23, 24, 25, 4, 26, 27, 28, 29, 30, 31, 32, 33, 34, 35, 36, 37, 38, 39, 40, 41, 42, 43, 44] (by decide +kernel) (by decide +kernel)
set_option maxRecDepth 20000 in
theorem gX8_fullFine_X8_costs : GoodIn wsX8_fullFine (wsV RX8 139 RX8 yX8_costs wsX8_costs) := goodIn_app (goodIn_of _ (by decide +kernel)) ggX8_fullFine_X8_costs
theorem dX8_fullFine_0 : decode cX8_fullFine 0 = .ok (.iconst 0, 1) := by decide +kernel
theorem dX8_fullFine_1 : decode cX8_fullFine 1 = .ok (.istore_n 2, 1) := by decide +kernel
theorem dX8_fullFine_2 : decode cX8_fullFine 2 = .ok (.iconst 0, 1) := by decide +kernel
theorem dX8_fullFine_3 : decode cX8_fullFine 3 = .ok (.istore_n 3, 1) := by decide +kernel
theorem dX8_fullFine_4 : decode cX8_fullFine 4 = .ok (.iload_n 3, 1) := by decide +kernel
theorem dX8_fullFine_5 : decode cX8_fullFine 5 = .ok (.bipush 60, 2) := by decide +kernel
theorem dX8_fullFine_7 : decode cX8_fullFine 7 = .ok (.if_icmp .ge 77, 3) := by decide +kernel
theorem dX8_fullFine_10 : decode cX8_fullFine 10 = .ok (.aload_n 0, 1) := by decide +kernel
theorem dX8_fullFine_11 : decode cX8_fullFine 11 = .ok (.iload_n 1, 1) := by decide +kernel
theorem dX8_fullFine_12 : decode cX8_fullFine 12 = .ok (.iload_n 3, 1) := by decide +kernel
theorem dX8_fullFine_13 : decode cX8_fullFine 13 = .ok (.invokevirtual 136, 3) := by decide +kernel
theorem dX8_fullFine_16 : decode cX8_fullFine 16 = .ok (.ifCond .eq 62, 3) := by decide +kernel
theorem dX8_fullFine_19 : decode cX8_fullFine 19 = .ok (.iconst 0, 1) := by decide +kernel
theorem dX8_fullFine_20 : decode cX8_fullFine 20 = .ok (.istore 4, 2) := by decide +kernel
theorem dX8_fullFine_22 : decode cX8_fullFine 22 = .ok (.iconst 0, 1) := by decide +kernel
theorem dX8_fullFine_23 : decode cX8_fullFine 23 = .ok (.istore 5, 2) := by decide +kernel
theorem dX8_fullFine_25 : decode cX8_fullFine 25 = .ok (.iload 5, 2) := by decide +kernel
theorem dX8_fullFine_27 : decode cX8_fullFine 27 = .ok (.iload_n 1, 1) := by decide +kernel
theorem dX8_fullFine_28 : decode cX8_fullFine 28 = .ok (.if_icmp .ge 29, 3) := by decide +kernel
theorem dX8_fullFine_31 : decode cX8_fullFine 31 = .ok (.iload 4, 2) := by decide +kernel
theorem dX8_fullFine_33 : decode cX8_fullFine 33 = .ok (.aload_n 0, 1) := by decide +kernel
theorem dX8_fullFine_34 : decode cX8_fullFine 34 = .ok (.iload 5, 2) := by decide +kernel
theorem dX8_fullFine_36 : decode cX8_fullFine 36 = .ok (.iload_n 3, 1) := by decide +kernel
theorem dX8_fullFine_37 : decode cX8_fullFine 37 = .ok (.invokevirtual 136, 3) := by decide +kernel
theorem dX8_fullFine_40 : decode cX8_fullFine 40 = .ok (.ifCond .eq 7, 3) := by decide +kernel
theorem dX8_fullFine_43 : decode cX8_fullFine 43 = .ok (.iconst 1, 1) := by decide +kernel
theorem dX8_fullFine_44 : decode cX8_fullFine 44 = .ok (.goto 4, 3) := by decide +kernel
theorem dX8_fullFine_47 : decode cX8_fullFine 47 = .ok (.iconst 0, 1) := by decide +kernel
theorem dX8_fullFine_48 : decode cX8_fullFine 48 = .ok (.iadd, 1) := by decide +kernel
theorem dX8_fullFine_49 : decode cX8_fullFine 49 = .ok (.istore 4, 2) := by decide +kernel
theorem dX8_fullFine_51 : decode cX8_fullFine 51 = .ok (.iinc 5 1, 3) := by decide +kernel
theorem dX8_fullFine_54 : decode cX8_fullFine 54 = .ok (.goto (-29), 3) := by decide +kernel
theorem dX8_fullFine_57 : decode cX8_fullFine 57 = .ok (.iload_n 2, 1) := by decide +kernel
theorem dX8_fullFine_58 : decode cX8_fullFine 58 = .ok (.aload_n 0, 1) := by decide +kernel
theorem dX8_fullFine_59 : decode cX8_fullFine 59 = .ok (.iload_n 1, 1) := by decide +kernel
theorem dX8_fullFine_60 : decode cX8_fullFine 60 = .ok (.iload_n 3, 1) := by decide +kernel
theorem dX8_fullFine_61 : decode cX8_fullFine 61 = .ok (.invokevirtual 139, 3) := by decide +kernel
theorem dX8_fullFine_64 : decode cX8_fullFine 64 = .ok (.iload 4, 2) := by decide +kernel
theorem dX8_fullFine_66 : decode cX8_fullFine 66 = .ok (.iconst 1, 1) := by decide +kernel
theorem dX8_fullFine_67 : decode cX8_fullFine 67 = .ok (.if_icmp .le 7, 3) := by decide +kernel
theorem dX8_fullFine_70 : decode cX8_fullFine 70 = .ok (.iconst 1, 1) := by decide +kernel
theorem dX8_fullFine_71 : decode cX8_fullFine 71 = .ok (.goto 4, 3) := by decide +kernel
theorem dX8_fullFine_74 : decode cX8_fullFine 74 = .ok (.iconst 0, 1) := by decide +kernel
theorem dX8_fullFine_75 : decode cX8_fullFine 75 = .ok (.iadd, 1) := by decide +kernel
theorem dX8_fullFine_76 : decode cX8_fullFine 76 = .ok (.iadd, 1) := by decide +kernel
theorem dX8_fullFine_77 : decode cX8_fullFine 77 = .ok (.istore_n 2, 1) := by decide +kernel
theorem dX8_fullFine_78 : decode cX8_fullFine 78 = .ok (.iinc 3 1, 3) := by decide +kernel
theorem dX8_fullFine_81 : decode cX8_fullFine 81 = .ok (.goto (-77), 3) := by decide +kernel
theorem dX8_fullFine_84 : decode cX8_fullFine 84 = .ok (.iload_n 2, 1) := by decide +kernel
theorem dX8_fullFine_85 : decode cX8_fullFine 85 = .ok (.ireturn, 1) := by decide +kernel
set_option maxRecDepth 20000 in
theorem ggX8_fineOf_X8_fullFine : GoodIn wsX8_fineOf wsX8_fullFine := goodIn_r _ [6, 7, 8, 9, 5, 10, 1, 11, 12, 13, 14, 15, 16, 17, 18, 19, 20, 21, 22, 23, 24, 25, 26, 27, 28, 29, 30, 31, 32, 33, 34, 35, 36, 37, 38, 39, 40, 41, 42, 43, 44, 45, 46, 47, 48] (by decide +kernel) (by decide +kernel)
set_option maxRecDepth 20000 in
theorem gX8_fineOf_X8_fullFine : GoodIn wsX8_fineOf (wsV RX8 142 RX8 yX8_fullFine wsX8_fullFine) := goodIn_app (goodIn_of _ (by decide +kernel)) ggX8_fineOf_X8_fullFine
theorem dX8_fineOf_0 : decode cX8_fineOf 0 = .ok (.aload_n 0, 1) := by decide +kernel
theorem dX8_fineOf_1 : decode cX8_fineOf 1 = .ok (.getfield 13, 3) := by decide +kernel
theorem dX8_fineOf_4 : decode cX8_fineOf 4 = .ok (.bipush 66, 2) := by decide +kernel
theorem dX8_fineOf_6 : decode cX8_fineOf 6 = .ok (.iload_n 1, 1) := by decide +kernel
theorem dX8_fineOf_7 : decode cX8_fineOf 7 = .ok (.iadd, 1) := by decide +kernel
theorem dX8_fineOf_8 : decode cX8_fineOf 8 = .ok (.iaload, 1) := by decide +kernel
theorem dX8_fineOf_9 : decode cX8_fineOf 9 = .ok (.iconst 1, 1) := by decide +kernel
theorem dX8_fineOf_10 : decode cX8_fineOf 10 = .ok (.if_icmp .ne 13, 3) := by decide +kernel
theorem dX8_fineOf_13 : decode cX8_fineOf 13 = .ok (.aload_n 0, 1) := by decide +kernel
theorem dX8_fineOf_14 : decode cX8_fineOf 14 = .ok (.iload_n 1, 1) := by decide +kernel
theorem dX8_fineOf_15 : decode cX8_fineOf 15 = .ok (.invokevirtual 142, 3) := by decide +kernel
theorem dX8_fineOf_18 : decode cX8_fineOf 18 = .ok (.iconst 2, 1) := by decide +kernel
theorem dX8_fineOf_19 : decode cX8_fineOf 19 = .ok (.idiv, 1) := by decide +kernel
theorem dX8_fineOf_20 : decode cX8_fineOf 20 = .ok (.goto 8, 3) := by decide +kernel
theorem dX8_fineOf_23 : decode cX8_fineOf 23 = .ok (.aload_n 0, 1) := by decide +kernel
theorem dX8_fineOf_24 : decode cX8_fineOf 24 = .ok (.iload_n 1, 1) := by decide +kernel
theorem dX8_fineOf_25 : decode cX8_fineOf 25 = .ok (.invokevirtual 142, 3) := by decide +kernel
theorem dX8_fineOf_28 : decode cX8_fineOf 28 = .ok (.ireturn, 1) := by decide +kernel
set_option maxRecDepth 20000 in
theorem ggX8_standMany_X8_standsIn : GoodIn wsX8_standMany wsX8_standsIn := goodIn_r _ [5, 6, 7, 8, 9, 10, 4, 11, 12, 13, 14, 15, 16, 17, 18, 19, 20, 21, 22, 23, 24, 25, 26, 27, 28, 29, 30, 31, 32, 33, 34, 35, 36] (by decide +kernel) (by decide +kernel)
set_option maxRecDepth 20000 in
theorem gX8_standMany_X8_standsIn : GoodIn wsX8_standMany (wsV RX8 136 RX8 yX8_standsIn wsX8_standsIn) := goodIn_app (goodIn_of _ (by decide +kernel)) ggX8_standMany_X8_standsIn
theorem dX8_standMany_0 : decode cX8_standMany 0 = .ok (.iconst 0, 1) := by decide +kernel
theorem dX8_standMany_1 : decode cX8_standMany 1 = .ok (.istore_n 2, 1) := by decide +kernel
theorem dX8_standMany_2 : decode cX8_standMany 2 = .ok (.iconst 0, 1) := by decide +kernel
theorem dX8_standMany_3 : decode cX8_standMany 3 = .ok (.istore_n 3, 1) := by decide +kernel
theorem dX8_standMany_4 : decode cX8_standMany 4 = .ok (.iload_n 3, 1) := by decide +kernel
theorem dX8_standMany_5 : decode cX8_standMany 5 = .ok (.bipush 60, 2) := by decide +kernel
theorem dX8_standMany_7 : decode cX8_standMany 7 = .ok (.if_icmp .ge 26, 3) := by decide +kernel
theorem dX8_standMany_10 : decode cX8_standMany 10 = .ok (.iload_n 2, 1) := by decide +kernel
theorem dX8_standMany_11 : decode cX8_standMany 11 = .ok (.aload_n 0, 1) := by decide +kernel
theorem dX8_standMany_12 : decode cX8_standMany 12 = .ok (.iload_n 1, 1) := by decide +kernel
theorem dX8_standMany_13 : decode cX8_standMany 13 = .ok (.iload_n 3, 1) := by decide +kernel
theorem dX8_standMany_14 : decode cX8_standMany 14 = .ok (.invokevirtual 136, 3) := by decide +kernel
theorem dX8_standMany_17 : decode cX8_standMany 17 = .ok (.ifCond .eq 7, 3) := by decide +kernel
theorem dX8_standMany_20 : decode cX8_standMany 20 = .ok (.iconst 1, 1) := by decide +kernel
theorem dX8_standMany_21 : decode cX8_standMany 21 = .ok (.goto 4, 3) := by decide +kernel
theorem dX8_standMany_24 : decode cX8_standMany 24 = .ok (.iconst 0, 1) := by decide +kernel
theorem dX8_standMany_25 : decode cX8_standMany 25 = .ok (.iadd, 1) := by decide +kernel
theorem dX8_standMany_26 : decode cX8_standMany 26 = .ok (.istore_n 2, 1) := by decide +kernel
theorem dX8_standMany_27 : decode cX8_standMany 27 = .ok (.iinc 3 1, 3) := by decide +kernel
theorem dX8_standMany_30 : decode cX8_standMany 30 = .ok (.goto (-26), 3) := by decide +kernel
theorem dX8_standMany_33 : decode cX8_standMany 33 = .ok (.iload_n 2, 1) := by decide +kernel
theorem dX8_standMany_34 : decode cX8_standMany 34 = .ok (.ireturn, 1) := by decide +kernel
theorem dX8_ownMany_0 : decode cX8_ownMany 0 = .ok (.iconst 0, 1) := by decide +kernel
theorem dX8_ownMany_1 : decode cX8_ownMany 1 = .ok (.istore_n 2, 1) := by decide +kernel
theorem dX8_ownMany_2 : decode cX8_ownMany 2 = .ok (.iconst 0, 1) := by decide +kernel
theorem dX8_ownMany_3 : decode cX8_ownMany 3 = .ok (.istore_n 3, 1) := by decide +kernel
theorem dX8_ownMany_4 : decode cX8_ownMany 4 = .ok (.iload_n 3, 1) := by decide +kernel
theorem dX8_ownMany_5 : decode cX8_ownMany 5 = .ok (.bipush 60, 2) := by decide +kernel
