theorem dX9_both_5 : decode cX9_both 5 = .ok (.ifCond .eq 11, 3) := by decide +kernel
theorem dX9_both_8 : decode cX9_both 8 = .ok (.aload_n 0, 1) := by decide +kernel
theorem dX9_both_9 : decode cX9_both 9 = .ok (.iload_n 2, 1) := by decide +kernel
theorem dX9_both_10 : decode cX9_both 10 = .ok (.invokevirtual 105, 3) := by decide +kernel
theorem dX9_both_13 : decode cX9_both 13 = .ok (.ifCond .ne 5, 3) := by decide +kernel
theorem dX9_both_16 : decode cX9_both 16 = .ok (.iconst (-1), 1) := by decide +kernel
theorem dX9_both_17 : decode cX9_both 17 = .ok (.ireturn, 1) := by decide +kernel
theorem dX9_both_18 : decode cX9_both 18 = .ok (.iload_n 3, 1) := by decide +kernel
theorem dX9_both_19 : decode cX9_both 19 = .ok (.iconst 0, 1) := by decide +kernel
theorem dX9_both_20 : decode cX9_both 20 = .ok (.iconst 1, 1) := by decide +kernel
theorem dX9_both_21 : decode cX9_both 21 = .ok (.invokestatic 71, 3) := by decide +kernel
theorem dX9_both_24 : decode cX9_both 24 = .ok (.ifCond .ne 6, 3) := by decide +kernel
theorem dX9_both_27 : decode cX9_both 27 = .ok (.bipush (-2), 2) := by decide +kernel
theorem dX9_both_29 : decode cX9_both 29 = .ok (.ireturn, 1) := by decide +kernel
theorem dX9_both_30 : decode cX9_both 30 = .ok (.aload_n 0, 1) := by decide +kernel
theorem dX9_both_31 : decode cX9_both 31 = .ok (.iload_n 1, 1) := by decide +kernel
theorem dX9_both_32 : decode cX9_both 32 = .ok (.iload_n 2, 1) := by decide +kernel
theorem dX9_both_33 : decode cX9_both 33 = .ok (.invokevirtual 150, 3) := by decide +kernel
theorem dX9_both_36 : decode cX9_both 36 = .ok (.iload_n 3, 1) := by decide +kernel
theorem dX9_both_37 : decode cX9_both 37 = .ok (.iconst 1, 1) := by decide +kernel
theorem dX9_both_38 : decode cX9_both 38 = .ok (.if_icmp .ne 12, 3) := by decide +kernel
theorem dX9_both_41 : decode cX9_both 41 = .ok (.aload_n 0, 1) := by decide +kernel
theorem dX9_both_42 : decode cX9_both 42 = .ok (.getfield 47, 3) := by decide +kernel
theorem dX9_both_45 : decode cX9_both 45 = .ok (.iconst 0, 1) := by decide +kernel
theorem dX9_both_46 : decode cX9_both 46 = .ok (.iaload, 1) := by decide +kernel
theorem dX9_both_47 : decode cX9_both 47 = .ok (.goto 23, 3) := by decide +kernel
theorem dX9_both_50 : decode cX9_both 50 = .ok (.aload_n 0, 1) := by decide +kernel
theorem dX9_both_51 : decode cX9_both 51 = .ok (.getfield 22, 3) := by decide +kernel
theorem dX9_both_54 : decode cX9_both 54 = .ok (.iload_n 1, 1) := by decide +kernel
theorem dX9_both_55 : decode cX9_both 55 = .ok (.iaload, 1) := by decide +kernel
theorem dX9_both_56 : decode cX9_both 56 = .ok (.aload_n 0, 1) := by decide +kernel
theorem dX9_both_57 : decode cX9_both 57 = .ok (.getfield 22, 3) := by decide +kernel
theorem dX9_both_60 : decode cX9_both 60 = .ok (.iload_n 2, 1) := by decide +kernel
theorem dX9_both_61 : decode cX9_both 61 = .ok (.iaload, 1) := by decide +kernel
theorem dX9_both_62 : decode cX9_both 62 = .ok (.iadd, 1) := by decide +kernel
theorem dX9_both_63 : decode cX9_both 63 = .ok (.aload_n 0, 1) := by decide +kernel
theorem dX9_both_64 : decode cX9_both 64 = .ok (.getfield 47, 3) := by decide +kernel
theorem dX9_both_67 : decode cX9_both 67 = .ok (.iconst 0, 1) := by decide +kernel
theorem dX9_both_68 : decode cX9_both 68 = .ok (.iaload, 1) := by decide +kernel
theorem dX9_both_69 : decode cX9_both 69 = .ok (.isub, 1) := by decide +kernel
theorem dX9_both_70 : decode cX9_both 70 = .ok (.ireturn, 1) := by decide +kernel
set_option maxRecDepth 20000 in
theorem ggX9_wordOf_X9_wordAt : GoodIn wsX9_wordOf wsX9_wordAt := goodIn_r _ [7, 8, 12, 13, 14, 15, 16, 17, 18, 19, 20, 21, 22, 23, 24, 25, 26, 27, 28, 29, 30, 31, 32, 33, 34, 35, 36, 37] (by decide +kernel) (by decide +kernel)
set_option maxRecDepth 20000 in
theorem gX9_wordOf_X9_wordAt : GoodIn wsX9_wordOf (wsV RX9 108 RX9 yX9_wordAt wsX9_wordAt) := goodIn_app (goodIn_of _ (by decide +kernel)) ggX9_wordOf_X9_wordAt
set_option maxRecDepth 20000 in
theorem ggX9_wordOf_X9_spot : GoodIn wsX9_wordOf wsX9_spot := goodIn_r _ [11] (by decide +kernel) (by decide +kernel)
set_option maxRecDepth 20000 in
theorem gX9_wordOf_X9_spot : GoodIn wsX9_wordOf (va_wsS RX9 140 yX9_spot wsX9_spot) := goodIn_app (goodIn_of _ (by decide +kernel)) ggX9_wordOf_X9_spot
theorem dX9_wordOf_0 : decode cX9_wordOf 0 = .ok (.iconst 0, 1) := by decide +kernel
theorem dX9_wordOf_1 : decode cX9_wordOf 1 = .ok (.istore 4, 2) := by decide +kernel
theorem dX9_wordOf_3 : decode cX9_wordOf 3 = .ok (.iconst 0, 1) := by decide +kernel
theorem dX9_wordOf_4 : decode cX9_wordOf 4 = .ok (.istore 5, 2) := by decide +kernel
theorem dX9_wordOf_6 : decode cX9_wordOf 6 = .ok (.iconst 0, 1) := by decide +kernel
theorem dX9_wordOf_7 : decode cX9_wordOf 7 = .ok (.istore 6, 2) := by decide +kernel
theorem dX9_wordOf_9 : decode cX9_wordOf 9 = .ok (.iconst 0, 1) := by decide +kernel
theorem dX9_wordOf_10 : decode cX9_wordOf 10 = .ok (.istore 7, 2) := by decide +kernel
theorem dX9_wordOf_12 : decode cX9_wordOf 12 = .ok (.iload 7, 2) := by decide +kernel
theorem dX9_wordOf_14 : decode cX9_wordOf 14 = .ok (.iload_n 3, 1) := by decide +kernel
theorem dX9_wordOf_15 : decode cX9_wordOf 15 = .ok (.if_icmp .gt 295, 3) := by decide +kernel
theorem dX9_wordOf_18 : decode cX9_wordOf 18 = .ok (.iload 4, 2) := by decide +kernel
theorem dX9_wordOf_20 : decode cX9_wordOf 20 = .ok (.aload_n 0, 1) := by decide +kernel
theorem dX9_wordOf_21 : decode cX9_wordOf 21 = .ok (.getfield 22, 3) := by decide +kernel
theorem dX9_wordOf_24 : decode cX9_wordOf 24 = .ok (.iload_n 1, 1) := by decide +kernel
theorem dX9_wordOf_25 : decode cX9_wordOf 25 = .ok (.iaload, 1) := by decide +kernel
theorem dX9_wordOf_26 : decode cX9_wordOf 26 = .ok (.if_icmp .ge 64, 3) := by decide +kernel
theorem dX9_wordOf_29 : decode cX9_wordOf 29 = .ok (.iload 5, 2) := by decide +kernel
theorem dX9_wordOf_31 : decode cX9_wordOf 31 = .ok (.aload_n 0, 1) := by decide +kernel
theorem dX9_wordOf_32 : decode cX9_wordOf 32 = .ok (.getfield 22, 3) := by decide +kernel
theorem dX9_wordOf_35 : decode cX9_wordOf 35 = .ok (.iload_n 2, 1) := by decide +kernel
theorem dX9_wordOf_36 : decode cX9_wordOf 36 = .ok (.iaload, 1) := by decide +kernel
theorem dX9_wordOf_37 : decode cX9_wordOf 37 = .ok (.if_icmp .eq 49, 3) := by decide +kernel
theorem dX9_wordOf_40 : decode cX9_wordOf 40 = .ok (.aload_n 0, 1) := by decide +kernel
theorem dX9_wordOf_41 : decode cX9_wordOf 41 = .ok (.iload_n 1, 1) := by decide +kernel
theorem dX9_wordOf_42 : decode cX9_wordOf 42 = .ok (.iload 4, 2) := by decide +kernel
theorem dX9_wordOf_44 : decode cX9_wordOf 44 = .ok (.invokevirtual 108, 3) := by decide +kernel
theorem dX9_wordOf_47 : decode cX9_wordOf 47 = .ok (.aload_n 0, 1) := by decide +kernel
theorem dX9_wordOf_48 : decode cX9_wordOf 48 = .ok (.iload_n 2, 1) := by decide +kernel
theorem dX9_wordOf_49 : decode cX9_wordOf 49 = .ok (.iload 5, 2) := by decide +kernel
theorem dX9_wordOf_51 : decode cX9_wordOf 51 = .ok (.invokevirtual 108, 3) := by decide +kernel
theorem dX9_wordOf_54 : decode cX9_wordOf 54 = .ok (.if_icmp .eq 32, 3) := by decide +kernel
theorem dX9_wordOf_57 : decode cX9_wordOf 57 = .ok (.aload_n 0, 1) := by decide +kernel
theorem dX9_wordOf_58 : decode cX9_wordOf 58 = .ok (.getfield 47, 3) := by decide +kernel
theorem dX9_wordOf_61 : decode cX9_wordOf 61 = .ok (.iload 4, 2) := by decide +kernel
theorem dX9_wordOf_63 : decode cX9_wordOf 63 = .ok (.iconst 1, 1) := by decide +kernel
theorem dX9_wordOf_64 : decode cX9_wordOf 64 = .ok (.iadd, 1) := by decide +kernel
theorem dX9_wordOf_65 : decode cX9_wordOf 65 = .ok (.iload 5, 2) := by decide +kernel
theorem dX9_wordOf_67 : decode cX9_wordOf 67 = .ok (.invokestatic 140, 3) := by decide +kernel
theorem dX9_wordOf_70 : decode cX9_wordOf 70 = .ok (.iaload, 1) := by decide +kernel
theorem dX9_wordOf_71 : decode cX9_wordOf 71 = .ok (.aload_n 0, 1) := by decide +kernel
theorem dX9_wordOf_72 : decode cX9_wordOf 72 = .ok (.getfield 47, 3) := by decide +kernel
theorem dX9_wordOf_75 : decode cX9_wordOf 75 = .ok (.iload 4, 2) := by decide +kernel
theorem dX9_wordOf_77 : decode cX9_wordOf 77 = .ok (.iload 5, 2) := by decide +kernel
theorem dX9_wordOf_79 : decode cX9_wordOf 79 = .ok (.invokestatic 140, 3) := by decide +kernel
theorem dX9_wordOf_82 : decode cX9_wordOf 82 = .ok (.iaload, 1) := by decide +kernel
theorem dX9_wordOf_83 : decode cX9_wordOf 83 = .ok (.if_icmp .ge 7, 3) := by decide +kernel
theorem dX9_wordOf_86 : decode cX9_wordOf 86 = .ok (.iconst 1, 1) := by decide +kernel
theorem dX9_wordOf_87 : decode cX9_wordOf 87 = .ok (.goto 4, 3) := by decide +kernel
theorem dX9_wordOf_90 : decode cX9_wordOf 90 = .ok (.iconst 0, 1) := by decide +kernel
theorem dX9_wordOf_91 : decode cX9_wordOf 91 = .ok (.istore 8, 2) := by decide +kernel
theorem dX9_wordOf_93 : decode cX9_wordOf 93 = .ok (.iload 5, 2) := by decide +kernel
theorem dX9_wordOf_95 : decode cX9_wordOf 95 = .ok (.aload_n 0, 1) := by decide +kernel
theorem dX9_wordOf_96 : decode cX9_wordOf 96 = .ok (.getfield 22, 3) := by decide +kernel
theorem dX9_wordOf_99 : decode cX9_wordOf 99 = .ok (.iload_n 2, 1) := by decide +kernel
theorem dX9_wordOf_100 : decode cX9_wordOf 100 = .ok (.iaload, 1) := by decide +kernel
theorem dX9_wordOf_101 : decode cX9_wordOf 101 = .ok (.if_icmp .ge 64, 3) := by decide +kernel
theorem dX9_wordOf_104 : decode cX9_wordOf 104 = .ok (.iload 4, 2) := by decide +kernel
theorem dX9_wordOf_106 : decode cX9_wordOf 106 = .ok (.aload_n 0, 1) := by decide +kernel
theorem dX9_wordOf_107 : decode cX9_wordOf 107 = .ok (.getfield 22, 3) := by decide +kernel
theorem dX9_wordOf_110 : decode cX9_wordOf 110 = .ok (.iload_n 1, 1) := by decide +kernel
theorem dX9_wordOf_111 : decode cX9_wordOf 111 = .ok (.iaload, 1) := by decide +kernel
theorem dX9_wordOf_112 : decode cX9_wordOf 112 = .ok (.if_icmp .eq 49, 3) := by decide +kernel
theorem dX9_wordOf_115 : decode cX9_wordOf 115 = .ok (.aload_n 0, 1) := by decide +kernel
theorem dX9_wordOf_116 : decode cX9_wordOf 116 = .ok (.iload_n 1, 1) := by decide +kernel
theorem dX9_wordOf_117 : decode cX9_wordOf 117 = .ok (.iload 4, 2) := by decide +kernel
theorem dX9_wordOf_119 : decode cX9_wordOf 119 = .ok (.invokevirtual 108, 3) := by decide +kernel
theorem dX9_wordOf_122 : decode cX9_wordOf 122 = .ok (.aload_n 0, 1) := by decide +kernel
theorem dX9_wordOf_123 : decode cX9_wordOf 123 = .ok (.iload_n 2, 1) := by decide +kernel
theorem dX9_wordOf_124 : decode cX9_wordOf 124 = .ok (.iload 5, 2) := by decide +kernel
theorem dX9_wordOf_126 : decode cX9_wordOf 126 = .ok (.invokevirtual 108, 3) := by decide +kernel
theorem dX9_wordOf_129 : decode cX9_wordOf 129 = .ok (.if_icmp .eq 32, 3) := by decide +kernel
theorem dX9_wordOf_132 : decode cX9_wordOf 132 = .ok (.aload_n 0, 1) := by decide +kernel
theorem dX9_wordOf_133 : decode cX9_wordOf 133 = .ok (.getfield 47, 3) := by decide +kernel
theorem dX9_wordOf_136 : decode cX9_wordOf 136 = .ok (.iload 4, 2) := by decide +kernel
theorem dX9_wordOf_138 : decode cX9_wordOf 138 = .ok (.iload 5, 2) := by decide +kernel
theorem dX9_wordOf_140 : decode cX9_wordOf 140 = .ok (.iconst 1, 1) := by decide +kernel
theorem dX9_wordOf_141 : decode cX9_wordOf 141 = .ok (.iadd, 1) := by decide +kernel
theorem dX9_wordOf_142 : decode cX9_wordOf 142 = .ok (.invokestatic 140, 3) := by decide +kernel
theorem dX9_wordOf_145 : decode cX9_wordOf 145 = .ok (.iaload, 1) := by decide +kernel
theorem dX9_wordOf_146 : decode cX9_wordOf 146 = .ok (.aload_n 0, 1) := by decide +kernel
theorem dX9_wordOf_147 : decode cX9_wordOf 147 = .ok (.getfield 47, 3) := by decide +kernel
theorem dX9_wordOf_150 : decode cX9_wordOf 150 = .ok (.iload 4, 2) := by decide +kernel
theorem dX9_wordOf_152 : decode cX9_wordOf 152 = .ok (.iload 5, 2) := by decide +kernel
theorem dX9_wordOf_154 : decode cX9_wordOf 154 = .ok (.invokestatic 140, 3) := by decide +kernel
theorem dX9_wordOf_157 : decode cX9_wordOf 157 = .ok (.iaload, 1) := by decide +kernel
theorem dX9_wordOf_158 : decode cX9_wordOf 158 = .ok (.if_icmp .ge 7, 3) := by decide +kernel
theorem dX9_wordOf_161 : decode cX9_wordOf 161 = .ok (.iconst 1, 1) := by decide +kernel
theorem dX9_wordOf_162 : decode cX9_wordOf 162 = .ok (.goto 4, 3) := by decide +kernel
theorem dX9_wordOf_165 : decode cX9_wordOf 165 = .ok (.iconst 0, 1) := by decide +kernel
theorem dX9_wordOf_166 : decode cX9_wordOf 166 = .ok (.istore 9, 2) := by decide +kernel
theorem dX9_wordOf_168 : decode cX9_wordOf 168 = .ok (.iload 8, 2) := by decide +kernel
theorem dX9_wordOf_170 : decode cX9_wordOf 170 = .ok (.ifCond .eq 35, 3) := by decide +kernel
theorem dX9_wordOf_173 : decode cX9_wordOf 173 = .ok (.iload 9, 2) := by decide +kernel
theorem dX9_wordOf_175 : decode cX9_wordOf 175 = .ok (.ifCond .eq 20, 3) := by decide +kernel
theorem dX9_wordOf_178 : decode cX9_wordOf 178 = .ok (.aload_n 0, 1) := by decide +kernel
theorem dX9_wordOf_179 : decode cX9_wordOf 179 = .ok (.iload_n 1, 1) := by decide +kernel
theorem dX9_wordOf_180 : decode cX9_wordOf 180 = .ok (.iload 4, 2) := by decide +kernel
theorem dX9_wordOf_182 : decode cX9_wordOf 182 = .ok (.invokevirtual 108, 3) := by decide +kernel
theorem dX9_wordOf_185 : decode cX9_wordOf 185 = .ok (.aload_n 0, 1) := by decide +kernel
theorem dX9_wordOf_186 : decode cX9_wordOf 186 = .ok (.iload_n 2, 1) := by decide +kernel
theorem dX9_wordOf_187 : decode cX9_wordOf 187 = .ok (.iload 5, 2) := by decide +kernel
theorem dX9_wordOf_189 : decode cX9_wordOf 189 = .ok (.invokevirtual 108, 3) := by decide +kernel
theorem dX9_wordOf_192 : decode cX9_wordOf 192 = .ok (.if_icmp .gt 13, 3) := by decide +kernel
theorem dX9_wordOf_195 : decode cX9_wordOf 195 = .ok (.aload_n 0, 1) := by decide +kernel
theorem dX9_wordOf_196 : decode cX9_wordOf 196 = .ok (.iload_n 1, 1) := by decide +kernel
theorem dX9_wordOf_197 : decode cX9_wordOf 197 = .ok (.iload 4, 2) := by decide +kernel
theorem dX9_wordOf_199 : decode cX9_wordOf 199 = .ok (.invokevirtual 108, 3) := by decide +kernel
theorem dX9_wordOf_202 : decode cX9_wordOf 202 = .ok (.goto 10, 3) := by decide +kernel
theorem dX9_wordOf_205 : decode cX9_wordOf 205 = .ok (.aload_n 0, 1) := by decide +kernel
theorem dX9_wordOf_206 : decode cX9_wordOf 206 = .ok (.iload_n 2, 1) := by decide +kernel
theorem dX9_wordOf_207 : decode cX9_wordOf 207 = .ok (.iload 5, 2) := by decide +kernel
theorem dX9_wordOf_209 : decode cX9_wordOf 209 = .ok (.invokevirtual 108, 3) := by decide +kernel
theorem dX9_wordOf_212 : decode cX9_wordOf 212 = .ok (.istore 6, 2) := by decide +kernel
theorem dX9_wordOf_214 : decode cX9_wordOf 214 = .ok (.iload 4, 2) := by decide +kernel
theorem dX9_wordOf_216 : decode cX9_wordOf 216 = .ok (.aload_n 0, 1) := by decide +kernel
theorem dX9_wordOf_217 : decode cX9_wordOf 217 = .ok (.getfield 22, 3) := by decide +kernel
theorem dX9_wordOf_220 : decode cX9_wordOf 220 = .ok (.iload_n 1, 1) := by decide +kernel
theorem dX9_wordOf_221 : decode cX9_wordOf 221 = .ok (.iaload, 1) := by decide +kernel
theorem dX9_wordOf_222 : decode cX9_wordOf 222 = .ok (.if_icmp .ge 19, 3) := by decide +kernel
theorem dX9_wordOf_225 : decode cX9_wordOf 225 = .ok (.aload_n 0, 1) := by decide +kernel
theorem dX9_wordOf_226 : decode cX9_wordOf 226 = .ok (.iload_n 1, 1) := by decide +kernel
theorem dX9_wordOf_227 : decode cX9_wordOf 227 = .ok (.iload 4, 2) := by decide +kernel
theorem dX9_wordOf_229 : decode cX9_wordOf 229 = .ok (.invokevirtual 108, 3) := by decide +kernel
theorem dX9_wordOf_232 : decode cX9_wordOf 232 = .ok (.iload 6, 2) := by decide +kernel
theorem dX9_wordOf_234 : decode cX9_wordOf 234 = .ok (.if_icmp .ne 7, 3) := by decide +kernel
theorem dX9_wordOf_237 : decode cX9_wordOf 237 = .ok (.iconst 1, 1) := by decide +kernel
theorem dX9_wordOf_238 : decode cX9_wordOf 238 = .ok (.goto 4, 3) := by decide +kernel
theorem dX9_wordOf_241 : decode cX9_wordOf 241 = .ok (.iconst 0, 1) := by decide +kernel
theorem dX9_wordOf_242 : decode cX9_wordOf 242 = .ok (.istore 10, 2) := by decide +kernel
theorem dX9_wordOf_244 : decode cX9_wordOf 244 = .ok (.iload 5, 2) := by decide +kernel
theorem dX9_wordOf_246 : decode cX9_wordOf 246 = .ok (.aload_n 0, 1) := by decide +kernel
theorem dX9_wordOf_247 : decode cX9_wordOf 247 = .ok (.getfield 22, 3) := by decide +kernel
theorem dX9_wordOf_250 : decode cX9_wordOf 250 = .ok (.iload_n 2, 1) := by decide +kernel
theorem dX9_wordOf_251 : decode cX9_wordOf 251 = .ok (.iaload, 1) := by decide +kernel
theorem dX9_wordOf_252 : decode cX9_wordOf 252 = .ok (.if_icmp .ge 19, 3) := by decide +kernel
theorem dX9_wordOf_255 : decode cX9_wordOf 255 = .ok (.aload_n 0, 1) := by decide +kernel
theorem dX9_wordOf_256 : decode cX9_wordOf 256 = .ok (.iload_n 2, 1) := by decide +kernel
theorem dX9_wordOf_257 : decode cX9_wordOf 257 = .ok (.iload 5, 2) := by decide +kernel
theorem dX9_wordOf_259 : decode cX9_wordOf 259 = .ok (.invokevirtual 108, 3) := by decide +kernel
theorem dX9_wordOf_262 : decode cX9_wordOf 262 = .ok (.iload 6, 2) := by decide +kernel
theorem dX9_wordOf_264 : decode cX9_wordOf 264 = .ok (.if_icmp .ne 7, 3) := by decide +kernel
theorem dX9_wordOf_267 : decode cX9_wordOf 267 = .ok (.iconst 1, 1) := by decide +kernel
theorem dX9_wordOf_268 : decode cX9_wordOf 268 = .ok (.goto 4, 3) := by decide +kernel
theorem dX9_wordOf_271 : decode cX9_wordOf 271 = .ok (.iconst 0, 1) := by decide +kernel
theorem dX9_wordOf_272 : decode cX9_wordOf 272 = .ok (.istore 11, 2) := by decide +kernel
theorem dX9_wordOf_274 : decode cX9_wordOf 274 = .ok (.iload 4, 2) := by decide +kernel
theorem dX9_wordOf_276 : decode cX9_wordOf 276 = .ok (.iload 10, 2) := by decide +kernel
theorem dX9_wordOf_278 : decode cX9_wordOf 278 = .ok (.ifCond .eq 7, 3) := by decide +kernel
theorem dX9_wordOf_281 : decode cX9_wordOf 281 = .ok (.iconst 1, 1) := by decide +kernel
theorem dX9_wordOf_282 : decode cX9_wordOf 282 = .ok (.goto 4, 3) := by decide +kernel
theorem dX9_wordOf_285 : decode cX9_wordOf 285 = .ok (.iconst 0, 1) := by decide +kernel
theorem dX9_wordOf_286 : decode cX9_wordOf 286 = .ok (.iadd, 1) := by decide +kernel
theorem dX9_wordOf_287 : decode cX9_wordOf 287 = .ok (.istore 4, 2) := by decide +kernel
theorem dX9_wordOf_289 : decode cX9_wordOf 289 = .ok (.iload 5, 2) := by decide +kernel
theorem dX9_wordOf_291 : decode cX9_wordOf 291 = .ok (.iload 11, 2) := by decide +kernel
theorem dX9_wordOf_293 : decode cX9_wordOf 293 = .ok (.ifCond .eq 7, 3) := by decide +kernel
theorem dX9_wordOf_296 : decode cX9_wordOf 296 = .ok (.iconst 1, 1) := by decide +kernel
theorem dX9_wordOf_297 : decode cX9_wordOf 297 = .ok (.goto 4, 3) := by decide +kernel
theorem dX9_wordOf_300 : decode cX9_wordOf 300 = .ok (.iconst 0, 1) := by decide +kernel
theorem dX9_wordOf_301 : decode cX9_wordOf 301 = .ok (.iadd, 1) := by decide +kernel
theorem dX9_wordOf_302 : decode cX9_wordOf 302 = .ok (.istore 5, 2) := by decide +kernel
theorem dX9_wordOf_304 : decode cX9_wordOf 304 = .ok (.iinc 7 1, 3) := by decide +kernel
theorem dX9_wordOf_307 : decode cX9_wordOf 307 = .ok (.goto (-295), 3) := by decide +kernel
theorem dX9_wordOf_310 : decode cX9_wordOf 310 = .ok (.iload 6, 2) := by decide +kernel
theorem dX9_wordOf_312 : decode cX9_wordOf 312 = .ok (.ireturn, 1) := by decide +kernel
set_option maxRecDepth 20000 in
theorem ggX9_shortest_X9_isDay : GoodIn wsX9_shortest wsX9_isDay := goodIn_r _ [8, 9, 31, 32, 33, 34, 35, 36, 37, 38, 39, 40, 41, 42, 43, 44, 45, 46, 47, 48, 49, 50, 51, 52, 53, 54, 55, 56] (by decide +kernel) (by decide +kernel)
set_option maxRecDepth 20000 in
theorem gX9_shortest_X9_isDay : GoodIn wsX9_shortest (wsV RX9 105 RX9 yX9_isDay wsX9_isDay) := goodIn_app (goodIn_of _ (by decide +kernel)) ggX9_shortest_X9_isDay
set_option maxRecDepth 20000 in
theorem ggX9_shortest_X9_layYet : GoodIn wsX9_shortest wsX9_layYet := goodIn_r _ [13, 14, 15, 16, 17, 7, 18, 2, 3, 19, 20, 21, 22, 23, 24, 25, 26, 31, 32, 33, 34, 35, 36, 37, 38, 39, 40, 41, 42, 43, 44, 45, 46, 47, 48, 49, 50, 51, 52, 53, 54, 55, 56] (by decide +kernel) (by decide +kernel)
set_option maxRecDepth 20000 in
theorem gX9_shortest_X9_layYet : GoodIn wsX9_shortest (wsV RX9 150 RX9 yX9_layYet wsX9_layYet) := goodIn_app (goodIn_of _ (by decide +kernel)) ggX9_shortest_X9_layYet
set_option maxRecDepth 20000 in
theorem ggX9_shortest_X9_wordOf : GoodIn wsX9_shortest wsX9_wordOf := goodIn_r _ [30, 14, 2, 22, 23, 24, 7, 25, 26, 19, 20, 21, 31, 32, 33, 34, 35, 36, 37, 38, 39, 40, 41, 42, 43, 44, 45, 46, 47, 48, 49, 50, 51, 52, 53, 54, 55, 56] (by decide +kernel) (by decide +kernel)
set_option maxRecDepth 20000 in
theorem gX9_shortest_X9_wordOf : GoodIn wsX9_shortest (wsV RX9 154 RX9 yX9_wordOf wsX9_wordOf) := goodIn_app (goodIn_of _ (by decide +kernel)) ggX9_shortest_X9_wordOf
theorem dX9_shortest_0 : decode cX9_shortest 0 = .ok (.aload_n 0, 1) := by decide +kernel
theorem dX9_shortest_1 : decode cX9_shortest 1 = .ok (.iload_n 1, 1) := by decide +kernel
theorem dX9_shortest_2 : decode cX9_shortest 2 = .ok (.invokevirtual 105, 3) := by decide +kernel
theorem dX9_shortest_5 : decode cX9_shortest 5 = .ok (.ifCond .eq 16, 3) := by decide +kernel
theorem dX9_shortest_8 : decode cX9_shortest 8 = .ok (.aload_n 0, 1) := by decide +kernel
theorem dX9_shortest_9 : decode cX9_shortest 9 = .ok (.iload_n 2, 1) := by decide +kernel
theorem dX9_shortest_10 : decode cX9_shortest 10 = .ok (.invokevirtual 105, 3) := by decide +kernel
theorem dX9_shortest_13 : decode cX9_shortest 13 = .ok (.ifCond .eq 8, 3) := by decide +kernel
theorem dX9_shortest_16 : decode cX9_shortest 16 = .ok (.iload_n 3, 1) := by decide +kernel
theorem dX9_shortest_17 : decode cX9_shortest 17 = .ok (.iconst (-1), 1) := by decide +kernel
theorem dX9_shortest_18 : decode cX9_shortest 18 = .ok (.if_icmp .ge 7, 3) := by decide +kernel
theorem dX9_shortest_21 : decode cX9_shortest 21 = .ok (.ldc2_w 69, 3) := by decide +kernel
theorem dX9_shortest_24 : decode cX9_shortest 24 = .ok (.lreturn, 1) := by decide +kernel
theorem dX9_shortest_25 : decode cX9_shortest 25 = .ok (.aload_n 0, 1) := by decide +kernel
theorem dX9_shortest_26 : decode cX9_shortest 26 = .ok (.iload_n 1, 1) := by decide +kernel
theorem dX9_shortest_27 : decode cX9_shortest 27 = .ok (.iload_n 2, 1) := by decide +kernel
theorem dX9_shortest_28 : decode cX9_shortest 28 = .ok (.invokevirtual 150, 3) := by decide +kernel
theorem dX9_shortest_31 : decode cX9_shortest 31 = .ok (.iload_n 3, 1) := by decide +kernel
theorem dX9_shortest_32 : decode cX9_shortest 32 = .ok (.aload_n 0, 1) := by decide +kernel
theorem dX9_shortest_33 : decode cX9_shortest 33 = .ok (.getfield 47, 3) := by decide +kernel
theorem dX9_shortest_36 : decode cX9_shortest 36 = .ok (.iconst 0, 1) := by decide +kernel
theorem dX9_shortest_37 : decode cX9_shortest 37 = .ok (.iaload, 1) := by decide +kernel
theorem dX9_shortest_38 : decode cX9_shortest 38 = .ok (.if_icmp .lt 7, 3) := by decide +kernel
theorem dX9_shortest_41 : decode cX9_shortest 41 = .ok (.ldc2_w 69, 3) := by decide +kernel
theorem dX9_shortest_44 : decode cX9_shortest 44 = .ok (.lreturn, 1) := by decide +kernel
theorem dX9_shortest_45 : decode cX9_shortest 45 = .ok (.iload_n 3, 1) := by decide +kernel
theorem dX9_shortest_46 : decode cX9_shortest 46 = .ok (.iconst (-1), 1) := by decide +kernel
theorem dX9_shortest_47 : decode cX9_shortest 47 = .ok (.if_icmp .ne 12, 3) := by decide +kernel
theorem dX9_shortest_50 : decode cX9_shortest 50 = .ok (.aload_n 0, 1) := by decide +kernel
theorem dX9_shortest_51 : decode cX9_shortest 51 = .ok (.getfield 50, 3) := by decide +kernel
theorem dX9_shortest_54 : decode cX9_shortest 54 = .ok (.iconst 0, 1) := by decide +kernel
theorem dX9_shortest_55 : decode cX9_shortest 55 = .ok (.laload, 1) := by decide +kernel
theorem dX9_shortest_56 : decode cX9_shortest 56 = .ok (.goto 11, 3) := by decide +kernel
theorem dX9_shortest_59 : decode cX9_shortest 59 = .ok (.aload_n 0, 1) := by decide +kernel
theorem dX9_shortest_60 : decode cX9_shortest 60 = .ok (.iload_n 1, 1) := by decide +kernel
theorem dX9_shortest_61 : decode cX9_shortest 61 = .ok (.iload_n 2, 1) := by decide +kernel
theorem dX9_shortest_62 : decode cX9_shortest 62 = .ok (.iload_n 3, 1) := by decide +kernel
theorem dX9_shortest_63 : decode cX9_shortest 63 = .ok (.invokevirtual 154, 3) := by decide +kernel
theorem dX9_shortest_66 : decode cX9_shortest 66 = .ok (.i2l, 1) := by decide +kernel
theorem dX9_shortest_67 : decode cX9_shortest 67 = .ok (.lreturn, 1) := by decide +kernel
set_option maxRecDepth 20000 in
theorem ggX9_threeYet_X9_wordAt : GoodIn wsX9_threeYet wsX9_wordAt := goodIn_r _ [7, 8, 9, 10, 11, 12, 13, 14, 15, 16, 17, 18, 19, 20, 21, 22, 23, 24, 25, 26, 27, 28, 29, 30, 31, 32, 33, 34] (by decide +kernel) (by decide +kernel)
set_option maxRecDepth 20000 in
theorem gX9_threeYet_X9_wordAt : GoodIn wsX9_threeYet (wsV RX9 108 RX9 yX9_wordAt wsX9_wordAt) := goodIn_app (goodIn_of _ (by decide +kernel)) ggX9_threeYet_X9_wordAt
theorem dX9_threeYet_0 : decode cX9_threeYet 0 = .ok (.iload 4, 2) := by decide +kernel
theorem dX9_threeYet_2 : decode cX9_threeYet 2 = .ok (.aload_n 0, 1) := by decide +kernel
theorem dX9_threeYet_3 : decode cX9_threeYet 3 = .ok (.getfield 22, 3) := by decide +kernel
theorem dX9_threeYet_6 : decode cX9_threeYet 6 = .ok (.iload_n 1, 1) := by decide +kernel
theorem dX9_threeYet_7 : decode cX9_threeYet 7 = .ok (.iaload, 1) := by decide +kernel
theorem dX9_threeYet_8 : decode cX9_threeYet 8 = .ok (.if_icmp .ne 29, 3) := by decide +kernel
theorem dX9_threeYet_11 : decode cX9_threeYet 11 = .ok (.iload 5, 2) := by decide +kernel
theorem dX9_threeYet_13 : decode cX9_threeYet 13 = .ok (.aload_n 0, 1) := by decide +kernel
theorem dX9_threeYet_14 : decode cX9_threeYet 14 = .ok (.getfield 22, 3) := by decide +kernel
theorem dX9_threeYet_17 : decode cX9_threeYet 17 = .ok (.iload_n 2, 1) := by decide +kernel
theorem dX9_threeYet_18 : decode cX9_threeYet 18 = .ok (.iaload, 1) := by decide +kernel
theorem dX9_threeYet_19 : decode cX9_threeYet 19 = .ok (.if_icmp .ne 18, 3) := by decide +kernel
theorem dX9_threeYet_22 : decode cX9_threeYet 22 = .ok (.iload 6, 2) := by decide +kernel
theorem dX9_threeYet_24 : decode cX9_threeYet 24 = .ok (.aload_n 0, 1) := by decide +kernel
theorem dX9_threeYet_25 : decode cX9_threeYet 25 = .ok (.getfield 22, 3) := by decide +kernel
theorem dX9_threeYet_28 : decode cX9_threeYet 28 = .ok (.iload_n 3, 1) := by decide +kernel
theorem dX9_threeYet_29 : decode cX9_threeYet 29 = .ok (.iaload, 1) := by decide +kernel
theorem dX9_threeYet_30 : decode cX9_threeYet 30 = .ok (.if_icmp .ne 7, 3) := by decide +kernel
theorem dX9_threeYet_33 : decode cX9_threeYet 33 = .ok (.iconst 1, 1) := by decide +kernel
theorem dX9_threeYet_34 : decode cX9_threeYet 34 = .ok (.goto 4, 3) := by decide +kernel
theorem dX9_threeYet_37 : decode cX9_threeYet 37 = .ok (.iconst 0, 1) := by decide +kernel
theorem dX9_threeYet_38 : decode cX9_threeYet 38 = .ok (.istore 7, 2) := by decide +kernel
theorem dX9_threeYet_40 : decode cX9_threeYet 40 = .ok (.iload 7, 2) := by decide +kernel
theorem dX9_threeYet_42 : decode cX9_threeYet 42 = .ok (.ifCond .eq 5, 3) := by decide +kernel
theorem dX9_threeYet_45 : decode cX9_threeYet 45 = .ok (.iconst 0, 1) := by decide +kernel
theorem dX9_threeYet_46 : decode cX9_threeYet 46 = .ok (.ireturn, 1) := by decide +kernel
theorem dX9_threeYet_47 : decode cX9_threeYet 47 = .ok (.bipush 99, 2) := by decide +kernel
theorem dX9_threeYet_49 : decode cX9_threeYet 49 = .ok (.istore 8, 2) := by decide +kernel
theorem dX9_threeYet_51 : decode cX9_threeYet 51 = .ok (.iconst 0, 1) := by decide +kernel
theorem dX9_threeYet_52 : decode cX9_threeYet 52 = .ok (.istore 9, 2) := by decide +kernel
theorem dX9_threeYet_54 : decode cX9_threeYet 54 = .ok (.iload 9, 2) := by decide +kernel
theorem dX9_threeYet_56 : decode cX9_threeYet 56 = .ok (.bipush 8, 2) := by decide +kernel
theorem dX9_threeYet_58 : decode cX9_threeYet 58 = .ok (.if_icmp .ge 167, 3) := by decide +kernel
theorem dX9_threeYet_61 : decode cX9_threeYet 61 = .ok (.iload 4, 2) := by decide +kernel
theorem dX9_threeYet_63 : decode cX9_threeYet 63 = .ok (.iload 4, 2) := by decide +kernel
theorem dX9_threeYet_65 : decode cX9_threeYet 65 = .ok (.aload_n 0, 1) := by decide +kernel
theorem dX9_threeYet_66 : decode cX9_threeYet 66 = .ok (.getfield 22, 3) := by decide +kernel
theorem dX9_threeYet_69 : decode cX9_threeYet 69 = .ok (.iload_n 1, 1) := by decide +kernel
theorem dX9_threeYet_70 : decode cX9_threeYet 70 = .ok (.iaload, 1) := by decide +kernel
theorem dX9_threeYet_71 : decode cX9_threeYet 71 = .ok (.if_icmp .ge 19, 3) := by decide +kernel
theorem dX9_threeYet_74 : decode cX9_threeYet 74 = .ok (.aload_n 0, 1) := by decide +kernel
theorem dX9_threeYet_75 : decode cX9_threeYet 75 = .ok (.iload_n 1, 1) := by decide +kernel
theorem dX9_threeYet_76 : decode cX9_threeYet 76 = .ok (.iload 4, 2) := by decide +kernel
theorem dX9_threeYet_78 : decode cX9_threeYet 78 = .ok (.invokevirtual 108, 3) := by decide +kernel
theorem dX9_threeYet_81 : decode cX9_threeYet 81 = .ok (.iload 9, 2) := by decide +kernel
theorem dX9_threeYet_83 : decode cX9_threeYet 83 = .ok (.if_icmp .ne 7, 3) := by decide +kernel
theorem dX9_threeYet_86 : decode cX9_threeYet 86 = .ok (.iconst 1, 1) := by decide +kernel
theorem dX9_threeYet_87 : decode cX9_threeYet 87 = .ok (.goto 4, 3) := by decide +kernel
theorem dX9_threeYet_90 : decode cX9_threeYet 90 = .ok (.iconst 0, 1) := by decide +kernel
theorem dX9_threeYet_91 : decode cX9_threeYet 91 = .ok (.iadd, 1) := by decide +kernel
theorem dX9_threeYet_92 : decode cX9_threeYet 92 = .ok (.istore 10, 2) := by decide +kernel
theorem dX9_threeYet_94 : decode cX9_threeYet 94 = .ok (.iload 5, 2) := by decide +kernel
theorem dX9_threeYet_96 : decode cX9_threeYet 96 = .ok (.iload 5, 2) := by decide +kernel
theorem dX9_threeYet_98 : decode cX9_threeYet 98 = .ok (.aload_n 0, 1) := by decide +kernel
theorem dX9_threeYet_99 : decode cX9_threeYet 99 = .ok (.getfield 22, 3) := by decide +kernel
theorem dX9_threeYet_102 : decode cX9_threeYet 102 = .ok (.iload_n 2, 1) := by decide +kernel
theorem dX9_threeYet_103 : decode cX9_threeYet 103 = .ok (.iaload, 1) := by decide +kernel
theorem dX9_threeYet_104 : decode cX9_threeYet 104 = .ok (.if_icmp .ge 19, 3) := by decide +kernel
theorem dX9_threeYet_107 : decode cX9_threeYet 107 = .ok (.aload_n 0, 1) := by decide +kernel
theorem dX9_threeYet_108 : decode cX9_threeYet 108 = .ok (.iload_n 2, 1) := by decide +kernel
theorem dX9_threeYet_109 : decode cX9_threeYet 109 = .ok (.iload 5, 2) := by decide +kernel
theorem dX9_threeYet_111 : decode cX9_threeYet 111 = .ok (.invokevirtual 108, 3) := by decide +kernel
theorem dX9_threeYet_114 : decode cX9_threeYet 114 = .ok (.iload 9, 2) := by decide +kernel
theorem dX9_threeYet_116 : decode cX9_threeYet 116 = .ok (.if_icmp .ne 7, 3) := by decide +kernel
theorem dX9_threeYet_119 : decode cX9_threeYet 119 = .ok (.iconst 1, 1) := by decide +kernel
theorem dX9_threeYet_120 : decode cX9_threeYet 120 = .ok (.goto 4, 3) := by decide +kernel
theorem dX9_threeYet_123 : decode cX9_threeYet 123 = .ok (.iconst 0, 1) := by decide +kernel
theorem dX9_threeYet_124 : decode cX9_threeYet 124 = .ok (.iadd, 1) := by decide +kernel
theorem dX9_threeYet_125 : decode cX9_threeYet 125 = .ok (.istore 11, 2) := by decide +kernel
theorem dX9_threeYet_127 : decode cX9_threeYet 127 = .ok (.iload 6, 2) := by decide +kernel
theorem dX9_threeYet_129 : decode cX9_threeYet 129 = .ok (.iload 6, 2) := by decide +kernel
theorem dX9_threeYet_131 : decode cX9_threeYet 131 = .ok (.aload_n 0, 1) := by decide +kernel
theorem dX9_threeYet_132 : decode cX9_threeYet 132 = .ok (.getfield 22, 3) := by decide +kernel
theorem dX9_threeYet_135 : decode cX9_threeYet 135 = .ok (.iload_n 3, 1) := by decide +kernel
theorem dX9_threeYet_136 : decode cX9_threeYet 136 = .ok (.iaload, 1) := by decide +kernel
theorem dX9_threeYet_137 : decode cX9_threeYet 137 = .ok (.if_icmp .ge 19, 3) := by decide +kernel
theorem dX9_threeYet_140 : decode cX9_threeYet 140 = .ok (.aload_n 0, 1) := by decide +kernel
theorem dX9_threeYet_141 : decode cX9_threeYet 141 = .ok (.iload_n 3, 1) := by decide +kernel
theorem dX9_threeYet_142 : decode cX9_threeYet 142 = .ok (.iload 6, 2) := by decide +kernel
theorem dX9_threeYet_144 : decode cX9_threeYet 144 = .ok (.invokevirtual 108, 3) := by decide +kernel
theorem dX9_threeYet_147 : decode cX9_threeYet 147 = .ok (.iload 9, 2) := by decide +kernel
theorem dX9_threeYet_149 : decode cX9_threeYet 149 = .ok (.if_icmp .ne 7, 3) := by decide +kernel
theorem dX9_threeYet_152 : decode cX9_threeYet 152 = .ok (.iconst 1, 1) := by decide +kernel
theorem dX9_threeYet_153 : decode cX9_threeYet 153 = .ok (.goto 4, 3) := by decide +kernel
theorem dX9_threeYet_156 : decode cX9_threeYet 156 = .ok (.iconst 0, 1) := by decide +kernel
theorem dX9_threeYet_157 : decode cX9_threeYet 157 = .ok (.iadd, 1) := by decide +kernel
theorem dX9_threeYet_158 : decode cX9_threeYet 158 = .ok (.istore 12, 2) := by decide +kernel
theorem dX9_threeYet_160 : decode cX9_threeYet 160 = .ok (.iload 10, 2) := by decide +kernel
theorem dX9_threeYet_162 : decode cX9_threeYet 162 = .ok (.iload 11, 2) := by decide +kernel
theorem dX9_threeYet_164 : decode cX9_threeYet 164 = .ok (.iadd, 1) := by decide +kernel
theorem dX9_threeYet_165 : decode cX9_threeYet 165 = .ok (.iload 12, 2) := by decide +kernel
theorem dX9_threeYet_167 : decode cX9_threeYet 167 = .ok (.iadd, 1) := by decide +kernel
theorem dX9_threeYet_168 : decode cX9_threeYet 168 = .ok (.iload 4, 2) := by decide +kernel
theorem dX9_threeYet_170 : decode cX9_threeYet 170 = .ok (.iload 5, 2) := by decide +kernel
theorem dX9_threeYet_172 : decode cX9_threeYet 172 = .ok (.iadd, 1) := by decide +kernel
theorem dX9_threeYet_173 : decode cX9_threeYet 173 = .ok (.iload 6, 2) := by decide +kernel
theorem dX9_threeYet_175 : decode cX9_threeYet 175 = .ok (.iadd, 1) := by decide +kernel
theorem dX9_threeYet_176 : decode cX9_threeYet 176 = .ok (.if_icmp .le 43, 3) := by decide +kernel
theorem dX9_threeYet_179 : decode cX9_threeYet 179 = .ok (.iconst 1, 1) := by decide +kernel
theorem dX9_threeYet_180 : decode cX9_threeYet 180 = .ok (.aload_n 0, 1) := by decide +kernel
theorem dX9_threeYet_181 : decode cX9_threeYet 181 = .ok (.getfield 53, 3) := by decide +kernel
theorem dX9_threeYet_184 : decode cX9_threeYet 184 = .ok (.sipush 169, 3) := by decide +kernel
theorem dX9_threeYet_187 : decode cX9_threeYet 187 = .ok (.iload 10, 2) := by decide +kernel
theorem dX9_threeYet_189 : decode cX9_threeYet 189 = .ok (.imul, 1) := by decide +kernel
theorem dX9_threeYet_190 : decode cX9_threeYet 190 = .ok (.bipush 13, 2) := by decide +kernel
theorem dX9_threeYet_192 : decode cX9_threeYet 192 = .ok (.iload 11, 2) := by decide +kernel
theorem dX9_threeYet_194 : decode cX9_threeYet 194 = .ok (.imul, 1) := by decide +kernel
theorem dX9_threeYet_195 : decode cX9_threeYet 195 = .ok (.iadd, 1) := by decide +kernel
theorem dX9_threeYet_196 : decode cX9_threeYet 196 = .ok (.iload 12, 2) := by decide +kernel
theorem dX9_threeYet_198 : decode cX9_threeYet 198 = .ok (.iadd, 1) := by decide +kernel
theorem dX9_threeYet_199 : decode cX9_threeYet 199 = .ok (.iaload, 1) := by decide +kernel
theorem dX9_threeYet_200 : decode cX9_threeYet 200 = .ok (.iadd, 1) := by decide +kernel
theorem dX9_threeYet_201 : decode cX9_threeYet 201 = .ok (.istore 13, 2) := by decide +kernel
theorem dX9_threeYet_203 : decode cX9_threeYet 203 = .ok (.iload 13, 2) := by decide +kernel
theorem dX9_threeYet_205 : decode cX9_threeYet 205 = .ok (.iload 8, 2) := by decide +kernel
theorem dX9_threeYet_207 : decode cX9_threeYet 207 = .ok (.if_icmp .ge 8, 3) := by decide +kernel
theorem dX9_threeYet_210 : decode cX9_threeYet 210 = .ok (.iload 13, 2) := by decide +kernel
theorem dX9_threeYet_212 : decode cX9_threeYet 212 = .ok (.goto 5, 3) := by decide +kernel
theorem dX9_threeYet_215 : decode cX9_threeYet 215 = .ok (.iload 8, 2) := by decide +kernel
theorem dX9_threeYet_217 : decode cX9_threeYet 217 = .ok (.istore 8, 2) := by decide +kernel
theorem dX9_threeYet_219 : decode cX9_threeYet 219 = .ok (.iinc 9 1, 3) := by decide +kernel
theorem dX9_threeYet_222 : decode cX9_threeYet 222 = .ok (.goto (-168), 3) := by decide +kernel
theorem dX9_threeYet_225 : decode cX9_threeYet 225 = .ok (.iload 8, 2) := by decide +kernel
theorem dX9_threeYet_227 : decode cX9_threeYet 227 = .ok (.ireturn, 1) := by decide +kernel
set_option maxRecDepth 20000 in
theorem ggX9_three_X9_isDay : GoodIn wsX9_three wsX9_isDay := goodIn_r _ [7, 8, 18, 19, 20, 21, 22, 23, 24, 25, 26, 27, 28, 29, 30, 31, 32, 33, 34, 35, 36, 37, 38, 39, 40, 41, 42, 43] (by decide +kernel) (by decide +kernel)
set_option maxRecDepth 20000 in
theorem gX9_three_X9_isDay : GoodIn wsX9_three (wsV RX9 105 RX9 yX9_isDay wsX9_isDay) := goodIn_app (goodIn_of _ (by decide +kernel)) ggX9_three_X9_isDay
set_option maxRecDepth 20000 in
theorem ggX9_three_X9_threeYet : GoodIn wsX9_three wsX9_threeYet := goodIn_r _ [12, 1, 2, 13, 14, 15, 6, 16, 17, 18, 19, 20, 21, 22, 23, 24, 25, 26, 27, 28, 29, 30, 31, 32, 33, 34, 35, 36, 37, 38, 39, 40, 41, 42, 43] (by decide +kernel) (by decide +kernel)
set_option maxRecDepth 20000 in
theorem gX9_three_X9_threeYet : GoodIn wsX9_three (wsV RX9 157 RX9 yX9_threeYet wsX9_threeYet) := goodIn_app (goodIn_of _ (by decide +kernel)) ggX9_three_X9_threeYet
theorem dX9_three_0 : decode cX9_three 0 = .ok (.aload_n 0, 1) := by decide +kernel
theorem dX9_three_1 : decode cX9_three 1 = .ok (.iload_n 1, 1) := by decide +kernel
theorem dX9_three_2 : decode cX9_three 2 = .ok (.invokevirtual 105, 3) := by decide +kernel
theorem dX9_three_5 : decode cX9_three 5 = .ok (.ifCond .eq 19, 3) := by decide +kernel
theorem dX9_three_8 : decode cX9_three 8 = .ok (.aload_n 0, 1) := by decide +kernel
theorem dX9_three_9 : decode cX9_three 9 = .ok (.iload_n 2, 1) := by decide +kernel
theorem dX9_three_10 : decode cX9_three 10 = .ok (.invokevirtual 105, 3) := by decide +kernel
theorem dX9_three_13 : decode cX9_three 13 = .ok (.ifCond .eq 11, 3) := by decide +kernel
theorem dX9_three_16 : decode cX9_three 16 = .ok (.aload_n 0, 1) := by decide +kernel
theorem dX9_three_17 : decode cX9_three 17 = .ok (.iload_n 3, 1) := by decide +kernel
theorem dX9_three_18 : decode cX9_three 18 = .ok (.invokevirtual 105, 3) := by decide +kernel
theorem dX9_three_21 : decode cX9_three 21 = .ok (.ifCond .ne 5, 3) := by decide +kernel
theorem dX9_three_24 : decode cX9_three 24 = .ok (.iconst (-1), 1) := by decide +kernel
theorem dX9_three_25 : decode cX9_three 25 = .ok (.ireturn, 1) := by decide +kernel
theorem dX9_three_26 : decode cX9_three 26 = .ok (.aload_n 0, 1) := by decide +kernel
theorem dX9_three_27 : decode cX9_three 27 = .ok (.getfield 22, 3) := by decide +kernel
theorem dX9_three_30 : decode cX9_three 30 = .ok (.iload_n 1, 1) := by decide +kernel
theorem dX9_three_31 : decode cX9_three 31 = .ok (.iaload, 1) := by decide +kernel
theorem dX9_three_32 : decode cX9_three 32 = .ok (.istore 4, 2) := by decide +kernel
theorem dX9_three_34 : decode cX9_three 34 = .ok (.iload 4, 2) := by decide +kernel
theorem dX9_three_36 : decode cX9_three 36 = .ok (.ifCond .lt 80, 3) := by decide +kernel
theorem dX9_three_39 : decode cX9_three 39 = .ok (.aload_n 0, 1) := by decide +kernel
theorem dX9_three_40 : decode cX9_three 40 = .ok (.getfield 22, 3) := by decide +kernel
theorem dX9_three_43 : decode cX9_three 43 = .ok (.iload_n 2, 1) := by decide +kernel
theorem dX9_three_44 : decode cX9_three 44 = .ok (.iaload, 1) := by decide +kernel
theorem dX9_three_45 : decode cX9_three 45 = .ok (.istore 5, 2) := by decide +kernel
theorem dX9_three_47 : decode cX9_three 47 = .ok (.iload 5, 2) := by decide +kernel
theorem dX9_three_49 : decode cX9_three 49 = .ok (.ifCond .lt 61, 3) := by decide +kernel
theorem dX9_three_52 : decode cX9_three 52 = .ok (.aload_n 0, 1) := by decide +kernel
theorem dX9_three_53 : decode cX9_three 53 = .ok (.getfield 22, 3) := by decide +kernel
theorem dX9_three_56 : decode cX9_three 56 = .ok (.iload_n 3, 1) := by decide +kernel
theorem dX9_three_57 : decode cX9_three 57 = .ok (.iaload, 1) := by decide +kernel
theorem dX9_three_58 : decode cX9_three 58 = .ok (.istore 6, 2) := by decide +kernel
theorem dX9_three_60 : decode cX9_three 60 = .ok (.iload 6, 2) := by decide +kernel
theorem dX9_three_62 : decode cX9_three 62 = .ok (.ifCond .lt 42, 3) := by decide +kernel
theorem dX9_three_65 : decode cX9_three 65 = .ok (.aload_n 0, 1) := by decide +kernel
theorem dX9_three_66 : decode cX9_three 66 = .ok (.getfield 53, 3) := by decide +kernel
theorem dX9_three_69 : decode cX9_three 69 = .ok (.sipush 169, 3) := by decide +kernel
theorem dX9_three_72 : decode cX9_three 72 = .ok (.iload 4, 2) := by decide +kernel
theorem dX9_three_74 : decode cX9_three 74 = .ok (.imul, 1) := by decide +kernel
theorem dX9_three_75 : decode cX9_three 75 = .ok (.bipush 13, 2) := by decide +kernel
theorem dX9_three_77 : decode cX9_three 77 = .ok (.iload 5, 2) := by decide +kernel
theorem dX9_three_79 : decode cX9_three 79 = .ok (.imul, 1) := by decide +kernel
theorem dX9_three_80 : decode cX9_three 80 = .ok (.iadd, 1) := by decide +kernel
theorem dX9_three_81 : decode cX9_three 81 = .ok (.iload 6, 2) := by decide +kernel
theorem dX9_three_83 : decode cX9_three 83 = .ok (.iadd, 1) := by decide +kernel
theorem dX9_three_84 : decode cX9_three 84 = .ok (.aload_n 0, 1) := by decide +kernel
theorem dX9_three_85 : decode cX9_three 85 = .ok (.iload_n 1, 1) := by decide +kernel
theorem dX9_three_86 : decode cX9_three 86 = .ok (.iload_n 2, 1) := by decide +kernel
theorem dX9_three_87 : decode cX9_three 87 = .ok (.iload_n 3, 1) := by decide +kernel
theorem dX9_three_88 : decode cX9_three 88 = .ok (.iload 4, 2) := by decide +kernel
theorem dX9_three_90 : decode cX9_three 90 = .ok (.iload 5, 2) := by decide +kernel
theorem dX9_three_92 : decode cX9_three 92 = .ok (.iload 6, 2) := by decide +kernel
theorem dX9_three_94 : decode cX9_three 94 = .ok (.invokevirtual 157, 3) := by decide +kernel
theorem dX9_three_97 : decode cX9_three 97 = .ok (.iastore, 1) := by decide +kernel
theorem dX9_three_98 : decode cX9_three 98 = .ok (.iinc 6 (-1), 3) := by decide +kernel
theorem dX9_three_101 : decode cX9_three 101 = .ok (.goto (-41), 3) := by decide +kernel
theorem dX9_three_104 : decode cX9_three 104 = .ok (.iinc 5 (-1), 3) := by decide +kernel
theorem dX9_three_107 : decode cX9_three 107 = .ok (.goto (-60), 3) := by decide +kernel
theorem dX9_three_110 : decode cX9_three 110 = .ok (.iinc 4 (-1), 3) := by decide +kernel
theorem dX9_three_113 : decode cX9_three 113 = .ok (.goto (-79), 3) := by decide +kernel
theorem dX9_three_116 : decode cX9_three 116 = .ok (.aload_n 0, 1) := by decide +kernel
theorem dX9_three_117 : decode cX9_three 117 = .ok (.getfield 53, 3) := by decide +kernel
theorem dX9_three_120 : decode cX9_three 120 = .ok (.iconst 0, 1) := by decide +kernel
theorem dX9_three_121 : decode cX9_three 121 = .ok (.iaload, 1) := by decide +kernel
theorem dX9_three_122 : decode cX9_three 122 = .ok (.ireturn, 1) := by decide +kernel
set_option maxRecDepth 20000 in
theorem ggX9_behind_X9_wordAt : GoodIn wsX9_behind wsX9_wordAt := goodIn_r _ [6, 7, 8, 9, 10, 11, 12, 13, 14, 15, 16, 17, 18, 19, 20, 21, 22, 23, 24, 25, 26, 27, 28, 29, 30, 31, 32, 33] (by decide +kernel) (by decide +kernel)
set_option maxRecDepth 20000 in
theorem gX9_behind_X9_wordAt : GoodIn wsX9_behind (wsV RX9 108 RX9 yX9_wordAt wsX9_wordAt) := goodIn_app (goodIn_of _ (by decide +kernel)) ggX9_behind_X9_wordAt
theorem dX9_behind_0 : decode cX9_behind 0 = .ok (.iload_n 2, 1) := by decide +kernel
theorem dX9_behind_1 : decode cX9_behind 1 = .ok (.istore 4, 2) := by decide +kernel
theorem dX9_behind_3 : decode cX9_behind 3 = .ok (.iload 4, 2) := by decide +kernel
theorem dX9_behind_5 : decode cX9_behind 5 = .ok (.aload_n 0, 1) := by decide +kernel
theorem dX9_behind_6 : decode cX9_behind 6 = .ok (.getfield 22, 3) := by decide +kernel
theorem dX9_behind_9 : decode cX9_behind 9 = .ok (.iload_n 1, 1) := by decide +kernel
theorem dX9_behind_10 : decode cX9_behind 10 = .ok (.iaload, 1) := by decide +kernel
theorem dX9_behind_11 : decode cX9_behind 11 = .ok (.if_icmp .ge 25, 3) := by decide +kernel
theorem dX9_behind_14 : decode cX9_behind 14 = .ok (.aload_n 0, 1) := by decide +kernel
theorem dX9_behind_15 : decode cX9_behind 15 = .ok (.iload_n 1, 1) := by decide +kernel
theorem dX9_behind_16 : decode cX9_behind 16 = .ok (.iload 4, 2) := by decide +kernel
theorem dX9_behind_18 : decode cX9_behind 18 = .ok (.invokevirtual 108, 3) := by decide +kernel
theorem dX9_behind_21 : decode cX9_behind 21 = .ok (.iload_n 3, 1) := by decide +kernel
theorem dX9_behind_22 : decode cX9_behind 22 = .ok (.if_icmp .ne 8, 3) := by decide +kernel
theorem dX9_behind_25 : decode cX9_behind 25 = .ok (.iload 4, 2) := by decide +kernel
theorem dX9_behind_27 : decode cX9_behind 27 = .ok (.iconst 1, 1) := by decide +kernel
theorem dX9_behind_28 : decode cX9_behind 28 = .ok (.iadd, 1) := by decide +kernel
theorem dX9_behind_29 : decode cX9_behind 29 = .ok (.ireturn, 1) := by decide +kernel
theorem dX9_behind_30 : decode cX9_behind 30 = .ok (.iinc 4 1, 3) := by decide +kernel
theorem dX9_behind_33 : decode cX9_behind 33 = .ok (.goto (-30), 3) := by decide +kernel
theorem dX9_behind_36 : decode cX9_behind 36 = .ok (.bipush (-9), 2) := by decide +kernel
theorem dX9_behind_38 : decode cX9_behind 38 = .ok (.ireturn, 1) := by decide +kernel
set_option maxRecDepth 20000 in
theorem ggX9_lengthen_X9_behind : GoodIn wsX9_lengthen wsX9_behind := goodIn_r _ [8, 1, 9, 10, 11, 7, 12, 13, 17, 18, 19, 20, 21, 22, 23, 24, 25, 26, 27, 28, 29, 30, 31, 32, 33, 34, 35, 36, 37, 38, 39, 40, 41, 42] (by decide +kernel) (by decide +kernel)
set_option maxRecDepth 20000 in
theorem gX9_lengthen_X9_behind : GoodIn wsX9_lengthen (wsV RX9 161 RX9 yX9_behind wsX9_behind) := goodIn_app (goodIn_of _ (by decide +kernel)) ggX9_lengthen_X9_behind
set_option maxRecDepth 20000 in
theorem ggX9_lengthen_X9_wordAt : GoodIn wsX9_lengthen wsX9_wordAt := goodIn_r _ [12, 13, 17, 18, 19, 20, 21, 22, 23, 24, 25, 26, 27, 28, 29, 30, 31, 32, 33, 34, 35, 36, 37, 38, 39, 40, 41, 42] (by decide +kernel) (by decide +kernel)
set_option maxRecDepth 20000 in
theorem gX9_lengthen_X9_wordAt : GoodIn wsX9_lengthen (wsV RX9 108 RX9 yX9_wordAt wsX9_wordAt) := goodIn_app (goodIn_of _ (by decide +kernel)) ggX9_lengthen_X9_wordAt
set_option maxRecDepth 20000 in
theorem ggX9_lengthen_X9_spot : GoodIn wsX9_lengthen wsX9_spot := goodIn_r _ [16] (by decide +kernel) (by decide +kernel)
set_option maxRecDepth 20000 in
theorem gX9_lengthen_X9_spot : GoodIn wsX9_lengthen (va_wsS RX9 140 yX9_spot wsX9_spot) := goodIn_app (goodIn_of _ (by decide +kernel)) ggX9_lengthen_X9_spot
theorem dX9_lengthen_0 : decode cX9_lengthen 0 = .ok (.iconst 0, 1) := by decide +kernel
theorem dX9_lengthen_1 : decode cX9_lengthen 1 = .ok (.istore 4, 2) := by decide +kernel
theorem dX9_lengthen_3 : decode cX9_lengthen 3 = .ok (.iload 4, 2) := by decide +kernel
theorem dX9_lengthen_5 : decode cX9_lengthen 5 = .ok (.iload_n 3, 1) := by decide +kernel
theorem dX9_lengthen_6 : decode cX9_lengthen 6 = .ok (.if_icmp .gt 130, 3) := by decide +kernel
theorem dX9_lengthen_9 : decode cX9_lengthen 9 = .ok (.iconst 0, 1) := by decide +kernel
theorem dX9_lengthen_10 : decode cX9_lengthen 10 = .ok (.istore 5, 2) := by decide +kernel
theorem dX9_lengthen_12 : decode cX9_lengthen 12 = .ok (.iload 5, 2) := by decide +kernel
theorem dX9_lengthen_14 : decode cX9_lengthen 14 = .ok (.aload_n 0, 1) := by decide +kernel
theorem dX9_lengthen_15 : decode cX9_lengthen 15 = .ok (.getfield 22, 3) := by decide +kernel
theorem dX9_lengthen_18 : decode cX9_lengthen 18 = .ok (.iload_n 2, 1) := by decide +kernel
theorem dX9_lengthen_19 : decode cX9_lengthen 19 = .ok (.iaload, 1) := by decide +kernel
theorem dX9_lengthen_20 : decode cX9_lengthen 20 = .ok (.if_icmp .gt 110, 3) := by decide +kernel
theorem dX9_lengthen_23 : decode cX9_lengthen 23 = .ok (.lconst 0, 1) := by decide +kernel
theorem dX9_lengthen_24 : decode cX9_lengthen 24 = .ok (.lstore 6, 2) := by decide +kernel
theorem dX9_lengthen_26 : decode cX9_lengthen 26 = .ok (.iconst 0, 1) := by decide +kernel
theorem dX9_lengthen_27 : decode cX9_lengthen 27 = .ok (.istore 8, 2) := by decide +kernel
theorem dX9_lengthen_29 : decode cX9_lengthen 29 = .ok (.iload 8, 2) := by decide +kernel
theorem dX9_lengthen_31 : decode cX9_lengthen 31 = .ok (.bipush 8, 2) := by decide +kernel
theorem dX9_lengthen_33 : decode cX9_lengthen 33 = .ok (.if_icmp .ge 77, 3) := by decide +kernel
theorem dX9_lengthen_36 : decode cX9_lengthen 36 = .ok (.aload_n 0, 1) := by decide +kernel
theorem dX9_lengthen_37 : decode cX9_lengthen 37 = .ok (.iload_n 2, 1) := by decide +kernel
theorem dX9_lengthen_38 : decode cX9_lengthen 38 = .ok (.iload 5, 2) := by decide +kernel
theorem dX9_lengthen_40 : decode cX9_lengthen 40 = .ok (.iload 8, 2) := by decide +kernel
theorem dX9_lengthen_42 : decode cX9_lengthen 42 = .ok (.invokevirtual 161, 3) := by decide +kernel
theorem dX9_lengthen_45 : decode cX9_lengthen 45 = .ok (.istore 9, 2) := by decide +kernel
theorem dX9_lengthen_47 : decode cX9_lengthen 47 = .ok (.iload 4, 2) := by decide +kernel
theorem dX9_lengthen_49 : decode cX9_lengthen 49 = .ok (.iload_n 3, 1) := by decide +kernel
theorem dX9_lengthen_50 : decode cX9_lengthen 50 = .ok (.if_icmp .ge 22, 3) := by decide +kernel
theorem dX9_lengthen_53 : decode cX9_lengthen 53 = .ok (.aload_n 0, 1) := by decide +kernel
theorem dX9_lengthen_54 : decode cX9_lengthen 54 = .ok (.iload_n 1, 1) := by decide +kernel
theorem dX9_lengthen_55 : decode cX9_lengthen 55 = .ok (.iload 4, 2) := by decide +kernel
theorem dX9_lengthen_57 : decode cX9_lengthen 57 = .ok (.invokevirtual 108, 3) := by decide +kernel
theorem dX9_lengthen_60 : decode cX9_lengthen 60 = .ok (.iload 8, 2) := by decide +kernel
theorem dX9_lengthen_62 : decode cX9_lengthen 62 = .ok (.if_icmp .ne 10, 3) := by decide +kernel
theorem dX9_lengthen_65 : decode cX9_lengthen 65 = .ok (.iload 4, 2) := by decide +kernel
theorem dX9_lengthen_67 : decode cX9_lengthen 67 = .ok (.iconst 1, 1) := by decide +kernel
theorem dX9_lengthen_68 : decode cX9_lengthen 68 = .ok (.iadd, 1) := by decide +kernel
theorem dX9_lengthen_69 : decode cX9_lengthen 69 = .ok (.goto 5, 3) := by decide +kernel
theorem dX9_lengthen_72 : decode cX9_lengthen 72 = .ok (.iload 4, 2) := by decide +kernel
theorem dX9_lengthen_74 : decode cX9_lengthen 74 = .ok (.istore 10, 2) := by decide +kernel
theorem dX9_lengthen_76 : decode cX9_lengthen 76 = .ok (.lload 6, 2) := by decide +kernel
theorem dX9_lengthen_78 : decode cX9_lengthen 78 = .ok (.iload 9, 2) := by decide +kernel
theorem dX9_lengthen_80 : decode cX9_lengthen 80 = .ok (.bipush (-9), 2) := by decide +kernel
theorem dX9_lengthen_82 : decode cX9_lengthen 82 = .ok (.if_icmp .ne 7, 3) := by decide +kernel
theorem dX9_lengthen_85 : decode cX9_lengthen 85 = .ok (.lconst 0, 1) := by decide +kernel
theorem dX9_lengthen_86 : decode cX9_lengthen 86 = .ok (.goto 15, 3) := by decide +kernel
theorem dX9_lengthen_89 : decode cX9_lengthen 89 = .ok (.aload_n 0, 1) := by decide +kernel
theorem dX9_lengthen_90 : decode cX9_lengthen 90 = .ok (.getfield 56, 3) := by decide +kernel
theorem dX9_lengthen_93 : decode cX9_lengthen 93 = .ok (.iload 10, 2) := by decide +kernel
theorem dX9_lengthen_95 : decode cX9_lengthen 95 = .ok (.iload 9, 2) := by decide +kernel
theorem dX9_lengthen_97 : decode cX9_lengthen 97 = .ok (.invokestatic 140, 3) := by decide +kernel
theorem dX9_lengthen_100 : decode cX9_lengthen 100 = .ok (.laload, 1) := by decide +kernel
theorem dX9_lengthen_101 : decode cX9_lengthen 101 = .ok (.ladd, 1) := by decide +kernel
theorem dX9_lengthen_102 : decode cX9_lengthen 102 = .ok (.lstore 6, 2) := by decide +kernel
theorem dX9_lengthen_104 : decode cX9_lengthen 104 = .ok (.iinc 8 1, 3) := by decide +kernel
theorem dX9_lengthen_107 : decode cX9_lengthen 107 = .ok (.goto (-78), 3) := by decide +kernel
theorem dX9_lengthen_110 : decode cX9_lengthen 110 = .ok (.aload_n 0, 1) := by decide +kernel
theorem dX9_lengthen_111 : decode cX9_lengthen 111 = .ok (.getfield 59, 3) := by decide +kernel
theorem dX9_lengthen_114 : decode cX9_lengthen 114 = .ok (.iload 4, 2) := by decide +kernel
theorem dX9_lengthen_116 : decode cX9_lengthen 116 = .ok (.iload 5, 2) := by decide +kernel
theorem dX9_lengthen_118 : decode cX9_lengthen 118 = .ok (.invokestatic 140, 3) := by decide +kernel
theorem dX9_lengthen_121 : decode cX9_lengthen 121 = .ok (.lload 6, 2) := by decide +kernel
theorem dX9_lengthen_123 : decode cX9_lengthen 123 = .ok (.lastore, 1) := by decide +kernel
theorem dX9_lengthen_124 : decode cX9_lengthen 124 = .ok (.iinc 5 1, 3) := by decide +kernel
theorem dX9_lengthen_127 : decode cX9_lengthen 127 = .ok (.goto (-115), 3) := by decide +kernel
theorem dX9_lengthen_130 : decode cX9_lengthen 130 = .ok (.iinc 4 1, 3) := by decide +kernel
theorem dX9_lengthen_133 : decode cX9_lengthen 133 = .ok (.goto (-130), 3) := by decide +kernel
theorem dX9_lengthen_136 : decode cX9_lengthen 136 = .ok (.iconst 0, 1) := by decide +kernel
theorem dX9_lengthen_137 : decode cX9_lengthen 137 = .ok (.istore 4, 2) := by decide +kernel
theorem dX9_lengthen_139 : decode cX9_lengthen 139 = .ok (.iload 4, 2) := by decide +kernel
theorem dX9_lengthen_141 : decode cX9_lengthen 141 = .ok (.sipush 169, 3) := by decide +kernel
theorem dX9_lengthen_144 : decode cX9_lengthen 144 = .ok (.if_icmp .ge 23, 3) := by decide +kernel
theorem dX9_lengthen_147 : decode cX9_lengthen 147 = .ok (.aload_n 0, 1) := by decide +kernel
theorem dX9_lengthen_148 : decode cX9_lengthen 148 = .ok (.getfield 56, 3) := by decide +kernel
theorem dX9_lengthen_151 : decode cX9_lengthen 151 = .ok (.iload 4, 2) := by decide +kernel
theorem dX9_lengthen_153 : decode cX9_lengthen 153 = .ok (.aload_n 0, 1) := by decide +kernel
theorem dX9_lengthen_154 : decode cX9_lengthen 154 = .ok (.getfield 59, 3) := by decide +kernel
theorem dX9_lengthen_157 : decode cX9_lengthen 157 = .ok (.iload 4, 2) := by decide +kernel
theorem dX9_lengthen_159 : decode cX9_lengthen 159 = .ok (.laload, 1) := by decide +kernel
theorem dX9_lengthen_160 : decode cX9_lengthen 160 = .ok (.lastore, 1) := by decide +kernel
theorem dX9_lengthen_161 : decode cX9_lengthen 161 = .ok (.iinc 4 1, 3) := by decide +kernel
theorem dX9_lengthen_164 : decode cX9_lengthen 164 = .ok (.goto (-25), 3) := by decide +kernel
theorem dX9_lengthen_167 : decode cX9_lengthen 167 = .ok (.return_, 1) := by decide +kernel
set_option maxRecDepth 20000 in
theorem ggX9_between_X9_lengthen : GoodIn wsX9_between wsX9_lengthen := goodIn_r _ [6, 7, 1, 8, 9, 10, 11, 5, 12, 13, 14, 15, 16, 17, 18, 19, 20, 21, 22, 23, 24, 25, 26, 27, 28, 29, 30, 31, 32, 33, 34, 35, 36, 37, 38, 39, 40, 41, 42, 43, 44, 45, 46] (by decide +kernel) (by decide +kernel)
set_option maxRecDepth 20000 in
theorem gX9_between_X9_lengthen : GoodIn wsX9_between (wsV RX9 164 RX9 yX9_lengthen wsX9_lengthen) := goodIn_app (goodIn_of _ (by decide +kernel)) ggX9_between_X9_lengthen
theorem dX9_between_0 : decode cX9_between 0 = .ok (.iconst 0, 1) := by decide +kernel
theorem dX9_between_1 : decode cX9_between 1 = .ok (.istore 5, 2) := by decide +kernel
theorem dX9_between_3 : decode cX9_between 3 = .ok (.iload 5, 2) := by decide +kernel
theorem dX9_between_5 : decode cX9_between 5 = .ok (.sipush 169, 3) := by decide +kernel
theorem dX9_between_8 : decode cX9_between 8 = .ok (.if_icmp .ge 30, 3) := by decide +kernel
theorem dX9_between_11 : decode cX9_between 11 = .ok (.aload_n 0, 1) := by decide +kernel
theorem dX9_between_12 : decode cX9_between 12 = .ok (.getfield 56, 3) := by decide +kernel
theorem dX9_between_15 : decode cX9_between 15 = .ok (.iload 5, 2) := by decide +kernel
theorem dX9_between_17 : decode cX9_between 17 = .ok (.iload 5, 2) := by decide +kernel
theorem dX9_between_19 : decode cX9_between 19 = .ok (.bipush 13, 2) := by decide +kernel
theorem dX9_between_21 : decode cX9_between 21 = .ok (.idiv, 1) := by decide +kernel
theorem dX9_between_22 : decode cX9_between 22 = .ok (.iload_n 3, 1) := by decide +kernel
theorem dX9_between_23 : decode cX9_between 23 = .ok (.if_icmp .ne 7, 3) := by decide +kernel
theorem dX9_between_26 : decode cX9_between 26 = .ok (.lconst 1, 1) := by decide +kernel
theorem dX9_between_27 : decode cX9_between 27 = .ok (.goto 4, 3) := by decide +kernel
theorem dX9_between_30 : decode cX9_between 30 = .ok (.lconst 0, 1) := by decide +kernel
theorem dX9_between_31 : decode cX9_between 31 = .ok (.lastore, 1) := by decide +kernel
theorem dX9_between_32 : decode cX9_between 32 = .ok (.iinc 5 1, 3) := by decide +kernel
theorem dX9_between_35 : decode cX9_between 35 = .ok (.goto (-32), 3) := by decide +kernel
theorem dX9_between_38 : decode cX9_between 38 = .ok (.iconst 0, 1) := by decide +kernel
theorem dX9_between_39 : decode cX9_between 39 = .ok (.istore 5, 2) := by decide +kernel
theorem dX9_between_41 : decode cX9_between 41 = .ok (.iload 5, 2) := by decide +kernel
theorem dX9_between_43 : decode cX9_between 43 = .ok (.iload 4, 2) := by decide +kernel
theorem dX9_between_45 : decode cX9_between 45 = .ok (.if_icmp .ge 16, 3) := by decide +kernel
theorem dX9_between_48 : decode cX9_between 48 = .ok (.aload_n 0, 1) := by decide +kernel
theorem dX9_between_49 : decode cX9_between 49 = .ok (.iload_n 1, 1) := by decide +kernel
theorem dX9_between_50 : decode cX9_between 50 = .ok (.iload_n 2, 1) := by decide +kernel
theorem dX9_between_51 : decode cX9_between 51 = .ok (.iload_n 3, 1) := by decide +kernel
theorem dX9_between_52 : decode cX9_between 52 = .ok (.invokevirtual 164, 3) := by decide +kernel
theorem dX9_between_55 : decode cX9_between 55 = .ok (.iinc 5 1, 3) := by decide +kernel
theorem dX9_between_58 : decode cX9_between 58 = .ok (.goto (-17), 3) := by decide +kernel
theorem dX9_between_61 : decode cX9_between 61 = .ok (.aload_n 0, 1) := by decide +kernel
theorem dX9_between_62 : decode cX9_between 62 = .ok (.getfield 56, 3) := by decide +kernel
theorem dX9_between_65 : decode cX9_between 65 = .ok (.iconst 0, 1) := by decide +kernel
theorem dX9_between_66 : decode cX9_between 66 = .ok (.laload, 1) := by decide +kernel
theorem dX9_between_67 : decode cX9_between 67 = .ok (.lreturn, 1) := by decide +kernel
set_option maxRecDepth 20000 in
theorem ggX9_lostDay_X9_isDay : GoodIn wsX9_lostDay wsX9_isDay := goodIn_r _ [7, 8, 34, 35, 36, 37, 38, 39, 40, 41, 42, 43, 44, 45, 46, 47, 48, 49, 50, 51, 52, 53, 54, 55, 56, 57, 58, 59] (by decide +kernel) (by decide +kernel)
set_option maxRecDepth 20000 in
theorem gX9_lostDay_X9_isDay : GoodIn wsX9_lostDay (wsV RX9 105 RX9 yX9_isDay wsX9_isDay) := goodIn_app (goodIn_of _ (by decide +kernel)) ggX9_lostDay_X9_isDay
set_option maxRecDepth 20000 in
theorem ggX9_lostDay_X9_inside : GoodIn wsX9_lostDay wsX9_inside := goodIn_r _ [11] (by decide +kernel) (by decide +kernel)
set_option maxRecDepth 20000 in
theorem gX9_lostDay_X9_inside : GoodIn wsX9_lostDay (va_wsS RX9 71 yX9_inside wsX9_inside) := goodIn_app (goodIn_of _ (by decide +kernel)) ggX9_lostDay_X9_inside
set_option maxRecDepth 20000 in
theorem ggX9_lostDay_X9_between : GoodIn wsX9_lostDay wsX9_between := goodIn_r _ [15, 16, 17, 18, 19, 6, 20, 2, 21, 22, 23, 24, 25, 26, 27, 28, 29, 30, 31, 32, 33, 34, 35, 36, 37, 38, 39, 40, 41, 42, 43, 44, 45, 46, 47, 48, 49, 50, 51, 52, 53, 54, 55, 56, 57, 58, 59] (by decide +kernel) (by decide +kernel)
set_option maxRecDepth 20000 in
theorem gX9_lostDay_X9_between : GoodIn wsX9_lostDay (wsV RX9 168 RX9 yX9_between wsX9_between) := goodIn_app (goodIn_of _ (by decide +kernel)) ggX9_lostDay_X9_between
theorem dX9_lostDay_0 : decode cX9_lostDay 0 = .ok (.aload_n 0, 1) := by decide +kernel
theorem dX9_lostDay_1 : decode cX9_lostDay 1 = .ok (.iload_n 1, 1) := by decide +kernel
theorem dX9_lostDay_2 : decode cX9_lostDay 2 = .ok (.invokevirtual 105, 3) := by decide +kernel
theorem dX9_lostDay_5 : decode cX9_lostDay 5 = .ok (.ifCond .eq 21, 3) := by decide +kernel
theorem dX9_lostDay_8 : decode cX9_lostDay 8 = .ok (.aload_n 0, 1) := by decide +kernel
theorem dX9_lostDay_9 : decode cX9_lostDay 9 = .ok (.iload_n 2, 1) := by decide +kernel
theorem dX9_lostDay_10 : decode cX9_lostDay 10 = .ok (.invokevirtual 105, 3) := by decide +kernel
theorem dX9_lostDay_13 : decode cX9_lostDay 13 = .ok (.ifCond .eq 13, 3) := by decide +kernel
theorem dX9_lostDay_16 : decode cX9_lostDay 16 = .ok (.iload_n 3, 1) := by decide +kernel
theorem dX9_lostDay_17 : decode cX9_lostDay 17 = .ok (.iconst 0, 1) := by decide +kernel
theorem dX9_lostDay_18 : decode cX9_lostDay 18 = .ok (.bipush 12, 2) := by decide +kernel
theorem dX9_lostDay_20 : decode cX9_lostDay 20 = .ok (.invokestatic 71, 3) := by decide +kernel
theorem dX9_lostDay_23 : decode cX9_lostDay 23 = .ok (.ifCond .ne 7, 3) := by decide +kernel
theorem dX9_lostDay_26 : decode cX9_lostDay 26 = .ok (.ldc2_w 69, 3) := by decide +kernel
theorem dX9_lostDay_29 : decode cX9_lostDay 29 = .ok (.lreturn, 1) := by decide +kernel
theorem dX9_lostDay_30 : decode cX9_lostDay 30 = .ok (.aload_n 0, 1) := by decide +kernel
theorem dX9_lostDay_31 : decode cX9_lostDay 31 = .ok (.iload_n 1, 1) := by decide +kernel
theorem dX9_lostDay_32 : decode cX9_lostDay 32 = .ok (.iload_n 2, 1) := by decide +kernel
theorem dX9_lostDay_33 : decode cX9_lostDay 33 = .ok (.aload_n 0, 1) := by decide +kernel
theorem dX9_lostDay_34 : decode cX9_lostDay 34 = .ok (.getfield 22, 3) := by decide +kernel
theorem dX9_lostDay_37 : decode cX9_lostDay 37 = .ok (.iload_n 1, 1) := by decide +kernel
theorem dX9_lostDay_38 : decode cX9_lostDay 38 = .ok (.iaload, 1) := by decide +kernel
theorem dX9_lostDay_39 : decode cX9_lostDay 39 = .ok (.iload_n 3, 1) := by decide +kernel
theorem dX9_lostDay_40 : decode cX9_lostDay 40 = .ok (.invokevirtual 168, 3) := by decide +kernel
theorem dX9_lostDay_43 : decode cX9_lostDay 43 = .ok (.lreturn, 1) := by decide +kernel
set_option maxRecDepth 20000 in
theorem ggX9_roots_X9_isDay : GoodIn wsX9_roots wsX9_isDay := goodIn_r _ [6, 7, 34, 35, 36, 37, 38, 39, 40, 41, 42, 43, 44, 45, 46, 47, 48, 49, 50, 51, 52, 53, 54, 55, 56, 57, 58, 59] (by decide +kernel) (by decide +kernel)
set_option maxRecDepth 20000 in
theorem gX9_roots_X9_isDay : GoodIn wsX9_roots (wsV RX9 105 RX9 yX9_isDay wsX9_isDay) := goodIn_app (goodIn_of _ (by decide +kernel)) ggX9_roots_X9_isDay
set_option maxRecDepth 20000 in
theorem ggX9_roots_X9_inside : GoodIn wsX9_roots wsX9_inside := goodIn_r _ [10] (by decide +kernel) (by decide +kernel)
set_option maxRecDepth 20000 in
theorem gX9_roots_X9_inside : GoodIn wsX9_roots (va_wsS RX9 71 yX9_inside wsX9_inside) := goodIn_app (goodIn_of _ (by decide +kernel)) ggX9_roots_X9_inside
set_option maxRecDepth 20000 in
theorem ggX9_roots_X9_between : GoodIn wsX9_roots wsX9_between := goodIn_r _ [14, 15, 16, 17, 18, 5, 19, 20, 21, 22, 23, 24, 25, 26, 27, 28, 29, 30, 31, 32, 33, 34, 35, 36, 37, 38, 39, 40, 41, 42, 43, 44, 45, 46, 47, 48, 49, 50, 51, 52, 53, 54, 55, 56, 57, 58, 59] (by decide +kernel) (by decide +kernel)
set_option maxRecDepth 20000 in
theorem gX9_roots_X9_between : GoodIn wsX9_roots (wsV RX9 168 RX9 yX9_between wsX9_between) := goodIn_app (goodIn_of _ (by decide +kernel)) ggX9_roots_X9_between
theorem dX9_roots_0 : decode cX9_roots 0 = .ok (.aload_n 0, 1) := by decide +kernel
theorem dX9_roots_1 : decode cX9_roots 1 = .ok (.iload_n 1, 1) := by decide +kernel
theorem dX9_roots_2 : decode cX9_roots 2 = .ok (.invokevirtual 105, 3) := by decide +kernel
theorem dX9_roots_5 : decode cX9_roots 5 = .ok (.ifCond .eq 24, 3) := by decide +kernel
theorem dX9_roots_8 : decode cX9_roots 8 = .ok (.iload_n 2, 1) := by decide +kernel
theorem dX9_roots_9 : decode cX9_roots 9 = .ok (.iconst 0, 1) := by decide +kernel
theorem dX9_roots_10 : decode cX9_roots 10 = .ok (.bipush 12, 2) := by decide +kernel
theorem dX9_roots_12 : decode cX9_roots 12 = .ok (.invokestatic 71, 3) := by decide +kernel
theorem dX9_roots_15 : decode cX9_roots 15 = .ok (.ifCond .eq 14, 3) := by decide +kernel
theorem dX9_roots_18 : decode cX9_roots 18 = .ok (.aload_n 0, 1) := by decide +kernel
theorem dX9_roots_19 : decode cX9_roots 19 = .ok (.iload_n 1, 1) := by decide +kernel
theorem dX9_roots_20 : decode cX9_roots 20 = .ok (.iload_n 1, 1) := by decide +kernel
theorem dX9_roots_21 : decode cX9_roots 21 = .ok (.iconst 0, 1) := by decide +kernel
theorem dX9_roots_22 : decode cX9_roots 22 = .ok (.iload_n 2, 1) := by decide +kernel
theorem dX9_roots_23 : decode cX9_roots 23 = .ok (.invokevirtual 168, 3) := by decide +kernel
theorem dX9_roots_26 : decode cX9_roots 26 = .ok (.goto 6, 3) := by decide +kernel
theorem dX9_roots_29 : decode cX9_roots 29 = .ok (.ldc2_w 69, 3) := by decide +kernel
theorem dX9_roots_32 : decode cX9_roots 32 = .ok (.lreturn, 1) := by decide +kernel
set_option maxRecDepth 20000 in
theorem ggX9_breaths_X9_isDay : GoodIn wsX9_breaths wsX9_isDay := goodIn_r _ [8, 9, 18, 19, 20, 21, 22, 23, 24, 25, 26, 27, 28, 29, 30, 31, 32, 33, 34, 35, 36, 37, 38, 39, 40, 41, 42, 43] (by decide +kernel) (by decide +kernel)
set_option maxRecDepth 20000 in
theorem gX9_breaths_X9_isDay : GoodIn wsX9_breaths (wsV RX9 105 RX9 yX9_isDay wsX9_isDay) := goodIn_app (goodIn_of _ (by decide +kernel)) ggX9_breaths_X9_isDay
set_option maxRecDepth 20000 in
theorem ggX9_breaths_X9_inside : GoodIn wsX9_breaths wsX9_inside := goodIn_r _ [12] (by decide +kernel) (by decide +kernel)
set_option maxRecDepth 20000 in
theorem gX9_breaths_X9_inside : GoodIn wsX9_breaths (va_wsS RX9 71 yX9_inside wsX9_inside) := goodIn_app (goodIn_of _ (by decide +kernel)) ggX9_breaths_X9_inside
set_option maxRecDepth 20000 in
theorem ggX9_breaths_X9_wordAt : GoodIn wsX9_breaths wsX9_wordAt := goodIn_r _ [16, 17, 18, 19, 20, 21, 22, 23, 24, 25, 26, 27, 28, 29, 30, 31, 32, 33, 34, 35, 36, 37, 38, 39, 40, 41, 42, 43] (by decide +kernel) (by decide +kernel)
set_option maxRecDepth 20000 in
theorem gX9_breaths_X9_wordAt : GoodIn wsX9_breaths (wsV RX9 108 RX9 yX9_wordAt wsX9_wordAt) := goodIn_app (goodIn_of _ (by decide +kernel)) ggX9_breaths_X9_wordAt
theorem dX9_breaths_0 : decode cX9_breaths 0 = .ok (.aload_n 0, 1) := by decide +kernel
theorem dX9_breaths_1 : decode cX9_breaths 1 = .ok (.iload_n 1, 1) := by decide +kernel
theorem dX9_breaths_2 : decode cX9_breaths 2 = .ok (.invokevirtual 105, 3) := by decide +kernel
theorem dX9_breaths_5 : decode cX9_breaths 5 = .ok (.ifCond .ne 5, 3) := by decide +kernel
theorem dX9_breaths_8 : decode cX9_breaths 8 = .ok (.iconst (-1), 1) := by decide +kernel
theorem dX9_breaths_9 : decode cX9_breaths 9 = .ok (.ireturn, 1) := by decide +kernel
theorem dX9_breaths_10 : decode cX9_breaths 10 = .ok (.iload_n 2, 1) := by decide +kernel
theorem dX9_breaths_11 : decode cX9_breaths 11 = .ok (.iconst 1, 1) := by decide +kernel
theorem dX9_breaths_12 : decode cX9_breaths 12 = .ok (.bipush 12, 2) := by decide +kernel
theorem dX9_breaths_14 : decode cX9_breaths 14 = .ok (.invokestatic 71, 3) := by decide +kernel
theorem dX9_breaths_17 : decode cX9_breaths 17 = .ok (.ifCond .ne 6, 3) := by decide +kernel
theorem dX9_breaths_20 : decode cX9_breaths 20 = .ok (.bipush (-2), 2) := by decide +kernel
theorem dX9_breaths_22 : decode cX9_breaths 22 = .ok (.ireturn, 1) := by decide +kernel
theorem dX9_breaths_23 : decode cX9_breaths 23 = .ok (.aload_n 0, 1) := by decide +kernel
theorem dX9_breaths_24 : decode cX9_breaths 24 = .ok (.getfield 22, 3) := by decide +kernel
theorem dX9_breaths_27 : decode cX9_breaths 27 = .ok (.iload_n 1, 1) := by decide +kernel
theorem dX9_breaths_28 : decode cX9_breaths 28 = .ok (.iaload, 1) := by decide +kernel
theorem dX9_breaths_29 : decode cX9_breaths 29 = .ok (.istore_n 3, 1) := by decide +kernel
theorem dX9_breaths_30 : decode cX9_breaths 30 = .ok (.aload_n 0, 1) := by decide +kernel
theorem dX9_breaths_31 : decode cX9_breaths 31 = .ok (.getfield 62, 3) := by decide +kernel
theorem dX9_breaths_34 : decode cX9_breaths 34 = .ok (.iconst 0, 1) := by decide +kernel
theorem dX9_breaths_35 : decode cX9_breaths 35 = .ok (.iconst 0, 1) := by decide +kernel
theorem dX9_breaths_36 : decode cX9_breaths 36 = .ok (.iastore, 1) := by decide +kernel
theorem dX9_breaths_37 : decode cX9_breaths 37 = .ok (.iconst 1, 1) := by decide +kernel
theorem dX9_breaths_38 : decode cX9_breaths 38 = .ok (.istore 4, 2) := by decide +kernel
theorem dX9_breaths_40 : decode cX9_breaths 40 = .ok (.iload 4, 2) := by decide +kernel
theorem dX9_breaths_42 : decode cX9_breaths 42 = .ok (.iload_n 3, 1) := by decide +kernel
theorem dX9_breaths_43 : decode cX9_breaths 43 = .ok (.if_icmp .gt 164, 3) := by decide +kernel
theorem dX9_breaths_46 : decode cX9_breaths 46 = .ok (.aload_n 0, 1) := by decide +kernel
theorem dX9_breaths_47 : decode cX9_breaths 47 = .ok (.getfield 62, 3) := by decide +kernel
theorem dX9_breaths_50 : decode cX9_breaths 50 = .ok (.iload 4, 2) := by decide +kernel
theorem dX9_breaths_52 : decode cX9_breaths 52 = .ok (.bipush (-9), 2) := by decide +kernel
theorem dX9_breaths_54 : decode cX9_breaths 54 = .ok (.iastore, 1) := by decide +kernel
theorem dX9_breaths_55 : decode cX9_breaths 55 = .ok (.iload 4, 2) := by decide +kernel
theorem dX9_breaths_57 : decode cX9_breaths 57 = .ok (.iload_n 3, 1) := by decide +kernel
theorem dX9_breaths_58 : decode cX9_breaths 58 = .ok (.if_icmp .eq 20, 3) := by decide +kernel
theorem dX9_breaths_61 : decode cX9_breaths 61 = .ok (.aload_n 0, 1) := by decide +kernel
theorem dX9_breaths_62 : decode cX9_breaths 62 = .ok (.getfield 19, 3) := by decide +kernel
theorem dX9_breaths_65 : decode cX9_breaths 65 = .ok (.aload_n 0, 1) := by decide +kernel
theorem dX9_breaths_66 : decode cX9_breaths 66 = .ok (.iload_n 1, 1) := by decide +kernel
theorem dX9_breaths_67 : decode cX9_breaths 67 = .ok (.iload 4, 2) := by decide +kernel
theorem dX9_breaths_69 : decode cX9_breaths 69 = .ok (.iconst 1, 1) := by decide +kernel
theorem dX9_breaths_70 : decode cX9_breaths 70 = .ok (.isub, 1) := by decide +kernel
theorem dX9_breaths_71 : decode cX9_breaths 71 = .ok (.invokevirtual 108, 3) := by decide +kernel
theorem dX9_breaths_74 : decode cX9_breaths 74 = .ok (.iaload, 1) := by decide +kernel
theorem dX9_breaths_75 : decode cX9_breaths 75 = .ok (.ifCond .ne 7, 3) := by decide +kernel
theorem dX9_breaths_78 : decode cX9_breaths 78 = .ok (.iconst 1, 1) := by decide +kernel
theorem dX9_breaths_79 : decode cX9_breaths 79 = .ok (.goto 4, 3) := by decide +kernel
theorem dX9_breaths_82 : decode cX9_breaths 82 = .ok (.iconst 0, 1) := by decide +kernel
theorem dX9_breaths_83 : decode cX9_breaths 83 = .ok (.istore 5, 2) := by decide +kernel
theorem dX9_breaths_85 : decode cX9_breaths 85 = .ok (.iload 4, 2) := by decide +kernel
theorem dX9_breaths_87 : decode cX9_breaths 87 = .ok (.iload_n 2, 1) := by decide +kernel
theorem dX9_breaths_88 : decode cX9_breaths 88 = .ok (.isub, 1) := by decide +kernel
theorem dX9_breaths_89 : decode cX9_breaths 89 = .ok (.ifCond .ge 7, 3) := by decide +kernel
theorem dX9_breaths_92 : decode cX9_breaths 92 = .ok (.iconst 0, 1) := by decide +kernel
theorem dX9_breaths_93 : decode cX9_breaths 93 = .ok (.goto 7, 3) := by decide +kernel
theorem dX9_breaths_96 : decode cX9_breaths 96 = .ok (.iload 4, 2) := by decide +kernel
theorem dX9_breaths_98 : decode cX9_breaths 98 = .ok (.iload_n 2, 1) := by decide +kernel
theorem dX9_breaths_99 : decode cX9_breaths 99 = .ok (.isub, 1) := by decide +kernel
theorem dX9_breaths_100 : decode cX9_breaths 100 = .ok (.istore 6, 2) := by decide +kernel
theorem dX9_breaths_102 : decode cX9_breaths 102 = .ok (.iload 6, 2) := by decide +kernel
theorem dX9_breaths_104 : decode cX9_breaths 104 = .ok (.iload 4, 2) := by decide +kernel
theorem dX9_breaths_106 : decode cX9_breaths 106 = .ok (.if_icmp .ge 95, 3) := by decide +kernel
theorem dX9_breaths_109 : decode cX9_breaths 109 = .ok (.iload 5, 2) := by decide +kernel
theorem dX9_breaths_111 : decode cX9_breaths 111 = .ok (.ifCond .eq 90, 3) := by decide +kernel
theorem dX9_breaths_114 : decode cX9_breaths 114 = .ok (.aload_n 0, 1) := by decide +kernel
theorem dX9_breaths_115 : decode cX9_breaths 115 = .ok (.getfield 62, 3) := by decide +kernel
theorem dX9_breaths_118 : decode cX9_breaths 118 = .ok (.iload 6, 2) := by decide +kernel
theorem dX9_breaths_120 : decode cX9_breaths 120 = .ok (.iaload, 1) := by decide +kernel
theorem dX9_breaths_121 : decode cX9_breaths 121 = .ok (.bipush (-9), 2) := by decide +kernel
theorem dX9_breaths_123 : decode cX9_breaths 123 = .ok (.if_icmp .eq 38, 3) := by decide +kernel
theorem dX9_breaths_126 : decode cX9_breaths 126 = .ok (.aload_n 0, 1) := by decide +kernel
theorem dX9_breaths_127 : decode cX9_breaths 127 = .ok (.getfield 62, 3) := by decide +kernel
theorem dX9_breaths_130 : decode cX9_breaths 130 = .ok (.iload 4, 2) := by decide +kernel
theorem dX9_breaths_132 : decode cX9_breaths 132 = .ok (.iaload, 1) := by decide +kernel
theorem dX9_breaths_133 : decode cX9_breaths 133 = .ok (.bipush (-9), 2) := by decide +kernel
theorem dX9_breaths_135 : decode cX9_breaths 135 = .ok (.if_icmp .eq 22, 3) := by decide +kernel
theorem dX9_breaths_138 : decode cX9_breaths 138 = .ok (.aload_n 0, 1) := by decide +kernel
theorem dX9_breaths_139 : decode cX9_breaths 139 = .ok (.getfield 62, 3) := by decide +kernel
theorem dX9_breaths_142 : decode cX9_breaths 142 = .ok (.iload 6, 2) := by decide +kernel
theorem dX9_breaths_144 : decode cX9_breaths 144 = .ok (.iaload, 1) := by decide +kernel
theorem dX9_breaths_145 : decode cX9_breaths 145 = .ok (.iconst 1, 1) := by decide +kernel
theorem dX9_breaths_146 : decode cX9_breaths 146 = .ok (.iadd, 1) := by decide +kernel
theorem dX9_breaths_147 : decode cX9_breaths 147 = .ok (.aload_n 0, 1) := by decide +kernel
theorem dX9_breaths_148 : decode cX9_breaths 148 = .ok (.getfield 62, 3) := by decide +kernel
theorem dX9_breaths_151 : decode cX9_breaths 151 = .ok (.iload 4, 2) := by decide +kernel
theorem dX9_breaths_153 : decode cX9_breaths 153 = .ok (.iaload, 1) := by decide +kernel
theorem dX9_breaths_154 : decode cX9_breaths 154 = .ok (.if_icmp .ge 7, 3) := by decide +kernel
theorem dX9_breaths_157 : decode cX9_breaths 157 = .ok (.iconst 1, 1) := by decide +kernel
theorem dX9_breaths_158 : decode cX9_breaths 158 = .ok (.goto 4, 3) := by decide +kernel
theorem dX9_breaths_161 : decode cX9_breaths 161 = .ok (.iconst 0, 1) := by decide +kernel
theorem dX9_breaths_162 : decode cX9_breaths 162 = .ok (.istore 7, 2) := by decide +kernel
theorem dX9_breaths_164 : decode cX9_breaths 164 = .ok (.aload_n 0, 1) := by decide +kernel
theorem dX9_breaths_165 : decode cX9_breaths 165 = .ok (.getfield 62, 3) := by decide +kernel
theorem dX9_breaths_168 : decode cX9_breaths 168 = .ok (.iload 4, 2) := by decide +kernel
theorem dX9_breaths_170 : decode cX9_breaths 170 = .ok (.iload 7, 2) := by decide +kernel
theorem dX9_breaths_172 : decode cX9_breaths 172 = .ok (.ifCond .eq 15, 3) := by decide +kernel
theorem dX9_breaths_175 : decode cX9_breaths 175 = .ok (.aload_n 0, 1) := by decide +kernel
theorem dX9_breaths_176 : decode cX9_breaths 176 = .ok (.getfield 62, 3) := by decide +kernel
theorem dX9_breaths_179 : decode cX9_breaths 179 = .ok (.iload 6, 2) := by decide +kernel
theorem dX9_breaths_181 : decode cX9_breaths 181 = .ok (.iaload, 1) := by decide +kernel
theorem dX9_breaths_182 : decode cX9_breaths 182 = .ok (.iconst 1, 1) := by decide +kernel
theorem dX9_breaths_183 : decode cX9_breaths 183 = .ok (.iadd, 1) := by decide +kernel
theorem dX9_breaths_184 : decode cX9_breaths 184 = .ok (.goto 10, 3) := by decide +kernel
theorem dX9_breaths_187 : decode cX9_breaths 187 = .ok (.aload_n 0, 1) := by decide +kernel
theorem dX9_breaths_188 : decode cX9_breaths 188 = .ok (.getfield 62, 3) := by decide +kernel
theorem dX9_breaths_191 : decode cX9_breaths 191 = .ok (.iload 4, 2) := by decide +kernel
theorem dX9_breaths_193 : decode cX9_breaths 193 = .ok (.iaload, 1) := by decide +kernel
theorem dX9_breaths_194 : decode cX9_breaths 194 = .ok (.iastore, 1) := by decide +kernel
theorem dX9_breaths_195 : decode cX9_breaths 195 = .ok (.iinc 6 1, 3) := by decide +kernel
theorem dX9_breaths_198 : decode cX9_breaths 198 = .ok (.goto (-96), 3) := by decide +kernel
theorem dX9_breaths_201 : decode cX9_breaths 201 = .ok (.iinc 4 1, 3) := by decide +kernel
theorem dX9_breaths_204 : decode cX9_breaths 204 = .ok (.goto (-164), 3) := by decide +kernel
theorem dX9_breaths_207 : decode cX9_breaths 207 = .ok (.aload_n 0, 1) := by decide +kernel
theorem dX9_breaths_208 : decode cX9_breaths 208 = .ok (.getfield 62, 3) := by decide +kernel
theorem dX9_breaths_211 : decode cX9_breaths 211 = .ok (.iload_n 3, 1) := by decide +kernel
theorem dX9_breaths_212 : decode cX9_breaths 212 = .ok (.iaload, 1) := by decide +kernel
theorem dX9_breaths_213 : decode cX9_breaths 213 = .ok (.ireturn, 1) := by decide +kernel
set_option maxRecDepth 20000 in
theorem ggX9_alikeFrom_X9_wordAt : GoodIn wsX9_alikeFrom wsX9_wordAt := goodIn_r _ [6, 7, 8, 9, 10, 11, 12, 13, 14, 15, 16, 17, 18, 19, 20, 21, 22, 23, 24, 25, 26, 27, 28, 29, 30, 31, 32, 33] (by decide +kernel) (by decide +kernel)
set_option maxRecDepth 20000 in
theorem gX9_alikeFrom_X9_wordAt : GoodIn wsX9_alikeFrom (wsV RX9 108 RX9 yX9_wordAt wsX9_wordAt) := goodIn_app (goodIn_of _ (by decide +kernel)) ggX9_alikeFrom_X9_wordAt
theorem dX9_alikeFrom_0 : decode cX9_alikeFrom 0 = .ok (.iconst 0, 1) := by decide +kernel
theorem dX9_alikeFrom_1 : decode cX9_alikeFrom 1 = .ok (.istore 5, 2) := by decide +kernel
theorem dX9_alikeFrom_3 : decode cX9_alikeFrom 3 = .ok (.iload_n 2, 1) := by decide +kernel
theorem dX9_alikeFrom_4 : decode cX9_alikeFrom 4 = .ok (.iload 5, 2) := by decide +kernel
theorem dX9_alikeFrom_6 : decode cX9_alikeFrom 6 = .ok (.iadd, 1) := by decide +kernel
theorem dX9_alikeFrom_7 : decode cX9_alikeFrom 7 = .ok (.aload_n 0, 1) := by decide +kernel
theorem dX9_alikeFrom_8 : decode cX9_alikeFrom 8 = .ok (.getfield 22, 3) := by decide +kernel
theorem dX9_alikeFrom_11 : decode cX9_alikeFrom 11 = .ok (.iload_n 1, 1) := by decide +kernel
theorem dX9_alikeFrom_12 : decode cX9_alikeFrom 12 = .ok (.iaload, 1) := by decide +kernel
theorem dX9_alikeFrom_13 : decode cX9_alikeFrom 13 = .ok (.if_icmp .ge 45, 3) := by decide +kernel
theorem dX9_alikeFrom_16 : decode cX9_alikeFrom 16 = .ok (.iload 4, 2) := by decide +kernel
theorem dX9_alikeFrom_18 : decode cX9_alikeFrom 18 = .ok (.iload 5, 2) := by decide +kernel
theorem dX9_alikeFrom_20 : decode cX9_alikeFrom 20 = .ok (.iadd, 1) := by decide +kernel
theorem dX9_alikeFrom_21 : decode cX9_alikeFrom 21 = .ok (.aload_n 0, 1) := by decide +kernel
theorem dX9_alikeFrom_22 : decode cX9_alikeFrom 22 = .ok (.getfield 22, 3) := by decide +kernel
theorem dX9_alikeFrom_25 : decode cX9_alikeFrom 25 = .ok (.iload_n 3, 1) := by decide +kernel
theorem dX9_alikeFrom_26 : decode cX9_alikeFrom 26 = .ok (.iaload, 1) := by decide +kernel
theorem dX9_alikeFrom_27 : decode cX9_alikeFrom 27 = .ok (.if_icmp .ge 31, 3) := by decide +kernel
theorem dX9_alikeFrom_30 : decode cX9_alikeFrom 30 = .ok (.aload_n 0, 1) := by decide +kernel
theorem dX9_alikeFrom_31 : decode cX9_alikeFrom 31 = .ok (.iload_n 1, 1) := by decide +kernel
theorem dX9_alikeFrom_32 : decode cX9_alikeFrom 32 = .ok (.iload_n 2, 1) := by decide +kernel
theorem dX9_alikeFrom_33 : decode cX9_alikeFrom 33 = .ok (.iload 5, 2) := by decide +kernel
theorem dX9_alikeFrom_35 : decode cX9_alikeFrom 35 = .ok (.iadd, 1) := by decide +kernel
theorem dX9_alikeFrom_36 : decode cX9_alikeFrom 36 = .ok (.invokevirtual 108, 3) := by decide +kernel
theorem dX9_alikeFrom_39 : decode cX9_alikeFrom 39 = .ok (.aload_n 0, 1) := by decide +kernel
theorem dX9_alikeFrom_40 : decode cX9_alikeFrom 40 = .ok (.iload_n 3, 1) := by decide +kernel
theorem dX9_alikeFrom_41 : decode cX9_alikeFrom 41 = .ok (.iload 4, 2) := by decide +kernel
theorem dX9_alikeFrom_43 : decode cX9_alikeFrom 43 = .ok (.iload 5, 2) := by decide +kernel
theorem dX9_alikeFrom_45 : decode cX9_alikeFrom 45 = .ok (.iadd, 1) := by decide +kernel
theorem dX9_alikeFrom_46 : decode cX9_alikeFrom 46 = .ok (.invokevirtual 108, 3) := by decide +kernel
theorem dX9_alikeFrom_49 : decode cX9_alikeFrom 49 = .ok (.if_icmp .ne 9, 3) := by decide +kernel
theorem dX9_alikeFrom_52 : decode cX9_alikeFrom 52 = .ok (.iinc 5 1, 3) := by decide +kernel
theorem dX9_alikeFrom_55 : decode cX9_alikeFrom 55 = .ok (.goto (-52), 3) := by decide +kernel
theorem dX9_alikeFrom_58 : decode cX9_alikeFrom 58 = .ok (.iload 5, 2) := by decide +kernel
theorem dX9_alikeFrom_60 : decode cX9_alikeFrom 60 = .ok (.ireturn, 1) := by decide +kernel
set_option maxRecDepth 20000 in
theorem ggX9_once_X9_isDay : GoodIn wsX9_once wsX9_isDay := goodIn_r _ [6, 7, 20, 21, 22, 23, 24, 25, 26, 27, 28, 29, 30, 31, 32, 33, 34, 35, 36, 37, 38, 39, 40, 41, 42, 43, 44, 45] (by decide +kernel) (by decide +kernel)
set_option maxRecDepth 20000 in
theorem gX9_once_X9_isDay : GoodIn wsX9_once (wsV RX9 105 RX9 yX9_isDay wsX9_isDay) := goodIn_app (goodIn_of _ (by decide +kernel)) ggX9_once_X9_isDay
set_option maxRecDepth 20000 in
theorem ggX9_once_X9_inside : GoodIn wsX9_once wsX9_inside := goodIn_r _ [10] (by decide +kernel) (by decide +kernel)
set_option maxRecDepth 20000 in
theorem gX9_once_X9_inside : GoodIn wsX9_once (va_wsS RX9 71 yX9_inside wsX9_inside) := goodIn_app (goodIn_of _ (by decide +kernel)) ggX9_once_X9_inside
set_option maxRecDepth 20000 in
theorem ggX9_once_X9_alikeFrom : GoodIn wsX9_once wsX9_alikeFrom := goodIn_r _ [14, 1, 15, 16, 17, 5, 18, 19, 20, 21, 22, 23, 24, 25, 26, 27, 28, 29, 30, 31, 32, 33, 34, 35, 36, 37, 38, 39, 40, 41, 42, 43, 44, 45] (by decide +kernel) (by decide +kernel)
set_option maxRecDepth 20000 in
theorem gX9_once_X9_alikeFrom : GoodIn wsX9_once (wsV RX9 172 RX9 yX9_alikeFrom wsX9_alikeFrom) := goodIn_app (goodIn_of _ (by decide +kernel)) ggX9_once_X9_alikeFrom
theorem dX9_once_0 : decode cX9_once 0 = .ok (.aload_n 0, 1) := by decide +kernel
theorem dX9_once_1 : decode cX9_once 1 = .ok (.iload_n 1, 1) := by decide +kernel
theorem dX9_once_2 : decode cX9_once 2 = .ok (.invokevirtual 105, 3) := by decide +kernel
theorem dX9_once_5 : decode cX9_once 5 = .ok (.ifCond .eq 11, 3) := by decide +kernel
theorem dX9_once_8 : decode cX9_once 8 = .ok (.aload_n 0, 1) := by decide +kernel
theorem dX9_once_9 : decode cX9_once 9 = .ok (.iload_n 2, 1) := by decide +kernel
theorem dX9_once_10 : decode cX9_once 10 = .ok (.invokevirtual 105, 3) := by decide +kernel
theorem dX9_once_13 : decode cX9_once 13 = .ok (.ifCond .ne 5, 3) := by decide +kernel
theorem dX9_once_16 : decode cX9_once 16 = .ok (.iconst (-1), 1) := by decide +kernel
theorem dX9_once_17 : decode cX9_once 17 = .ok (.ireturn, 1) := by decide +kernel
theorem dX9_once_18 : decode cX9_once 18 = .ok (.iload_n 3, 1) := by decide +kernel
theorem dX9_once_19 : decode cX9_once 19 = .ok (.iconst 0, 1) := by decide +kernel
theorem dX9_once_20 : decode cX9_once 20 = .ok (.iconst 1, 1) := by decide +kernel
theorem dX9_once_21 : decode cX9_once 21 = .ok (.invokestatic 71, 3) := by decide +kernel
theorem dX9_once_24 : decode cX9_once 24 = .ok (.ifCond .ne 6, 3) := by decide +kernel
theorem dX9_once_27 : decode cX9_once 27 = .ok (.bipush (-2), 2) := by decide +kernel
theorem dX9_once_29 : decode cX9_once 29 = .ok (.ireturn, 1) := by decide +kernel
theorem dX9_once_30 : decode cX9_once 30 = .ok (.iconst 0, 1) := by decide +kernel
theorem dX9_once_31 : decode cX9_once 31 = .ok (.istore 4, 2) := by decide +kernel
theorem dX9_once_33 : decode cX9_once 33 = .ok (.bipush (-9), 2) := by decide +kernel
theorem dX9_once_35 : decode cX9_once 35 = .ok (.istore 5, 2) := by decide +kernel
theorem dX9_once_37 : decode cX9_once 37 = .ok (.iconst 0, 1) := by decide +kernel
theorem dX9_once_38 : decode cX9_once 38 = .ok (.istore 6, 2) := by decide +kernel
theorem dX9_once_40 : decode cX9_once 40 = .ok (.iload 6, 2) := by decide +kernel
theorem dX9_once_42 : decode cX9_once 42 = .ok (.aload_n 0, 1) := by decide +kernel
theorem dX9_once_43 : decode cX9_once 43 = .ok (.getfield 22, 3) := by decide +kernel
theorem dX9_once_46 : decode cX9_once 46 = .ok (.iload_n 1, 1) := by decide +kernel
theorem dX9_once_47 : decode cX9_once 47 = .ok (.iaload, 1) := by decide +kernel
theorem dX9_once_48 : decode cX9_once 48 = .ok (.if_icmp .ge 56, 3) := by decide +kernel
theorem dX9_once_51 : decode cX9_once 51 = .ok (.iconst 0, 1) := by decide +kernel
theorem dX9_once_52 : decode cX9_once 52 = .ok (.istore 7, 2) := by decide +kernel
theorem dX9_once_54 : decode cX9_once 54 = .ok (.iload 7, 2) := by decide +kernel
theorem dX9_once_56 : decode cX9_once 56 = .ok (.aload_n 0, 1) := by decide +kernel
theorem dX9_once_57 : decode cX9_once 57 = .ok (.getfield 22, 3) := by decide +kernel
theorem dX9_once_60 : decode cX9_once 60 = .ok (.iload_n 2, 1) := by decide +kernel
theorem dX9_once_61 : decode cX9_once 61 = .ok (.iaload, 1) := by decide +kernel
theorem dX9_once_62 : decode cX9_once 62 = .ok (.if_icmp .ge 36, 3) := by decide +kernel
theorem dX9_once_65 : decode cX9_once 65 = .ok (.aload_n 0, 1) := by decide +kernel
theorem dX9_once_66 : decode cX9_once 66 = .ok (.iload_n 1, 1) := by decide +kernel
theorem dX9_once_67 : decode cX9_once 67 = .ok (.iload 6, 2) := by decide +kernel
theorem dX9_once_69 : decode cX9_once 69 = .ok (.iload_n 2, 1) := by decide +kernel
theorem dX9_once_70 : decode cX9_once 70 = .ok (.iload 7, 2) := by decide +kernel
theorem dX9_once_72 : decode cX9_once 72 = .ok (.invokevirtual 172, 3) := by decide +kernel
theorem dX9_once_75 : decode cX9_once 75 = .ok (.istore 8, 2) := by decide +kernel
theorem dX9_once_77 : decode cX9_once 77 = .ok (.iload 8, 2) := by decide +kernel
theorem dX9_once_79 : decode cX9_once 79 = .ok (.iload 4, 2) := by decide +kernel
theorem dX9_once_81 : decode cX9_once 81 = .ok (.if_icmp .le 11, 3) := by decide +kernel
theorem dX9_once_84 : decode cX9_once 84 = .ok (.iload 8, 2) := by decide +kernel
theorem dX9_once_86 : decode cX9_once 86 = .ok (.istore 4, 2) := by decide +kernel
theorem dX9_once_88 : decode cX9_once 88 = .ok (.iload 6, 2) := by decide +kernel
theorem dX9_once_90 : decode cX9_once 90 = .ok (.istore 5, 2) := by decide +kernel
theorem dX9_once_92 : decode cX9_once 92 = .ok (.iinc 7 1, 3) := by decide +kernel
theorem dX9_once_95 : decode cX9_once 95 = .ok (.goto (-41), 3) := by decide +kernel
theorem dX9_once_98 : decode cX9_once 98 = .ok (.iinc 6 1, 3) := by decide +kernel
theorem dX9_once_101 : decode cX9_once 101 = .ok (.goto (-61), 3) := by decide +kernel
theorem dX9_once_104 : decode cX9_once 104 = .ok (.iload_n 3, 1) := by decide +kernel
theorem dX9_once_105 : decode cX9_once 105 = .ok (.ifCond .ne 8, 3) := by decide +kernel
theorem dX9_once_108 : decode cX9_once 108 = .ok (.iload 4, 2) := by decide +kernel
theorem dX9_once_110 : decode cX9_once 110 = .ok (.goto 5, 3) := by decide +kernel
theorem dX9_once_113 : decode cX9_once 113 = .ok (.iload 5, 2) := by decide +kernel
theorem dX9_once_115 : decode cX9_once 115 = .ok (.ireturn, 1) := by decide +kernel
set_option maxRecDepth 20000 in
theorem ggX9_isIn_X9_wordAt : GoodIn wsX9_isIn wsX9_wordAt := goodIn_r _ [5, 6, 7, 8, 9, 10, 11, 12, 13, 14, 15, 16, 17, 18, 19, 20, 21, 22, 23, 24, 25, 26, 27, 28, 29, 30, 31, 32] (by decide +kernel) (by decide +kernel)
set_option maxRecDepth 20000 in
theorem gX9_isIn_X9_wordAt : GoodIn wsX9_isIn (wsV RX9 108 RX9 yX9_wordAt wsX9_wordAt) := goodIn_app (goodIn_of _ (by decide +kernel)) ggX9_isIn_X9_wordAt
theorem dX9_isIn_0 : decode cX9_isIn 0 = .ok (.iconst 0, 1) := by decide +kernel
theorem dX9_isIn_1 : decode cX9_isIn 1 = .ok (.istore 4, 2) := by decide +kernel
theorem dX9_isIn_3 : decode cX9_isIn 3 = .ok (.iload 4, 2) := by decide +kernel
theorem dX9_isIn_5 : decode cX9_isIn 5 = .ok (.iload_n 3, 1) := by decide +kernel
theorem dX9_isIn_6 : decode cX9_isIn 6 = .ok (.if_icmp .ge 22, 3) := by decide +kernel
theorem dX9_isIn_9 : decode cX9_isIn 9 = .ok (.aload_n 0, 1) := by decide +kernel
theorem dX9_isIn_10 : decode cX9_isIn 10 = .ok (.iload_n 1, 1) := by decide +kernel
theorem dX9_isIn_11 : decode cX9_isIn 11 = .ok (.iload 4, 2) := by decide +kernel
theorem dX9_isIn_13 : decode cX9_isIn 13 = .ok (.invokevirtual 108, 3) := by decide +kernel
theorem dX9_isIn_16 : decode cX9_isIn 16 = .ok (.iload_n 2, 1) := by decide +kernel
theorem dX9_isIn_17 : decode cX9_isIn 17 = .ok (.if_icmp .ne 5, 3) := by decide +kernel
theorem dX9_isIn_20 : decode cX9_isIn 20 = .ok (.iconst 1, 1) := by decide +kernel
theorem dX9_isIn_21 : decode cX9_isIn 21 = .ok (.ireturn, 1) := by decide +kernel
theorem dX9_isIn_22 : decode cX9_isIn 22 = .ok (.iinc 4 1, 3) := by decide +kernel
theorem dX9_isIn_25 : decode cX9_isIn 25 = .ok (.goto (-22), 3) := by decide +kernel
theorem dX9_isIn_28 : decode cX9_isIn 28 = .ok (.iconst 0, 1) := by decide +kernel
theorem dX9_isIn_29 : decode cX9_isIn 29 = .ok (.ireturn, 1) := by decide +kernel
set_option maxRecDepth 20000 in
theorem ggX9_twice_X9_isDay : GoodIn wsX9_twice wsX9_isDay := goodIn_r _ [6, 7, 17, 18, 19, 20, 21, 22, 23, 24, 25, 26, 27, 28, 29, 30, 31, 32, 33, 34, 35, 36, 37, 38, 39, 40, 41, 42] (by decide +kernel) (by decide +kernel)
set_option maxRecDepth 20000 in
theorem gX9_twice_X9_isDay : GoodIn wsX9_twice (wsV RX9 105 RX9 yX9_isDay wsX9_isDay) := goodIn_app (goodIn_of _ (by decide +kernel)) ggX9_twice_X9_isDay
set_option maxRecDepth 20000 in
theorem ggX9_twice_X9_wordAt : GoodIn wsX9_twice wsX9_wordAt := goodIn_r _ [11, 12, 17, 18, 19, 20, 21, 22, 23, 24, 25, 26, 27, 28, 29, 30, 31, 32, 33, 34, 35, 36, 37, 38, 39, 40, 41, 42] (by decide +kernel) (by decide +kernel)
set_option maxRecDepth 20000 in
theorem gX9_twice_X9_wordAt : GoodIn wsX9_twice (wsV RX9 108 RX9 yX9_wordAt wsX9_wordAt) := goodIn_app (goodIn_of _ (by decide +kernel)) ggX9_twice_X9_wordAt
set_option maxRecDepth 20000 in
theorem ggX9_twice_X9_isIn : GoodIn wsX9_twice wsX9_isIn := goodIn_r _ [16, 8, 9, 10, 5, 11, 12, 17, 18, 19, 20, 21, 22, 23, 24, 25, 26, 27, 28, 29, 30, 31, 32, 33, 34, 35, 36, 37, 38, 39, 40, 41, 42] (by decide +kernel) (by decide +kernel)
set_option maxRecDepth 20000 in
theorem gX9_twice_X9_isIn : GoodIn wsX9_twice (wsV RX9 175 RX9 yX9_isIn wsX9_isIn) := goodIn_app (goodIn_of _ (by decide +kernel)) ggX9_twice_X9_isIn
theorem dX9_twice_0 : decode cX9_twice 0 = .ok (.aload_n 0, 1) := by decide +kernel
theorem dX9_twice_1 : decode cX9_twice 1 = .ok (.iload_n 1, 1) := by decide +kernel
theorem dX9_twice_2 : decode cX9_twice 2 = .ok (.invokevirtual 105, 3) := by decide +kernel
theorem dX9_twice_5 : decode cX9_twice 5 = .ok (.ifCond .ne 5, 3) := by decide +kernel
theorem dX9_twice_8 : decode cX9_twice 8 = .ok (.iconst (-1), 1) := by decide +kernel
theorem dX9_twice_9 : decode cX9_twice 9 = .ok (.ireturn, 1) := by decide +kernel
theorem dX9_twice_10 : decode cX9_twice 10 = .ok (.iconst 0, 1) := by decide +kernel
theorem dX9_twice_11 : decode cX9_twice 11 = .ok (.istore_n 2, 1) := by decide +kernel
theorem dX9_twice_12 : decode cX9_twice 12 = .ok (.iconst 0, 1) := by decide +kernel
theorem dX9_twice_13 : decode cX9_twice 13 = .ok (.istore_n 3, 1) := by decide +kernel
theorem dX9_twice_14 : decode cX9_twice 14 = .ok (.iload_n 3, 1) := by decide +kernel
theorem dX9_twice_15 : decode cX9_twice 15 = .ok (.aload_n 0, 1) := by decide +kernel
theorem dX9_twice_16 : decode cX9_twice 16 = .ok (.getfield 22, 3) := by decide +kernel
theorem dX9_twice_19 : decode cX9_twice 19 = .ok (.iload_n 1, 1) := by decide +kernel
theorem dX9_twice_20 : decode cX9_twice 20 = .ok (.iaload, 1) := by decide +kernel
theorem dX9_twice_21 : decode cX9_twice 21 = .ok (.if_icmp .ge 32, 3) := by decide +kernel
theorem dX9_twice_24 : decode cX9_twice 24 = .ok (.iload_n 2, 1) := by decide +kernel
theorem dX9_twice_25 : decode cX9_twice 25 = .ok (.aload_n 0, 1) := by decide +kernel
theorem dX9_twice_26 : decode cX9_twice 26 = .ok (.iload_n 1, 1) := by decide +kernel
theorem dX9_twice_27 : decode cX9_twice 27 = .ok (.aload_n 0, 1) := by decide +kernel
theorem dX9_twice_28 : decode cX9_twice 28 = .ok (.iload_n 1, 1) := by decide +kernel
theorem dX9_twice_29 : decode cX9_twice 29 = .ok (.iload_n 3, 1) := by decide +kernel
theorem dX9_twice_30 : decode cX9_twice 30 = .ok (.invokevirtual 108, 3) := by decide +kernel
theorem dX9_twice_33 : decode cX9_twice 33 = .ok (.iload_n 3, 1) := by decide +kernel
theorem dX9_twice_34 : decode cX9_twice 34 = .ok (.invokevirtual 175, 3) := by decide +kernel
theorem dX9_twice_37 : decode cX9_twice 37 = .ok (.ifCond .eq 7, 3) := by decide +kernel
theorem dX9_twice_40 : decode cX9_twice 40 = .ok (.iconst 1, 1) := by decide +kernel
theorem dX9_twice_41 : decode cX9_twice 41 = .ok (.goto 4, 3) := by decide +kernel
theorem dX9_twice_44 : decode cX9_twice 44 = .ok (.iconst 0, 1) := by decide +kernel
theorem dX9_twice_45 : decode cX9_twice 45 = .ok (.iadd, 1) := by decide +kernel
theorem dX9_twice_46 : decode cX9_twice 46 = .ok (.istore_n 2, 1) := by decide +kernel
theorem dX9_twice_47 : decode cX9_twice 47 = .ok (.iinc 3 1, 3) := by decide +kernel
theorem dX9_twice_50 : decode cX9_twice 50 = .ok (.goto (-36), 3) := by decide +kernel
theorem dX9_twice_53 : decode cX9_twice 53 = .ok (.iload_n 2, 1) := by decide +kernel
theorem dX9_twice_54 : decode cX9_twice 54 = .ok (.ireturn, 1) := by decide +kernel
set_option maxRecDepth 20000 in
theorem ggX9_sheet_X9_isSheet : GoodIn wsX9_sheet wsX9_isSheet := goodIn_r _ [8, 9, 10, 7, 11] (by decide +kernel) (by decide +kernel)
set_option maxRecDepth 20000 in
theorem gX9_sheet_X9_isSheet : GoodIn wsX9_sheet (va_wsS RX9 78 yX9_isSheet wsX9_isSheet) := goodIn_app (goodIn_of _ (by decide +kernel)) ggX9_sheet_X9_isSheet
set_option maxRecDepth 20000 in
theorem ggX9_sheet_X9_isSort : GoodIn wsX9_sheet wsX9_isSort := goodIn_r _ [14, 9, 10, 7, 11] (by decide +kernel) (by decide +kernel)
set_option maxRecDepth 20000 in
theorem gX9_sheet_X9_isSort : GoodIn wsX9_sheet (va_wsS RX9 82 yX9_isSort wsX9_isSort) := goodIn_app (goodIn_of _ (by decide +kernel)) ggX9_sheet_X9_isSort
set_option maxRecDepth 20000 in
theorem ggX9_sheet_X9_fails : GoodIn wsX9_sheet wsX9_fails := goodIn_r _ [18, 1, 19, 20, 21, 22, 23, 24, 25, 26, 27, 28, 29, 30, 31, 32, 33, 34, 35, 36, 37, 38, 39, 40, 41, 42, 43, 44] (by decide +kernel) (by decide +kernel)
set_option maxRecDepth 20000 in
theorem gX9_sheet_X9_fails : GoodIn wsX9_sheet (wsV RX9 89 RX9 yX9_fails wsX9_fails) := goodIn_app (goodIn_of _ (by decide +kernel)) ggX9_sheet_X9_fails
theorem dX9_sheet_0 : decode cX9_sheet 0 = .ok (.aload_n 0, 1) := by decide +kernel
theorem dX9_sheet_1 : decode cX9_sheet 1 = .ok (.iconst 0, 1) := by decide +kernel
theorem dX9_sheet_2 : decode cX9_sheet 2 = .ok (.putfield 65, 3) := by decide +kernel
theorem dX9_sheet_5 : decode cX9_sheet 5 = .ok (.iload_n 1, 1) := by decide +kernel
theorem dX9_sheet_6 : decode cX9_sheet 6 = .ok (.invokestatic 78, 3) := by decide +kernel
theorem dX9_sheet_9 : decode cX9_sheet 9 = .ok (.ifCond .ne 5, 3) := by decide +kernel
theorem dX9_sheet_12 : decode cX9_sheet 12 = .ok (.iconst (-1), 1) := by decide +kernel
theorem dX9_sheet_13 : decode cX9_sheet 13 = .ok (.ireturn, 1) := by decide +kernel
theorem dX9_sheet_14 : decode cX9_sheet 14 = .ok (.iload_n 2, 1) := by decide +kernel
theorem dX9_sheet_15 : decode cX9_sheet 15 = .ok (.invokestatic 82, 3) := by decide +kernel
theorem dX9_sheet_18 : decode cX9_sheet 18 = .ok (.ifCond .eq 9, 3) := by decide +kernel
theorem dX9_sheet_21 : decode cX9_sheet 21 = .ok (.iload_n 3, 1) := by decide +kernel
theorem dX9_sheet_22 : decode cX9_sheet 22 = .ok (.bipush 80, 2) := by decide +kernel
theorem dX9_sheet_24 : decode cX9_sheet 24 = .ok (.if_icmp .le 6, 3) := by decide +kernel
theorem dX9_sheet_27 : decode cX9_sheet 27 = .ok (.bipush (-2), 2) := by decide +kernel
theorem dX9_sheet_29 : decode cX9_sheet 29 = .ok (.ireturn, 1) := by decide +kernel
theorem dX9_sheet_30 : decode cX9_sheet 30 = .ok (.iload_n 3, 1) := by decide +kernel
theorem dX9_sheet_31 : decode cX9_sheet 31 = .ok (.ifCond .ge 9, 3) := by decide +kernel
theorem dX9_sheet_34 : decode cX9_sheet 34 = .ok (.aload_n 0, 1) := by decide +kernel
theorem dX9_sheet_35 : decode cX9_sheet 35 = .ok (.iconst 4, 1) := by decide +kernel
theorem dX9_sheet_36 : decode cX9_sheet 36 = .ok (.invokevirtual 89, 3) := by decide +kernel
theorem dX9_sheet_39 : decode cX9_sheet 39 = .ok (.ireturn, 1) := by decide +kernel
theorem dX9_sheet_40 : decode cX9_sheet 40 = .ok (.aload_n 0, 1) := by decide +kernel
theorem dX9_sheet_41 : decode cX9_sheet 41 = .ok (.getfield 9, 3) := by decide +kernel
theorem dX9_sheet_44 : decode cX9_sheet 44 = .ok (.iload_n 1, 1) := by decide +kernel
theorem dX9_sheet_45 : decode cX9_sheet 45 = .ok (.iload_n 2, 1) := by decide +kernel
theorem dX9_sheet_46 : decode cX9_sheet 46 = .ok (.iastore, 1) := by decide +kernel
theorem dX9_sheet_47 : decode cX9_sheet 47 = .ok (.aload_n 0, 1) := by decide +kernel
theorem dX9_sheet_48 : decode cX9_sheet 48 = .ok (.getfield 13, 3) := by decide +kernel
theorem dX9_sheet_51 : decode cX9_sheet 51 = .ok (.iload_n 1, 1) := by decide +kernel
theorem dX9_sheet_52 : decode cX9_sheet 52 = .ok (.iload_n 3, 1) := by decide +kernel
theorem dX9_sheet_53 : decode cX9_sheet 53 = .ok (.iastore, 1) := by decide +kernel
theorem dX9_sheet_54 : decode cX9_sheet 54 = .ok (.iconst 0, 1) := by decide +kernel
theorem dX9_sheet_55 : decode cX9_sheet 55 = .ok (.istore 4, 2) := by decide +kernel
theorem dX9_sheet_57 : decode cX9_sheet 57 = .ok (.iload 4, 2) := by decide +kernel
theorem dX9_sheet_59 : decode cX9_sheet 59 = .ok (.bipush 80, 2) := by decide +kernel
theorem dX9_sheet_61 : decode cX9_sheet 61 = .ok (.if_icmp .ge 22, 3) := by decide +kernel
theorem dX9_sheet_64 : decode cX9_sheet 64 = .ok (.aload_n 0, 1) := by decide +kernel
theorem dX9_sheet_65 : decode cX9_sheet 65 = .ok (.getfield 16, 3) := by decide +kernel
theorem dX9_sheet_68 : decode cX9_sheet 68 = .ok (.bipush 80, 2) := by decide +kernel
theorem dX9_sheet_70 : decode cX9_sheet 70 = .ok (.iload_n 1, 1) := by decide +kernel
theorem dX9_sheet_71 : decode cX9_sheet 71 = .ok (.imul, 1) := by decide +kernel
theorem dX9_sheet_72 : decode cX9_sheet 72 = .ok (.iload 4, 2) := by decide +kernel
theorem dX9_sheet_74 : decode cX9_sheet 74 = .ok (.iadd, 1) := by decide +kernel
theorem dX9_sheet_75 : decode cX9_sheet 75 = .ok (.iconst 0, 1) := by decide +kernel
theorem dX9_sheet_76 : decode cX9_sheet 76 = .ok (.iastore, 1) := by decide +kernel
theorem dX9_sheet_77 : decode cX9_sheet 77 = .ok (.iinc 4 1, 3) := by decide +kernel
theorem dX9_sheet_80 : decode cX9_sheet 80 = .ok (.goto (-23), 3) := by decide +kernel
theorem dX9_sheet_83 : decode cX9_sheet 83 = .ok (.iconst 1, 1) := by decide +kernel
theorem dX9_sheet_84 : decode cX9_sheet 84 = .ok (.ireturn, 1) := by decide +kernel
set_option maxRecDepth 20000 in
theorem ggX9_lose_X9_isSheet : GoodIn wsX9_lose wsX9_isSheet := goodIn_r _ [5, 6, 7, 4, 8] (by decide +kernel) (by decide +kernel)
set_option maxRecDepth 20000 in
theorem gX9_lose_X9_isSheet : GoodIn wsX9_lose (va_wsS RX9 78 yX9_isSheet wsX9_isSheet) := goodIn_app (goodIn_of _ (by decide +kernel)) ggX9_lose_X9_isSheet
theorem dX9_lose_0 : decode cX9_lose 0 = .ok (.iload_n 1, 1) := by decide +kernel
theorem dX9_lose_1 : decode cX9_lose 1 = .ok (.invokestatic 78, 3) := by decide +kernel
theorem dX9_lose_4 : decode cX9_lose 4 = .ok (.ifCond .ne 5, 3) := by decide +kernel
theorem dX9_lose_7 : decode cX9_lose 7 = .ok (.iconst (-1), 1) := by decide +kernel
theorem dX9_lose_8 : decode cX9_lose 8 = .ok (.ireturn, 1) := by decide +kernel
theorem dX9_lose_9 : decode cX9_lose 9 = .ok (.aload_n 0, 1) := by decide +kernel
theorem dX9_lose_10 : decode cX9_lose 10 = .ok (.getfield 9, 3) := by decide +kernel
theorem dX9_lose_13 : decode cX9_lose 13 = .ok (.iload_n 1, 1) := by decide +kernel
theorem dX9_lose_14 : decode cX9_lose 14 = .ok (.iaload, 1) := by decide +kernel
theorem dX9_lose_15 : decode cX9_lose 15 = .ok (.bipush (-9), 2) := by decide +kernel
theorem dX9_lose_17 : decode cX9_lose 17 = .ok (.if_icmp .ne 7, 3) := by decide +kernel
theorem dX9_lose_20 : decode cX9_lose 20 = .ok (.iconst 0, 1) := by decide +kernel
theorem dX9_lose_21 : decode cX9_lose 21 = .ok (.goto 4, 3) := by decide +kernel
theorem dX9_lose_24 : decode cX9_lose 24 = .ok (.iconst 1, 1) := by decide +kernel
theorem dX9_lose_25 : decode cX9_lose 25 = .ok (.istore_n 2, 1) := by decide +kernel
theorem dX9_lose_26 : decode cX9_lose 26 = .ok (.aload_n 0, 1) := by decide +kernel
theorem dX9_lose_27 : decode cX9_lose 27 = .ok (.getfield 9, 3) := by decide +kernel
theorem dX9_lose_30 : decode cX9_lose 30 = .ok (.iload_n 1, 1) := by decide +kernel
theorem dX9_lose_31 : decode cX9_lose 31 = .ok (.bipush (-9), 2) := by decide +kernel
theorem dX9_lose_33 : decode cX9_lose 33 = .ok (.iastore, 1) := by decide +kernel
theorem dX9_lose_34 : decode cX9_lose 34 = .ok (.iload_n 2, 1) := by decide +kernel
theorem dX9_lose_35 : decode cX9_lose 35 = .ok (.ireturn, 1) := by decide +kernel
set_option maxRecDepth 20000 in
theorem ggX9_put_X9_isSheet : GoodIn wsX9_put wsX9_isSheet := goodIn_r _ [8, 9, 10, 7, 11] (by decide +kernel) (by decide +kernel)
set_option maxRecDepth 20000 in
theorem gX9_put_X9_isSheet : GoodIn wsX9_put (va_wsS RX9 78 yX9_isSheet wsX9_isSheet) := goodIn_app (goodIn_of _ (by decide +kernel)) ggX9_put_X9_isSheet
set_option maxRecDepth 20000 in
theorem ggX9_put_X9_fails : GoodIn wsX9_put wsX9_fails := goodIn_r _ [15, 1, 16, 17, 18, 19, 20, 21, 22, 23, 24, 25, 26, 27, 28, 29, 30, 31, 32, 33, 34, 35, 36, 37, 38, 39, 40, 41] (by decide +kernel) (by decide +kernel)
set_option maxRecDepth 20000 in
theorem gX9_put_X9_fails : GoodIn wsX9_put (wsV RX9 89 RX9 yX9_fails wsX9_fails) := goodIn_app (goodIn_of _ (by decide +kernel)) ggX9_put_X9_fails
set_option maxRecDepth 20000 in
theorem ggX9_put_X9_inside : GoodIn wsX9_put wsX9_inside := goodIn_r _ [11] (by decide +kernel) (by decide +kernel)
set_option maxRecDepth 20000 in
theorem gX9_put_X9_inside : GoodIn wsX9_put (va_wsS RX9 71 yX9_inside wsX9_inside) := goodIn_app (goodIn_of _ (by decide +kernel)) ggX9_put_X9_inside
theorem dX9_put_0 : decode cX9_put 0 = .ok (.aload_n 0, 1) := by decide +kernel
theorem dX9_put_1 : decode cX9_put 1 = .ok (.iconst 0, 1) := by decide +kernel
theorem dX9_put_2 : decode cX9_put 2 = .ok (.putfield 65, 3) := by decide +kernel
theorem dX9_put_5 : decode cX9_put 5 = .ok (.iload_n 1, 1) := by decide +kernel
theorem dX9_put_6 : decode cX9_put 6 = .ok (.invokestatic 78, 3) := by decide +kernel
theorem dX9_put_9 : decode cX9_put 9 = .ok (.ifCond .ne 5, 3) := by decide +kernel
theorem dX9_put_12 : decode cX9_put 12 = .ok (.iconst (-1), 1) := by decide +kernel
theorem dX9_put_13 : decode cX9_put 13 = .ok (.ireturn, 1) := by decide +kernel
theorem dX9_put_14 : decode cX9_put 14 = .ok (.aload_n 0, 1) := by decide +kernel
theorem dX9_put_15 : decode cX9_put 15 = .ok (.getfield 9, 3) := by decide +kernel
theorem dX9_put_18 : decode cX9_put 18 = .ok (.iload_n 1, 1) := by decide +kernel
theorem dX9_put_19 : decode cX9_put 19 = .ok (.iaload, 1) := by decide +kernel
theorem dX9_put_20 : decode cX9_put 20 = .ok (.bipush (-9), 2) := by decide +kernel
theorem dX9_put_22 : decode cX9_put 22 = .ok (.if_icmp .ne 9, 3) := by decide +kernel
theorem dX9_put_25 : decode cX9_put 25 = .ok (.aload_n 0, 1) := by decide +kernel
theorem dX9_put_26 : decode cX9_put 26 = .ok (.iconst 1, 1) := by decide +kernel
theorem dX9_put_27 : decode cX9_put 27 = .ok (.invokevirtual 89, 3) := by decide +kernel
theorem dX9_put_30 : decode cX9_put 30 = .ok (.ireturn, 1) := by decide +kernel
theorem dX9_put_31 : decode cX9_put 31 = .ok (.iload_n 2, 1) := by decide +kernel
theorem dX9_put_32 : decode cX9_put 32 = .ok (.iconst 0, 1) := by decide +kernel
theorem dX9_put_33 : decode cX9_put 33 = .ok (.aload_n 0, 1) := by decide +kernel
theorem dX9_put_34 : decode cX9_put 34 = .ok (.getfield 13, 3) := by decide +kernel
theorem dX9_put_37 : decode cX9_put 37 = .ok (.iload_n 1, 1) := by decide +kernel
theorem dX9_put_38 : decode cX9_put 38 = .ok (.iaload, 1) := by decide +kernel
theorem dX9_put_39 : decode cX9_put 39 = .ok (.iconst 1, 1) := by decide +kernel
theorem dX9_put_40 : decode cX9_put 40 = .ok (.isub, 1) := by decide +kernel
theorem dX9_put_41 : decode cX9_put 41 = .ok (.invokestatic 71, 3) := by decide +kernel
theorem dX9_put_44 : decode cX9_put 44 = .ok (.ifCond .ne 9, 3) := by decide +kernel
theorem dX9_put_47 : decode cX9_put 47 = .ok (.aload_n 0, 1) := by decide +kernel
theorem dX9_put_48 : decode cX9_put 48 = .ok (.iconst 3, 1) := by decide +kernel
theorem dX9_put_49 : decode cX9_put 49 = .ok (.invokevirtual 89, 3) := by decide +kernel
theorem dX9_put_52 : decode cX9_put 52 = .ok (.ireturn, 1) := by decide +kernel
theorem dX9_put_53 : decode cX9_put 53 = .ok (.aload_n 0, 1) := by decide +kernel
theorem dX9_put_54 : decode cX9_put 54 = .ok (.getfield 16, 3) := by decide +kernel
theorem dX9_put_57 : decode cX9_put 57 = .ok (.bipush 80, 2) := by decide +kernel
theorem dX9_put_59 : decode cX9_put 59 = .ok (.iload_n 1, 1) := by decide +kernel
theorem dX9_put_60 : decode cX9_put 60 = .ok (.imul, 1) := by decide +kernel
theorem dX9_put_61 : decode cX9_put 61 = .ok (.iload_n 2, 1) := by decide +kernel
theorem dX9_put_62 : decode cX9_put 62 = .ok (.iadd, 1) := by decide +kernel
theorem dX9_put_63 : decode cX9_put 63 = .ok (.aload_n 0, 1) := by decide +kernel
theorem dX9_put_64 : decode cX9_put 64 = .ok (.getfield 9, 3) := by decide +kernel
theorem dX9_put_67 : decode cX9_put 67 = .ok (.iload_n 1, 1) := by decide +kernel
theorem dX9_put_68 : decode cX9_put 68 = .ok (.iaload, 1) := by decide +kernel
theorem dX9_put_69 : decode cX9_put 69 = .ok (.ifCond .ne 8, 3) := by decide +kernel
theorem dX9_put_72 : decode cX9_put 72 = .ok (.iload_n 3, 1) := by decide +kernel
theorem dX9_put_73 : decode cX9_put 73 = .ok (.i2b, 1) := by decide +kernel
theorem dX9_put_74 : decode cX9_put 74 = .ok (.goto 19, 3) := by decide +kernel
theorem dX9_put_77 : decode cX9_put 77 = .ok (.aload_n 0, 1) := by decide +kernel
theorem dX9_put_78 : decode cX9_put 78 = .ok (.getfield 9, 3) := by decide +kernel
theorem dX9_put_81 : decode cX9_put 81 = .ok (.iload_n 1, 1) := by decide +kernel
theorem dX9_put_82 : decode cX9_put 82 = .ok (.iaload, 1) := by decide +kernel
theorem dX9_put_83 : decode cX9_put 83 = .ok (.iconst 1, 1) := by decide +kernel
theorem dX9_put_84 : decode cX9_put 84 = .ok (.if_icmp .ne 8, 3) := by decide +kernel
theorem dX9_put_87 : decode cX9_put 87 = .ok (.iload_n 3, 1) := by decide +kernel
theorem dX9_put_88 : decode cX9_put 88 = .ok (.i2s, 1) := by decide +kernel
theorem dX9_put_89 : decode cX9_put 89 = .ok (.goto 4, 3) := by decide +kernel
theorem dX9_put_92 : decode cX9_put 92 = .ok (.iload_n 3, 1) := by decide +kernel
theorem dX9_put_93 : decode cX9_put 93 = .ok (.iastore, 1) := by decide +kernel
theorem dX9_put_94 : decode cX9_put 94 = .ok (.iconst 1, 1) := by decide +kernel
theorem dX9_put_95 : decode cX9_put 95 = .ok (.ireturn, 1) := by decide +kernel
set_option maxRecDepth 20000 in
theorem ggX9_cell_X9_isSheet : GoodIn wsX9_cell wsX9_isSheet := goodIn_r _ [9, 10, 11, 8, 12] (by decide +kernel) (by decide +kernel)
set_option maxRecDepth 20000 in
theorem gX9_cell_X9_isSheet : GoodIn wsX9_cell (va_wsS RX9 78 yX9_isSheet wsX9_isSheet) := goodIn_app (goodIn_of _ (by decide +kernel)) ggX9_cell_X9_isSheet
set_option maxRecDepth 20000 in
theorem ggX9_cell_X9_isSort : GoodIn wsX9_cell wsX9_isSort := goodIn_r _ [15, 10, 11, 8, 12] (by decide +kernel) (by decide +kernel)
set_option maxRecDepth 20000 in
theorem gX9_cell_X9_isSort : GoodIn wsX9_cell (va_wsS RX9 82 yX9_isSort wsX9_isSort) := goodIn_app (goodIn_of _ (by decide +kernel)) ggX9_cell_X9_isSort
set_option maxRecDepth 20000 in
theorem ggX9_cell_X9_lost : GoodIn wsX9_cell wsX9_lost := goodIn_r _ [19, 1, 2, 20, 21, 22, 23, 24, 25, 26, 27, 28, 29, 30, 31, 32, 33, 34, 35, 36, 37, 38, 39, 40, 41, 42, 43, 44, 45] (by decide +kernel) (by decide +kernel)
set_option maxRecDepth 20000 in
theorem gX9_cell_X9_lost : GoodIn wsX9_cell (wsV RX9 178 RX9 yX9_lost wsX9_lost) := goodIn_app (goodIn_of _ (by decide +kernel)) ggX9_cell_X9_lost
set_option maxRecDepth 20000 in
theorem ggX9_cell_X9_inside : GoodIn wsX9_cell wsX9_inside := goodIn_r _ [12] (by decide +kernel) (by decide +kernel)
set_option maxRecDepth 20000 in
theorem gX9_cell_X9_inside : GoodIn wsX9_cell (va_wsS RX9 71 yX9_inside wsX9_inside) := goodIn_app (goodIn_of _ (by decide +kernel)) ggX9_cell_X9_inside
theorem dX9_cell_0 : decode cX9_cell 0 = .ok (.aload_n 0, 1) := by decide +kernel
theorem dX9_cell_1 : decode cX9_cell 1 = .ok (.iconst 0, 1) := by decide +kernel
theorem dX9_cell_2 : decode cX9_cell 2 = .ok (.putfield 65, 3) := by decide +kernel
theorem dX9_cell_5 : decode cX9_cell 5 = .ok (.iload_n 1, 1) := by decide +kernel
theorem dX9_cell_6 : decode cX9_cell 6 = .ok (.invokestatic 78, 3) := by decide +kernel
theorem dX9_cell_9 : decode cX9_cell 9 = .ok (.ifCond .eq 10, 3) := by decide +kernel
theorem dX9_cell_12 : decode cX9_cell 12 = .ok (.iload_n 3, 1) := by decide +kernel
theorem dX9_cell_13 : decode cX9_cell 13 = .ok (.invokestatic 82, 3) := by decide +kernel
theorem dX9_cell_16 : decode cX9_cell 16 = .ok (.ifCond .ne 7, 3) := by decide +kernel
theorem dX9_cell_19 : decode cX9_cell 19 = .ok (.ldc2_w 69, 3) := by decide +kernel
theorem dX9_cell_22 : decode cX9_cell 22 = .ok (.lreturn, 1) := by decide +kernel
theorem dX9_cell_23 : decode cX9_cell 23 = .ok (.aload_n 0, 1) := by decide +kernel
theorem dX9_cell_24 : decode cX9_cell 24 = .ok (.getfield 9, 3) := by decide +kernel
theorem dX9_cell_27 : decode cX9_cell 27 = .ok (.iload_n 1, 1) := by decide +kernel
theorem dX9_cell_28 : decode cX9_cell 28 = .ok (.iaload, 1) := by decide +kernel
theorem dX9_cell_29 : decode cX9_cell 29 = .ok (.bipush (-9), 2) := by decide +kernel
theorem dX9_cell_31 : decode cX9_cell 31 = .ok (.if_icmp .eq 19, 3) := by decide +kernel
theorem dX9_cell_34 : decode cX9_cell 34 = .ok (.aload_n 0, 1) := by decide +kernel
theorem dX9_cell_35 : decode cX9_cell 35 = .ok (.getfield 9, 3) := by decide +kernel
theorem dX9_cell_38 : decode cX9_cell 38 = .ok (.iload_n 1, 1) := by decide +kernel
theorem dX9_cell_39 : decode cX9_cell 39 = .ok (.iaload, 1) := by decide +kernel
theorem dX9_cell_40 : decode cX9_cell 40 = .ok (.iload_n 3, 1) := by decide +kernel
theorem dX9_cell_41 : decode cX9_cell 41 = .ok (.if_icmp .eq 9, 3) := by decide +kernel
theorem dX9_cell_44 : decode cX9_cell 44 = .ok (.aload_n 0, 1) := by decide +kernel
theorem dX9_cell_45 : decode cX9_cell 45 = .ok (.iconst 2, 1) := by decide +kernel
theorem dX9_cell_46 : decode cX9_cell 46 = .ok (.invokevirtual 178, 3) := by decide +kernel
theorem dX9_cell_49 : decode cX9_cell 49 = .ok (.lreturn, 1) := by decide +kernel
theorem dX9_cell_50 : decode cX9_cell 50 = .ok (.aload_n 0, 1) := by decide +kernel
theorem dX9_cell_51 : decode cX9_cell 51 = .ok (.getfield 9, 3) := by decide +kernel
theorem dX9_cell_54 : decode cX9_cell 54 = .ok (.iload_n 1, 1) := by decide +kernel
theorem dX9_cell_55 : decode cX9_cell 55 = .ok (.iaload, 1) := by decide +kernel
theorem dX9_cell_56 : decode cX9_cell 56 = .ok (.bipush (-9), 2) := by decide +kernel
theorem dX9_cell_58 : decode cX9_cell 58 = .ok (.if_icmp .ne 9, 3) := by decide +kernel
theorem dX9_cell_61 : decode cX9_cell 61 = .ok (.aload_n 0, 1) := by decide +kernel
theorem dX9_cell_62 : decode cX9_cell 62 = .ok (.iconst 1, 1) := by decide +kernel
theorem dX9_cell_63 : decode cX9_cell 63 = .ok (.invokevirtual 178, 3) := by decide +kernel
theorem dX9_cell_66 : decode cX9_cell 66 = .ok (.lreturn, 1) := by decide +kernel
theorem dX9_cell_67 : decode cX9_cell 67 = .ok (.iload_n 2, 1) := by decide +kernel
theorem dX9_cell_68 : decode cX9_cell 68 = .ok (.iconst 0, 1) := by decide +kernel
theorem dX9_cell_69 : decode cX9_cell 69 = .ok (.aload_n 0, 1) := by decide +kernel
theorem dX9_cell_70 : decode cX9_cell 70 = .ok (.getfield 13, 3) := by decide +kernel
theorem dX9_cell_73 : decode cX9_cell 73 = .ok (.iload_n 1, 1) := by decide +kernel
theorem dX9_cell_74 : decode cX9_cell 74 = .ok (.iaload, 1) := by decide +kernel
theorem dX9_cell_75 : decode cX9_cell 75 = .ok (.iconst 1, 1) := by decide +kernel
theorem dX9_cell_76 : decode cX9_cell 76 = .ok (.isub, 1) := by decide +kernel
theorem dX9_cell_77 : decode cX9_cell 77 = .ok (.invokestatic 71, 3) := by decide +kernel
theorem dX9_cell_80 : decode cX9_cell 80 = .ok (.ifCond .ne 9, 3) := by decide +kernel
theorem dX9_cell_83 : decode cX9_cell 83 = .ok (.aload_n 0, 1) := by decide +kernel
theorem dX9_cell_84 : decode cX9_cell 84 = .ok (.iconst 3, 1) := by decide +kernel
theorem dX9_cell_85 : decode cX9_cell 85 = .ok (.invokevirtual 178, 3) := by decide +kernel
theorem dX9_cell_88 : decode cX9_cell 88 = .ok (.lreturn, 1) := by decide +kernel
theorem dX9_cell_89 : decode cX9_cell 89 = .ok (.aload_n 0, 1) := by decide +kernel
theorem dX9_cell_90 : decode cX9_cell 90 = .ok (.getfield 16, 3) := by decide +kernel
theorem dX9_cell_93 : decode cX9_cell 93 = .ok (.bipush 80, 2) := by decide +kernel
theorem dX9_cell_95 : decode cX9_cell 95 = .ok (.iload_n 1, 1) := by decide +kernel
theorem dX9_cell_96 : decode cX9_cell 96 = .ok (.imul, 1) := by decide +kernel
theorem dX9_cell_97 : decode cX9_cell 97 = .ok (.iload_n 2, 1) := by decide +kernel
theorem dX9_cell_98 : decode cX9_cell 98 = .ok (.iadd, 1) := by decide +kernel
theorem dX9_cell_99 : decode cX9_cell 99 = .ok (.iaload, 1) := by decide +kernel
theorem dX9_cell_100 : decode cX9_cell 100 = .ok (.i2l, 1) := by decide +kernel
theorem dX9_cell_101 : decode cX9_cell 101 = .ok (.lreturn, 1) := by decide +kernel
set_option maxRecDepth 20000 in
theorem ggX9_copy_X9_isSheet : GoodIn wsX9_copy wsX9_isSheet := goodIn_r _ [8, 9, 10, 7, 11] (by decide +kernel) (by decide +kernel)
set_option maxRecDepth 20000 in
theorem gX9_copy_X9_isSheet : GoodIn wsX9_copy (va_wsS RX9 78 yX9_isSheet wsX9_isSheet) := goodIn_app (goodIn_of _ (by decide +kernel)) ggX9_copy_X9_isSheet
set_option maxRecDepth 20000 in
theorem ggX9_copy_X9_fails : GoodIn wsX9_copy wsX9_fails := goodIn_r _ [15, 1, 16, 17, 18, 19, 20, 21, 22, 23, 24, 25, 26, 27, 28, 29, 30, 31, 32, 33, 34, 35, 36, 37, 38, 39, 40, 41] (by decide +kernel) (by decide +kernel)
set_option maxRecDepth 20000 in
theorem gX9_copy_X9_fails : GoodIn wsX9_copy (wsV RX9 89 RX9 yX9_fails wsX9_fails) := goodIn_app (goodIn_of _ (by decide +kernel)) ggX9_copy_X9_fails
theorem dX9_copy_0 : decode cX9_copy 0 = .ok (.aload_n 0, 1) := by decide +kernel
theorem dX9_copy_1 : decode cX9_copy 1 = .ok (.iconst 0, 1) := by decide +kernel
theorem dX9_copy_2 : decode cX9_copy 2 = .ok (.putfield 65, 3) := by decide +kernel
theorem dX9_copy_5 : decode cX9_copy 5 = .ok (.iload_n 1, 1) := by decide +kernel
theorem dX9_copy_6 : decode cX9_copy 6 = .ok (.invokestatic 78, 3) := by decide +kernel
theorem dX9_copy_9 : decode cX9_copy 9 = .ok (.ifCond .eq 10, 3) := by decide +kernel
theorem dX9_copy_12 : decode cX9_copy 12 = .ok (.iload_n 3, 1) := by decide +kernel
theorem dX9_copy_13 : decode cX9_copy 13 = .ok (.invokestatic 78, 3) := by decide +kernel
theorem dX9_copy_16 : decode cX9_copy 16 = .ok (.ifCond .ne 5, 3) := by decide +kernel
theorem dX9_copy_19 : decode cX9_copy 19 = .ok (.iconst (-1), 1) := by decide +kernel
theorem dX9_copy_20 : decode cX9_copy 20 = .ok (.ireturn, 1) := by decide +kernel
theorem dX9_copy_21 : decode cX9_copy 21 = .ok (.aload_n 0, 1) := by decide +kernel
theorem dX9_copy_22 : decode cX9_copy 22 = .ok (.getfield 9, 3) := by decide +kernel
theorem dX9_copy_25 : decode cX9_copy 25 = .ok (.iload_n 1, 1) := by decide +kernel
theorem dX9_copy_26 : decode cX9_copy 26 = .ok (.iaload, 1) := by decide +kernel
theorem dX9_copy_27 : decode cX9_copy 27 = .ok (.bipush (-9), 2) := by decide +kernel
theorem dX9_copy_29 : decode cX9_copy 29 = .ok (.if_icmp .eq 14, 3) := by decide +kernel
theorem dX9_copy_32 : decode cX9_copy 32 = .ok (.aload_n 0, 1) := by decide +kernel
theorem dX9_copy_33 : decode cX9_copy 33 = .ok (.getfield 9, 3) := by decide +kernel
theorem dX9_copy_36 : decode cX9_copy 36 = .ok (.iload_n 3, 1) := by decide +kernel
theorem dX9_copy_37 : decode cX9_copy 37 = .ok (.iaload, 1) := by decide +kernel
theorem dX9_copy_38 : decode cX9_copy 38 = .ok (.bipush (-9), 2) := by decide +kernel
theorem dX9_copy_40 : decode cX9_copy 40 = .ok (.if_icmp .ne 9, 3) := by decide +kernel
theorem dX9_copy_43 : decode cX9_copy 43 = .ok (.aload_n 0, 1) := by decide +kernel
theorem dX9_copy_44 : decode cX9_copy 44 = .ok (.iconst 1, 1) := by decide +kernel
theorem dX9_copy_45 : decode cX9_copy 45 = .ok (.invokevirtual 89, 3) := by decide +kernel
theorem dX9_copy_48 : decode cX9_copy 48 = .ok (.ireturn, 1) := by decide +kernel
theorem dX9_copy_49 : decode cX9_copy 49 = .ok (.aload_n 0, 1) := by decide +kernel
theorem dX9_copy_50 : decode cX9_copy 50 = .ok (.getfield 9, 3) := by decide +kernel
theorem dX9_copy_53 : decode cX9_copy 53 = .ok (.iload_n 1, 1) := by decide +kernel
theorem dX9_copy_54 : decode cX9_copy 54 = .ok (.iaload, 1) := by decide +kernel
theorem dX9_copy_55 : decode cX9_copy 55 = .ok (.aload_n 0, 1) := by decide +kernel
theorem dX9_copy_56 : decode cX9_copy 56 = .ok (.getfield 9, 3) := by decide +kernel
theorem dX9_copy_59 : decode cX9_copy 59 = .ok (.iload_n 3, 1) := by decide +kernel
theorem dX9_copy_60 : decode cX9_copy 60 = .ok (.iaload, 1) := by decide +kernel
theorem dX9_copy_61 : decode cX9_copy 61 = .ok (.if_icmp .eq 9, 3) := by decide +kernel
theorem dX9_copy_64 : decode cX9_copy 64 = .ok (.aload_n 0, 1) := by decide +kernel
theorem dX9_copy_65 : decode cX9_copy 65 = .ok (.iconst 2, 1) := by decide +kernel
theorem dX9_copy_66 : decode cX9_copy 66 = .ok (.invokevirtual 89, 3) := by decide +kernel
theorem dX9_copy_69 : decode cX9_copy 69 = .ok (.ireturn, 1) := by decide +kernel
theorem dX9_copy_70 : decode cX9_copy 70 = .ok (.iload_n 2, 1) := by decide +kernel
theorem dX9_copy_71 : decode cX9_copy 71 = .ok (.ifCond .lt 38, 3) := by decide +kernel
theorem dX9_copy_74 : decode cX9_copy 74 = .ok (.iload 4, 2) := by decide +kernel
theorem dX9_copy_76 : decode cX9_copy 76 = .ok (.ifCond .lt 33, 3) := by decide +kernel
theorem dX9_copy_79 : decode cX9_copy 79 = .ok (.iload 5, 2) := by decide +kernel
theorem dX9_copy_81 : decode cX9_copy 81 = .ok (.ifCond .lt 28, 3) := by decide +kernel
theorem dX9_copy_84 : decode cX9_copy 84 = .ok (.iload_n 2, 1) := by decide +kernel
theorem dX9_copy_85 : decode cX9_copy 85 = .ok (.aload_n 0, 1) := by decide +kernel
theorem dX9_copy_86 : decode cX9_copy 86 = .ok (.getfield 13, 3) := by decide +kernel
theorem dX9_copy_89 : decode cX9_copy 89 = .ok (.iload_n 1, 1) := by decide +kernel
theorem dX9_copy_90 : decode cX9_copy 90 = .ok (.iaload, 1) := by decide +kernel
theorem dX9_copy_91 : decode cX9_copy 91 = .ok (.if_icmp .gt 18, 3) := by decide +kernel
theorem dX9_copy_94 : decode cX9_copy 94 = .ok (.iload 4, 2) := by decide +kernel
theorem dX9_copy_96 : decode cX9_copy 96 = .ok (.aload_n 0, 1) := by decide +kernel
theorem dX9_copy_97 : decode cX9_copy 97 = .ok (.getfield 13, 3) := by decide +kernel
theorem dX9_copy_100 : decode cX9_copy 100 = .ok (.iload_n 3, 1) := by decide +kernel
theorem dX9_copy_101 : decode cX9_copy 101 = .ok (.iaload, 1) := by decide +kernel
theorem dX9_copy_102 : decode cX9_copy 102 = .ok (.if_icmp .gt 7, 3) := by decide +kernel
theorem dX9_copy_105 : decode cX9_copy 105 = .ok (.iconst 1, 1) := by decide +kernel
theorem dX9_copy_106 : decode cX9_copy 106 = .ok (.goto 4, 3) := by decide +kernel
theorem dX9_copy_109 : decode cX9_copy 109 = .ok (.iconst 0, 1) := by decide +kernel
theorem dX9_copy_110 : decode cX9_copy 110 = .ok (.istore 6, 2) := by decide +kernel
theorem dX9_copy_112 : decode cX9_copy 112 = .ok (.iload 6, 2) := by decide +kernel
theorem dX9_copy_114 : decode cX9_copy 114 = .ok (.ifCond .eq 30, 3) := by decide +kernel
theorem dX9_copy_117 : decode cX9_copy 117 = .ok (.iload 5, 2) := by decide +kernel
theorem dX9_copy_119 : decode cX9_copy 119 = .ok (.aload_n 0, 1) := by decide +kernel
theorem dX9_copy_120 : decode cX9_copy 120 = .ok (.getfield 13, 3) := by decide +kernel
theorem dX9_copy_123 : decode cX9_copy 123 = .ok (.iload_n 1, 1) := by decide +kernel
theorem dX9_copy_124 : decode cX9_copy 124 = .ok (.iaload, 1) := by decide +kernel
theorem dX9_copy_125 : decode cX9_copy 125 = .ok (.iload_n 2, 1) := by decide +kernel
theorem dX9_copy_126 : decode cX9_copy 126 = .ok (.isub, 1) := by decide +kernel
theorem dX9_copy_127 : decode cX9_copy 127 = .ok (.if_icmp .gt 17, 3) := by decide +kernel
theorem dX9_copy_130 : decode cX9_copy 130 = .ok (.iload 5, 2) := by decide +kernel
theorem dX9_copy_132 : decode cX9_copy 132 = .ok (.aload_n 0, 1) := by decide +kernel
theorem dX9_copy_133 : decode cX9_copy 133 = .ok (.getfield 13, 3) := by decide +kernel
theorem dX9_copy_136 : decode cX9_copy 136 = .ok (.iload_n 3, 1) := by decide +kernel
theorem dX9_copy_137 : decode cX9_copy 137 = .ok (.iaload, 1) := by decide +kernel
theorem dX9_copy_138 : decode cX9_copy 138 = .ok (.iload 4, 2) := by decide +kernel
theorem dX9_copy_140 : decode cX9_copy 140 = .ok (.isub, 1) := by decide +kernel
theorem dX9_copy_141 : decode cX9_copy 141 = .ok (.if_icmp .le 9, 3) := by decide +kernel
theorem dX9_copy_144 : decode cX9_copy 144 = .ok (.aload_n 0, 1) := by decide +kernel
theorem dX9_copy_145 : decode cX9_copy 145 = .ok (.iconst 3, 1) := by decide +kernel
theorem dX9_copy_146 : decode cX9_copy 146 = .ok (.invokevirtual 89, 3) := by decide +kernel
theorem dX9_copy_149 : decode cX9_copy 149 = .ok (.ireturn, 1) := by decide +kernel
theorem dX9_copy_150 : decode cX9_copy 150 = .ok (.iload_n 2, 1) := by decide +kernel
theorem dX9_copy_151 : decode cX9_copy 151 = .ok (.iload 4, 2) := by decide +kernel
theorem dX9_copy_153 : decode cX9_copy 153 = .ok (.if_icmp .ge 7, 3) := by decide +kernel
theorem dX9_copy_156 : decode cX9_copy 156 = .ok (.iconst 1, 1) := by decide +kernel
theorem dX9_copy_157 : decode cX9_copy 157 = .ok (.goto 4, 3) := by decide +kernel
theorem dX9_copy_160 : decode cX9_copy 160 = .ok (.iconst 0, 1) := by decide +kernel
theorem dX9_copy_161 : decode cX9_copy 161 = .ok (.istore 7, 2) := by decide +kernel
theorem dX9_copy_163 : decode cX9_copy 163 = .ok (.iconst 0, 1) := by decide +kernel
theorem dX9_copy_164 : decode cX9_copy 164 = .ok (.istore 8, 2) := by decide +kernel
theorem dX9_copy_166 : decode cX9_copy 166 = .ok (.iload 8, 2) := by decide +kernel
theorem dX9_copy_168 : decode cX9_copy 168 = .ok (.iload 5, 2) := by decide +kernel
theorem dX9_copy_170 : decode cX9_copy 170 = .ok (.if_icmp .ge 57, 3) := by decide +kernel
theorem dX9_copy_173 : decode cX9_copy 173 = .ok (.iload 7, 2) := by decide +kernel
theorem dX9_copy_175 : decode cX9_copy 175 = .ok (.ifCond .eq 13, 3) := by decide +kernel
theorem dX9_copy_178 : decode cX9_copy 178 = .ok (.iload 5, 2) := by decide +kernel
theorem dX9_copy_180 : decode cX9_copy 180 = .ok (.iconst 1, 1) := by decide +kernel
theorem dX9_copy_181 : decode cX9_copy 181 = .ok (.isub, 1) := by decide +kernel
theorem dX9_copy_182 : decode cX9_copy 182 = .ok (.iload 8, 2) := by decide +kernel
theorem dX9_copy_184 : decode cX9_copy 184 = .ok (.isub, 1) := by decide +kernel
theorem dX9_copy_185 : decode cX9_copy 185 = .ok (.goto 5, 3) := by decide +kernel
theorem dX9_copy_188 : decode cX9_copy 188 = .ok (.iload 8, 2) := by decide +kernel
theorem dX9_copy_190 : decode cX9_copy 190 = .ok (.istore 9, 2) := by decide +kernel
theorem dX9_copy_192 : decode cX9_copy 192 = .ok (.aload_n 0, 1) := by decide +kernel
theorem dX9_copy_193 : decode cX9_copy 193 = .ok (.getfield 16, 3) := by decide +kernel
theorem dX9_copy_196 : decode cX9_copy 196 = .ok (.bipush 80, 2) := by decide +kernel
theorem dX9_copy_198 : decode cX9_copy 198 = .ok (.iload_n 3, 1) := by decide +kernel
theorem dX9_copy_199 : decode cX9_copy 199 = .ok (.imul, 1) := by decide +kernel
theorem dX9_copy_200 : decode cX9_copy 200 = .ok (.iload 4, 2) := by decide +kernel
theorem dX9_copy_202 : decode cX9_copy 202 = .ok (.iadd, 1) := by decide +kernel
theorem dX9_copy_203 : decode cX9_copy 203 = .ok (.iload 9, 2) := by decide +kernel
theorem dX9_copy_205 : decode cX9_copy 205 = .ok (.iadd, 1) := by decide +kernel
theorem dX9_copy_206 : decode cX9_copy 206 = .ok (.aload_n 0, 1) := by decide +kernel
theorem dX9_copy_207 : decode cX9_copy 207 = .ok (.getfield 16, 3) := by decide +kernel
theorem dX9_copy_210 : decode cX9_copy 210 = .ok (.bipush 80, 2) := by decide +kernel
theorem dX9_copy_212 : decode cX9_copy 212 = .ok (.iload_n 1, 1) := by decide +kernel
theorem dX9_copy_213 : decode cX9_copy 213 = .ok (.imul, 1) := by decide +kernel
theorem dX9_copy_214 : decode cX9_copy 214 = .ok (.iload_n 2, 1) := by decide +kernel
theorem dX9_copy_215 : decode cX9_copy 215 = .ok (.iadd, 1) := by decide +kernel
theorem dX9_copy_216 : decode cX9_copy 216 = .ok (.iload 9, 2) := by decide +kernel
theorem dX9_copy_218 : decode cX9_copy 218 = .ok (.iadd, 1) := by decide +kernel
theorem dX9_copy_219 : decode cX9_copy 219 = .ok (.iaload, 1) := by decide +kernel
theorem dX9_copy_220 : decode cX9_copy 220 = .ok (.iastore, 1) := by decide +kernel
theorem dX9_copy_221 : decode cX9_copy 221 = .ok (.iinc 8 1, 3) := by decide +kernel
theorem dX9_copy_224 : decode cX9_copy 224 = .ok (.goto (-58), 3) := by decide +kernel
theorem dX9_copy_227 : decode cX9_copy 227 = .ok (.iload 5, 2) := by decide +kernel
theorem dX9_copy_229 : decode cX9_copy 229 = .ok (.ireturn, 1) := by decide +kernel
theorem dX9_begins_0 : decode cX9_begins 0 = .ok (.aload_n 0, 1) := by decide +kernel
theorem dX9_begins_1 : decode cX9_begins 1 = .ok (.bipush 31, 2) := by decide +kernel
theorem dX9_begins_3 : decode cX9_begins 3 = .ok (.aload_n 0, 1) := by decide +kernel
theorem dX9_begins_4 : decode cX9_begins 4 = .ok (.getfield 182, 3) := by decide +kernel
theorem dX9_begins_7 : decode cX9_begins 7 = .ok (.imul, 1) := by decide +kernel
theorem dX9_begins_8 : decode cX9_begins 8 = .ok (.iload_n 1, 1) := by decide +kernel
theorem dX9_begins_9 : decode cX9_begins 9 = .ok (.iadd, 1) := by decide +kernel
theorem dX9_begins_10 : decode cX9_begins 10 = .ok (.putfield 182, 3) := by decide +kernel
theorem dX9_begins_13 : decode cX9_begins 13 = .ok (.return_, 1) := by decide +kernel
set_option maxRecDepth 20000 in
theorem ggX9_inCries_X9_isIn : GoodIn wsX9_inCries wsX9_isIn := goodIn_r _ [7, 8, 9, 10, 6, 11, 12, 13, 14, 15, 16, 17, 18, 19, 20, 21, 22, 23, 24, 25, 26, 27, 28, 29, 30, 31, 32, 33, 34, 35, 36, 37, 38] (by decide +kernel) (by decide +kernel)
set_option maxRecDepth 20000 in
theorem gX9_inCries_X9_isIn : GoodIn wsX9_inCries (wsV RX9 175 RX9 yX9_isIn wsX9_isIn) := goodIn_app (goodIn_of _ (by decide +kernel)) ggX9_inCries_X9_isIn
theorem dX9_inCries_0 : decode cX9_inCries 0 = .ok (.iconst 0, 1) := by decide +kernel
theorem dX9_inCries_1 : decode cX9_inCries 1 = .ok (.istore_n 2, 1) := by decide +kernel
theorem dX9_inCries_2 : decode cX9_inCries 2 = .ok (.iconst 0, 1) := by decide +kernel
theorem dX9_inCries_3 : decode cX9_inCries 3 = .ok (.istore_n 3, 1) := by decide +kernel
theorem dX9_inCries_4 : decode cX9_inCries 4 = .ok (.iload_n 3, 1) := by decide +kernel
theorem dX9_inCries_5 : decode cX9_inCries 5 = .ok (.aload_n 0, 1) := by decide +kernel
theorem dX9_inCries_6 : decode cX9_inCries 6 = .ok (.getfield 75, 3) := by decide +kernel
theorem dX9_inCries_9 : decode cX9_inCries 9 = .ok (.if_icmp .ge 32, 3) := by decide +kernel
theorem dX9_inCries_12 : decode cX9_inCries 12 = .ok (.iload_n 2, 1) := by decide +kernel
theorem dX9_inCries_13 : decode cX9_inCries 13 = .ok (.aload_n 0, 1) := by decide +kernel
theorem dX9_inCries_14 : decode cX9_inCries 14 = .ok (.iload_n 3, 1) := by decide +kernel
theorem dX9_inCries_15 : decode cX9_inCries 15 = .ok (.iload_n 1, 1) := by decide +kernel
theorem dX9_inCries_16 : decode cX9_inCries 16 = .ok (.aload_n 0, 1) := by decide +kernel
theorem dX9_inCries_17 : decode cX9_inCries 17 = .ok (.getfield 22, 3) := by decide +kernel
theorem dX9_inCries_20 : decode cX9_inCries 20 = .ok (.iload_n 3, 1) := by decide +kernel
theorem dX9_inCries_21 : decode cX9_inCries 21 = .ok (.iaload, 1) := by decide +kernel
theorem dX9_inCries_22 : decode cX9_inCries 22 = .ok (.invokevirtual 175, 3) := by decide +kernel
theorem dX9_inCries_25 : decode cX9_inCries 25 = .ok (.ifCond .eq 7, 3) := by decide +kernel
theorem dX9_inCries_28 : decode cX9_inCries 28 = .ok (.iconst 1, 1) := by decide +kernel
theorem dX9_inCries_29 : decode cX9_inCries 29 = .ok (.goto 4, 3) := by decide +kernel
theorem dX9_inCries_32 : decode cX9_inCries 32 = .ok (.iconst 0, 1) := by decide +kernel
theorem dX9_inCries_33 : decode cX9_inCries 33 = .ok (.iadd, 1) := by decide +kernel
theorem dX9_inCries_34 : decode cX9_inCries 34 = .ok (.istore_n 2, 1) := by decide +kernel
theorem dX9_inCries_35 : decode cX9_inCries 35 = .ok (.iinc 3 1, 3) := by decide +kernel
theorem dX9_inCries_38 : decode cX9_inCries 38 = .ok (.goto (-34), 3) := by decide +kernel
theorem dX9_inCries_41 : decode cX9_inCries 41 = .ok (.iload_n 2, 1) := by decide +kernel
theorem dX9_inCries_42 : decode cX9_inCries 42 = .ok (.ireturn, 1) := by decide +kernel
set_option maxRecDepth 20000 in
theorem ggX9_tell_X9_isWord : GoodIn wsX9_tell wsX9_isWord := goodIn_r _ [5, 6, 7, 4, 8] (by decide +kernel) (by decide +kernel)
set_option maxRecDepth 20000 in
theorem gX9_tell_X9_isWord : GoodIn wsX9_tell (va_wsS RX9 102 yX9_isWord wsX9_isWord) := goodIn_app (goodIn_of _ (by decide +kernel)) ggX9_tell_X9_isWord
set_option maxRecDepth 20000 in
theorem ggX9_tell_X9_inCries : GoodIn wsX9_tell wsX9_inCries := goodIn_r _ [12, 13, 14, 15, 16, 17, 4, 18, 19, 20, 21, 22, 23, 29, 30, 31, 32, 33, 34, 35, 36, 37, 38, 39, 40, 41, 42, 43, 44, 45, 46, 47, 48, 49, 50, 51, 52, 53, 54] (by decide +kernel) (by decide +kernel)
set_option maxRecDepth 20000 in
theorem gX9_tell_X9_inCries : GoodIn wsX9_tell (wsV RX9 185 RX9 yX9_inCries wsX9_inCries) := goodIn_app (goodIn_of _ (by decide +kernel)) ggX9_tell_X9_inCries
set_option maxRecDepth 20000 in
theorem ggX9_tell_X9_begins : GoodIn wsX9_tell wsX9_begins := goodIn_r _ [27, 28, 29, 30, 31, 32, 33, 34, 35, 36, 37, 38, 39, 40, 41, 42, 43, 44, 45, 46, 47, 48, 49, 50, 51, 52, 53, 54] (by decide +kernel) (by decide +kernel)
set_option maxRecDepth 20000 in
theorem gX9_tell_X9_begins : GoodIn wsX9_tell (wsV RX9 188 RX9 yX9_begins wsX9_begins) := goodIn_app (goodIn_of _ (by decide +kernel)) ggX9_tell_X9_begins
theorem dX9_tell_0 : decode cX9_tell 0 = .ok (.iload_n 1, 1) := by decide +kernel
theorem dX9_tell_1 : decode cX9_tell 1 = .ok (.invokestatic 102, 3) := by decide +kernel
theorem dX9_tell_4 : decode cX9_tell 4 = .ok (.ifCond .ne 5, 3) := by decide +kernel
theorem dX9_tell_7 : decode cX9_tell 7 = .ok (.iconst (-1), 1) := by decide +kernel
theorem dX9_tell_8 : decode cX9_tell 8 = .ok (.ireturn, 1) := by decide +kernel
theorem dX9_tell_9 : decode cX9_tell 9 = .ok (.aload_n 0, 1) := by decide +kernel
theorem dX9_tell_10 : decode cX9_tell 10 = .ok (.iload_n 1, 1) := by decide +kernel
theorem dX9_tell_11 : decode cX9_tell 11 = .ok (.invokevirtual 185, 3) := by decide +kernel
theorem dX9_tell_14 : decode cX9_tell 14 = .ok (.istore_n 2, 1) := by decide +kernel
theorem dX9_tell_15 : decode cX9_tell 15 = .ok (.aload_n 0, 1) := by decide +kernel
theorem dX9_tell_16 : decode cX9_tell 16 = .ok (.getfield 19, 3) := by decide +kernel
theorem dX9_tell_19 : decode cX9_tell 19 = .ok (.iload_n 1, 1) := by decide +kernel
theorem dX9_tell_20 : decode cX9_tell 20 = .ok (.iaload, 1) := by decide +kernel
theorem dX9_tell_21 : decode cX9_tell 21 = .ok (.lookupswitch 69 #[(1, 27), (2, 42)], 27) := by decide +kernel
theorem dX9_tell_48 : decode cX9_tell 48 = .ok (.aload_n 0, 1) := by decide +kernel
theorem dX9_tell_49 : decode cX9_tell 49 = .ok (.iconst 2, 1) := by decide +kernel
theorem dX9_tell_50 : decode cX9_tell 50 = .ok (.invokevirtual 188, 3) := by decide +kernel
theorem dX9_tell_53 : decode cX9_tell 53 = .ok (.aload_n 0, 1) := by decide +kernel
theorem dX9_tell_54 : decode cX9_tell 54 = .ok (.iconst 1, 1) := by decide +kernel
theorem dX9_tell_55 : decode cX9_tell 55 = .ok (.invokevirtual 188, 3) := by decide +kernel
theorem dX9_tell_58 : decode cX9_tell 58 = .ok (.iload_n 2, 1) := by decide +kernel
theorem dX9_tell_59 : decode cX9_tell 59 = .ok (.bipush 100, 2) := by decide +kernel
theorem dX9_tell_61 : decode cX9_tell 61 = .ok (.iadd, 1) := by decide +kernel
theorem dX9_tell_62 : decode cX9_tell 62 = .ok (.ireturn, 1) := by decide +kernel
theorem dX9_tell_63 : decode cX9_tell 63 = .ok (.aload_n 0, 1) := by decide +kernel
theorem dX9_tell_64 : decode cX9_tell 64 = .ok (.iconst 3, 1) := by decide +kernel
theorem dX9_tell_65 : decode cX9_tell 65 = .ok (.invokevirtual 188, 3) := by decide +kernel
theorem dX9_tell_68 : decode cX9_tell 68 = .ok (.aload_n 0, 1) := by decide +kernel
theorem dX9_tell_69 : decode cX9_tell 69 = .ok (.iconst 2, 1) := by decide +kernel
theorem dX9_tell_70 : decode cX9_tell 70 = .ok (.invokevirtual 188, 3) := by decide +kernel
theorem dX9_tell_73 : decode cX9_tell 73 = .ok (.aload_n 0, 1) := by decide +kernel
theorem dX9_tell_74 : decode cX9_tell 74 = .ok (.iconst 1, 1) := by decide +kernel
theorem dX9_tell_75 : decode cX9_tell 75 = .ok (.invokevirtual 188, 3) := by decide +kernel
theorem dX9_tell_78 : decode cX9_tell 78 = .ok (.aload_n 0, 1) := by decide +kernel
theorem dX9_tell_79 : decode cX9_tell 79 = .ok (.iconst 1, 1) := by decide +kernel
theorem dX9_tell_80 : decode cX9_tell 80 = .ok (.invokevirtual 188, 3) := by decide +kernel
theorem dX9_tell_83 : decode cX9_tell 83 = .ok (.iconst 2, 1) := by decide +kernel
theorem dX9_tell_84 : decode cX9_tell 84 = .ok (.iload_n 2, 1) := by decide +kernel
theorem dX9_tell_85 : decode cX9_tell 85 = .ok (.imul, 1) := by decide +kernel
theorem dX9_tell_86 : decode cX9_tell 86 = .ok (.bipush 100, 2) := by decide +kernel
theorem dX9_tell_88 : decode cX9_tell 88 = .ok (.iadd, 1) := by decide +kernel
theorem dX9_tell_89 : decode cX9_tell 89 = .ok (.ireturn, 1) := by decide +kernel
theorem dX9_tell_90 : decode cX9_tell 90 = .ok (.aload_n 0, 1) := by decide +kernel
theorem dX9_tell_91 : decode cX9_tell 91 = .ok (.iconst 1, 1) := by decide +kernel
theorem dX9_tell_92 : decode cX9_tell 92 = .ok (.invokevirtual 188, 3) := by decide +kernel
theorem dX9_tell_95 : decode cX9_tell 95 = .ok (.iload_n 2, 1) := by decide +kernel
theorem dX9_tell_96 : decode cX9_tell 96 = .ok (.ireturn, 1) := by decide +kernel
set_option maxRecDepth 20000 in
theorem ggX9_sing_X9_isWord : GoodIn wsX9_sing wsX9_isWord := goodIn_r _ [5, 6, 7, 4, 8] (by decide +kernel) (by decide +kernel)
set_option maxRecDepth 20000 in
theorem gX9_sing_X9_isWord : GoodIn wsX9_sing (va_wsS RX9 102 yX9_isWord wsX9_isWord) := goodIn_app (goodIn_of _ (by decide +kernel)) ggX9_sing_X9_isWord
set_option maxRecDepth 20000 in
theorem ggX9_sing_X9_begins : GoodIn wsX9_sing wsX9_begins := goodIn_r _ [12, 13, 14, 15, 16, 17, 18, 19, 20, 21, 22, 23, 24, 25, 26, 27, 28, 29, 30, 31, 32, 33, 34, 35, 36, 37, 38, 39] (by decide +kernel) (by decide +kernel)
set_option maxRecDepth 20000 in
theorem gX9_sing_X9_begins : GoodIn wsX9_sing (wsV RX9 188 RX9 yX9_begins wsX9_begins) := goodIn_app (goodIn_of _ (by decide +kernel)) ggX9_sing_X9_begins
theorem dX9_sing_0 : decode cX9_sing 0 = .ok (.iload_n 1, 1) := by decide +kernel
theorem dX9_sing_1 : decode cX9_sing 1 = .ok (.invokestatic 102, 3) := by decide +kernel
theorem dX9_sing_4 : decode cX9_sing 4 = .ok (.ifCond .ne 5, 3) := by decide +kernel
theorem dX9_sing_7 : decode cX9_sing 7 = .ok (.iconst (-1), 1) := by decide +kernel
theorem dX9_sing_8 : decode cX9_sing 8 = .ok (.ireturn, 1) := by decide +kernel
theorem dX9_sing_9 : decode cX9_sing 9 = .ok (.aload_n 0, 1) := by decide +kernel
theorem dX9_sing_10 : decode cX9_sing 10 = .ok (.aload_n 0, 1) := by decide +kernel
theorem dX9_sing_11 : decode cX9_sing 11 = .ok (.getfield 19, 3) := by decide +kernel
theorem dX9_sing_14 : decode cX9_sing 14 = .ok (.iload_n 1, 1) := by decide +kernel
theorem dX9_sing_15 : decode cX9_sing 15 = .ok (.iaload, 1) := by decide +kernel
theorem dX9_sing_16 : decode cX9_sing 16 = .ok (.iconst 2, 1) := by decide +kernel
theorem dX9_sing_17 : decode cX9_sing 17 = .ok (.if_icmp .ne 7, 3) := by decide +kernel
theorem dX9_sing_20 : decode cX9_sing 20 = .ok (.iconst 5, 1) := by decide +kernel
theorem dX9_sing_21 : decode cX9_sing 21 = .ok (.goto 4, 3) := by decide +kernel
theorem dX9_sing_24 : decode cX9_sing 24 = .ok (.iconst 4, 1) := by decide +kernel
theorem dX9_sing_25 : decode cX9_sing 25 = .ok (.invokevirtual 188, 3) := by decide +kernel
theorem dX9_sing_28 : decode cX9_sing 28 = .ok (.aload_n 0, 1) := by decide +kernel
theorem dX9_sing_29 : decode cX9_sing 29 = .ok (.getfield 19, 3) := by decide +kernel
theorem dX9_sing_32 : decode cX9_sing 32 = .ok (.iload_n 1, 1) := by decide +kernel
theorem dX9_sing_33 : decode cX9_sing 33 = .ok (.iaload, 1) := by decide +kernel
theorem dX9_sing_34 : decode cX9_sing 34 = .ok (.iconst 2, 1) := by decide +kernel
theorem dX9_sing_35 : decode cX9_sing 35 = .ok (.if_icmp .ne 8, 3) := by decide +kernel
theorem dX9_sing_38 : decode cX9_sing 38 = .ok (.bipush 40, 2) := by decide +kernel
theorem dX9_sing_40 : decode cX9_sing 40 = .ok (.goto 4, 3) := by decide +kernel
theorem dX9_sing_43 : decode cX9_sing 43 = .ok (.iload_n 1, 1) := by decide +kernel
theorem dX9_sing_44 : decode cX9_sing 44 = .ok (.ireturn, 1) := by decide +kernel
set_option maxRecDepth 20000 in
theorem ggX9_as_X9_isWord : GoodIn wsX9_as wsX9_isWord := goodIn_r _ [6, 7, 8, 5, 9] (by decide +kernel) (by decide +kernel)
set_option maxRecDepth 20000 in
theorem gX9_as_X9_isWord : GoodIn wsX9_as (va_wsS RX9 102 yX9_isWord wsX9_isWord) := goodIn_app (goodIn_of _ (by decide +kernel)) ggX9_as_X9_isWord
set_option maxRecDepth 20000 in
theorem ggX9_as_X9_inside : GoodIn wsX9_as wsX9_inside := goodIn_r _ [9] (by decide +kernel) (by decide +kernel)
set_option maxRecDepth 20000 in
theorem gX9_as_X9_inside : GoodIn wsX9_as (va_wsS RX9 71 yX9_inside wsX9_inside) := goodIn_app (goodIn_of _ (by decide +kernel)) ggX9_as_X9_inside
set_option maxRecDepth 20000 in
theorem ggX9_as_X9_fails : GoodIn wsX9_as wsX9_fails := goodIn_r _ [13, 1, 14, 15, 16, 17, 18, 19, 20, 21, 22, 23, 24, 25, 26, 27, 28, 29, 30, 31, 32, 33, 34, 35, 36, 37, 38, 39] (by decide +kernel) (by decide +kernel)
set_option maxRecDepth 20000 in
theorem gX9_as_X9_fails : GoodIn wsX9_as (wsV RX9 89 RX9 yX9_fails wsX9_fails) := goodIn_app (goodIn_of _ (by decide +kernel)) ggX9_as_X9_fails
theorem dX9_as_0 : decode cX9_as 0 = .ok (.aload_n 0, 1) := by decide +kernel
theorem dX9_as_1 : decode cX9_as 1 = .ok (.iconst 0, 1) := by decide +kernel
theorem dX9_as_2 : decode cX9_as 2 = .ok (.putfield 65, 3) := by decide +kernel
theorem dX9_as_5 : decode cX9_as 5 = .ok (.iload_n 1, 1) := by decide +kernel
theorem dX9_as_6 : decode cX9_as 6 = .ok (.invokestatic 102, 3) := by decide +kernel
theorem dX9_as_9 : decode cX9_as 9 = .ok (.ifCond .ne 5, 3) := by decide +kernel
theorem dX9_as_12 : decode cX9_as 12 = .ok (.iconst (-1), 1) := by decide +kernel
theorem dX9_as_13 : decode cX9_as 13 = .ok (.ireturn, 1) := by decide +kernel
theorem dX9_as_14 : decode cX9_as 14 = .ok (.iload_n 2, 1) := by decide +kernel
theorem dX9_as_15 : decode cX9_as 15 = .ok (.iconst 0, 1) := by decide +kernel
theorem dX9_as_16 : decode cX9_as 16 = .ok (.iconst 2, 1) := by decide +kernel
theorem dX9_as_17 : decode cX9_as 17 = .ok (.invokestatic 71, 3) := by decide +kernel
theorem dX9_as_20 : decode cX9_as 20 = .ok (.ifCond .ne 6, 3) := by decide +kernel
theorem dX9_as_23 : decode cX9_as 23 = .ok (.bipush (-2), 2) := by decide +kernel
theorem dX9_as_25 : decode cX9_as 25 = .ok (.ireturn, 1) := by decide +kernel
theorem dX9_as_26 : decode cX9_as 26 = .ok (.aload_n 0, 1) := by decide +kernel
theorem dX9_as_27 : decode cX9_as 27 = .ok (.getfield 19, 3) := by decide +kernel
theorem dX9_as_30 : decode cX9_as 30 = .ok (.iload_n 1, 1) := by decide +kernel
theorem dX9_as_31 : decode cX9_as 31 = .ok (.iaload, 1) := by decide +kernel
theorem dX9_as_32 : decode cX9_as 32 = .ok (.iload_n 2, 1) := by decide +kernel
theorem dX9_as_33 : decode cX9_as 33 = .ok (.if_icmp .lt 7, 3) := by decide +kernel
theorem dX9_as_36 : decode cX9_as 36 = .ok (.iconst 1, 1) := by decide +kernel
theorem dX9_as_37 : decode cX9_as 37 = .ok (.goto 8, 3) := by decide +kernel
theorem dX9_as_40 : decode cX9_as 40 = .ok (.aload_n 0, 1) := by decide +kernel
theorem dX9_as_41 : decode cX9_as 41 = .ok (.iconst 2, 1) := by decide +kernel
theorem dX9_as_42 : decode cX9_as 42 = .ok (.invokevirtual 89, 3) := by decide +kernel
theorem dX9_as_45 : decode cX9_as 45 = .ok (.ireturn, 1) := by decide +kernel
theorem dX9_trace_0 : decode cX9_trace 0 = .ok (.aload_n 0, 1) := by decide +kernel
theorem dX9_trace_1 : decode cX9_trace 1 = .ok (.getfield 182, 3) := by decide +kernel
theorem dX9_trace_4 : decode cX9_trace 4 = .ok (.ireturn, 1) := by decide +kernel
theorem dX9_fault_0 : decode cX9_fault 0 = .ok (.aload_n 0, 1) := by decide +kernel
theorem dX9_fault_1 : decode cX9_fault 1 = .ok (.getfield 65, 3) := by decide +kernel
theorem dX9_fault_4 : decode cX9_fault 4 = .ok (.ireturn, 1) := by decide +kernel
theorem dX9_many_0 : decode cX9_many 0 = .ok (.aload_n 0, 1) := by decide +kernel
theorem dX9_many_1 : decode cX9_many 1 = .ok (.getfield 75, 3) := by decide +kernel
theorem dX9_many_4 : decode cX9_many 4 = .ok (.ireturn, 1) := by decide +kernel
theorem dJ9_max_7cf53_0 : decode cJ9_max_7cf53 0 = .ok (.iload_n 0, 1) := by decide +kernel
theorem dJ9_max_7cf53_1 : decode cJ9_max_7cf53 1 = .ok (.iload_n 1, 1) := by decide +kernel
theorem dJ9_max_7cf53_2 : decode cJ9_max_7cf53 2 = .ok (.if_icmp .lt 7, 3) := by decide +kernel
theorem dJ9_max_7cf53_5 : decode cJ9_max_7cf53 5 = .ok (.iload_n 0, 1) := by decide +kernel
theorem dJ9_max_7cf53_6 : decode cJ9_max_7cf53 6 = .ok (.goto 4, 3) := by decide +kernel
theorem dJ9_max_7cf53_9 : decode cJ9_max_7cf53 9 = .ok (.iload_n 1, 1) := by decide +kernel
theorem dJ9_max_7cf53_10 : decode cJ9_max_7cf53 10 = .ok (.ireturn, 1) := by decide +kernel
theorem dJ9_max_f86c9_0 : decode cJ9_max_f86c9 0 = .ok (.lload_n 0, 1) := by decide +kernel
theorem dJ9_max_f86c9_1 : decode cJ9_max_f86c9 1 = .ok (.lload_n 2, 1) := by decide +kernel
theorem dJ9_max_f86c9_2 : decode cJ9_max_f86c9 2 = .ok (.lcmp, 1) := by decide +kernel
theorem dJ9_max_f86c9_3 : decode cJ9_max_f86c9 3 = .ok (.ifCond .lt 7, 3) := by decide +kernel
theorem dJ9_max_f86c9_6 : decode cJ9_max_f86c9 6 = .ok (.lload_n 0, 1) := by decide +kernel
theorem dJ9_max_f86c9_7 : decode cJ9_max_f86c9 7 = .ok (.goto 4, 3) := by decide +kernel
theorem dJ9_max_f86c9_10 : decode cJ9_max_f86c9 10 = .ok (.lload_n 2, 1) := by decide +kernel
theorem dJ9_max_f86c9_11 : decode cJ9_max_f86c9 11 = .ok (.lreturn, 1) := by decide +kernel
theorem dJ9_min_7cf53_0 : decode cJ9_min_7cf53 0 = .ok (.iload_n 0, 1) := by decide +kernel
theorem dJ9_min_7cf53_1 : decode cJ9_min_7cf53 1 = .ok (.iload_n 1, 1) := by decide +kernel
theorem dJ9_min_7cf53_2 : decode cJ9_min_7cf53 2 = .ok (.if_icmp .gt 7, 3) := by decide +kernel
theorem dJ9_min_7cf53_5 : decode cJ9_min_7cf53 5 = .ok (.iload_n 0, 1) := by decide +kernel
theorem dJ9_min_7cf53_6 : decode cJ9_min_7cf53 6 = .ok (.goto 4, 3) := by decide +kernel
theorem dJ9_min_7cf53_9 : decode cJ9_min_7cf53 9 = .ok (.iload_n 1, 1) := by decide +kernel
theorem dJ9_min_7cf53_10 : decode cJ9_min_7cf53 10 = .ok (.ireturn, 1) := by decide +kernel
theorem dJ9_min_f86c9_0 : decode cJ9_min_f86c9 0 = .ok (.lload_n 0, 1) := by decide +kernel
theorem dJ9_min_f86c9_1 : decode cJ9_min_f86c9 1 = .ok (.lload_n 2, 1) := by decide +kernel
theorem dJ9_min_f86c9_2 : decode cJ9_min_f86c9 2 = .ok (.lcmp, 1) := by decide +kernel
theorem dJ9_min_f86c9_3 : decode cJ9_min_f86c9 3 = .ok (.ifCond .gt 7, 3) := by decide +kernel
theorem dJ9_min_f86c9_6 : decode cJ9_min_f86c9 6 = .ok (.lload_n 0, 1) := by decide +kernel
theorem dJ9_min_f86c9_7 : decode cJ9_min_f86c9 7 = .ok (.goto 4, 3) := by decide +kernel
theorem dJ9_min_f86c9_10 : decode cJ9_min_f86c9 10 = .ok (.lload_n 2, 1) := by decide +kernel
theorem dJ9_min_f86c9_11 : decode cJ9_min_f86c9 11 = .ok (.lreturn, 1) := by decide +kernel
theorem dJ7_fill_d0a16_0 : decode cJ7_fill_d0a16 0 = .ok (.iconst 0, 1) := by decide +kernel
theorem dJ7_fill_d0a16_1 : decode cJ7_fill_d0a16 1 = .ok (.istore_n 3, 1) := by decide +kernel
theorem dJ7_fill_d0a16_2 : decode cJ7_fill_d0a16 2 = .ok (.aload_n 0, 1) := by decide +kernel
theorem dJ7_fill_d0a16_3 : decode cJ7_fill_d0a16 3 = .ok (.arraylength, 1) := by decide +kernel
theorem dJ7_fill_d0a16_4 : decode cJ7_fill_d0a16 4 = .ok (.istore 4, 2) := by decide +kernel
theorem dJ7_fill_d0a16_6 : decode cJ7_fill_d0a16 6 = .ok (.iload_n 3, 1) := by decide +kernel
theorem dJ7_fill_d0a16_7 : decode cJ7_fill_d0a16 7 = .ok (.iload 4, 2) := by decide +kernel
theorem dJ7_fill_d0a16_9 : decode cJ7_fill_d0a16 9 = .ok (.if_icmp .ge 13, 3) := by decide +kernel
theorem dJ7_fill_d0a16_12 : decode cJ7_fill_d0a16 12 = .ok (.aload_n 0, 1) := by decide +kernel
theorem dJ7_fill_d0a16_13 : decode cJ7_fill_d0a16 13 = .ok (.iload_n 3, 1) := by decide +kernel
theorem dJ7_fill_d0a16_14 : decode cJ7_fill_d0a16 14 = .ok (.lload_n 1, 1) := by decide +kernel
theorem dJ7_fill_d0a16_15 : decode cJ7_fill_d0a16 15 = .ok (.lastore, 1) := by decide +kernel
theorem dJ7_fill_d0a16_16 : decode cJ7_fill_d0a16 16 = .ok (.iinc 3 1, 3) := by decide +kernel
theorem dJ7_fill_d0a16_19 : decode cJ7_fill_d0a16 19 = .ok (.goto (-13), 3) := by decide +kernel
theorem dJ7_fill_d0a16_22 : decode cJ7_fill_d0a16 22 = .ok (.return_, 1) := by decide +kernel
theorem dJ7_fill_53178_0 : decode cJ7_fill_53178 0 = .ok (.iconst 0, 1) := by decide +kernel
theorem dJ7_fill_53178_1 : decode cJ7_fill_53178 1 = .ok (.istore_n 2, 1) := by decide +kernel
theorem dJ7_fill_53178_2 : decode cJ7_fill_53178 2 = .ok (.aload_n 0, 1) := by decide +kernel
theorem dJ7_fill_53178_3 : decode cJ7_fill_53178 3 = .ok (.arraylength, 1) := by decide +kernel
theorem dJ7_fill_53178_4 : decode cJ7_fill_53178 4 = .ok (.istore_n 3, 1) := by decide +kernel
theorem dJ7_fill_53178_5 : decode cJ7_fill_53178 5 = .ok (.iload_n 2, 1) := by decide +kernel
theorem dJ7_fill_53178_6 : decode cJ7_fill_53178 6 = .ok (.iload_n 3, 1) := by decide +kernel
theorem dJ7_fill_53178_7 : decode cJ7_fill_53178 7 = .ok (.if_icmp .ge 13, 3) := by decide +kernel
theorem dJ7_fill_53178_10 : decode cJ7_fill_53178 10 = .ok (.aload_n 0, 1) := by decide +kernel
theorem dJ7_fill_53178_11 : decode cJ7_fill_53178 11 = .ok (.iload_n 2, 1) := by decide +kernel
theorem dJ7_fill_53178_12 : decode cJ7_fill_53178 12 = .ok (.iload_n 1, 1) := by decide +kernel
theorem dJ7_fill_53178_13 : decode cJ7_fill_53178 13 = .ok (.iastore, 1) := by decide +kernel
theorem dJ7_fill_53178_14 : decode cJ7_fill_53178 14 = .ok (.iinc 2 1, 3) := by decide +kernel
theorem dJ7_fill_53178_17 : decode cJ7_fill_53178 17 = .ok (.goto (-12), 3) := by decide +kernel
theorem dJ7_fill_53178_20 : decode cJ7_fill_53178 20 = .ok (.return_, 1) := by decide +kernel
