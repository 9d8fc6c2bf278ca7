theorem dX12_say_59 : decode cX12_say 59 = .ok (.aload_n 0, 1) := by decide +kernel
theorem dX12_say_60 : decode cX12_say 60 = .ok (.aload_n 0, 1) := by decide +kernel
theorem dX12_say_61 : decode cX12_say 61 = .ok (.iload 4, 2) := by decide +kernel
theorem dX12_say_63 : decode cX12_say 63 = .ok (.iconst 0, 1) := by decide +kernel
theorem dX12_say_64 : decode cX12_say 64 = .ok (.invokevirtual 411, 3) := by decide +kernel
theorem dX12_say_67 : decode cX12_say 67 = .ok (.putfield 381, 3) := by decide +kernel
theorem dX12_say_70 : decode cX12_say 70 = .ok (.aload_n 0, 1) := by decide +kernel
theorem dX12_say_71 : decode cX12_say 71 = .ok (.aload_n 0, 1) := by decide +kernel
theorem dX12_say_72 : decode cX12_say 72 = .ok (.iload 4, 2) := by decide +kernel
theorem dX12_say_74 : decode cX12_say 74 = .ok (.iconst 1, 1) := by decide +kernel
theorem dX12_say_75 : decode cX12_say 75 = .ok (.invokevirtual 411, 3) := by decide +kernel
theorem dX12_say_78 : decode cX12_say 78 = .ok (.putfield 384, 3) := by decide +kernel
theorem dX12_say_81 : decode cX12_say 81 = .ok (.aload_n 0, 1) := by decide +kernel
theorem dX12_say_82 : decode cX12_say 82 = .ok (.aload_n 1, 1) := by decide +kernel
theorem dX12_say_83 : decode cX12_say 83 = .ok (.bipush 19, 2) := by decide +kernel
theorem dX12_say_85 : decode cX12_say 85 = .ok (.iaload, 1) := by decide +kernel
theorem dX12_say_86 : decode cX12_say 86 = .ok (.putfield 387, 3) := by decide +kernel
theorem dX12_say_89 : decode cX12_say 89 = .ok (.aload_n 0, 1) := by decide +kernel
theorem dX12_say_90 : decode cX12_say 90 = .ok (.aload_n 1, 1) := by decide +kernel
theorem dX12_say_91 : decode cX12_say 91 = .ok (.bipush 21, 2) := by decide +kernel
theorem dX12_say_93 : decode cX12_say 93 = .ok (.iaload, 1) := by decide +kernel
theorem dX12_say_94 : decode cX12_say 94 = .ok (.putfield 390, 3) := by decide +kernel
theorem dX12_say_97 : decode cX12_say 97 = .ok (.aload_n 0, 1) := by decide +kernel
theorem dX12_say_98 : decode cX12_say 98 = .ok (.getfield 82, 3) := by decide +kernel
theorem dX12_say_101 : decode cX12_say 101 = .ok (.iconst 2, 1) := by decide +kernel
theorem dX12_say_102 : decode cX12_say 102 = .ok (.aload_n 0, 1) := by decide +kernel
theorem dX12_say_103 : decode cX12_say 103 = .ok (.getfield 295, 3) := by decide +kernel
theorem dX12_say_106 : decode cX12_say 106 = .ok (.imul, 1) := by decide +kernel
theorem dX12_say_107 : decode cX12_say 107 = .ok (.baload, 1) := by decide +kernel
theorem dX12_say_108 : decode cX12_say 108 = .ok (.ifCond .eq 11, 3) := by decide +kernel
theorem dX12_say_111 : decode cX12_say 111 = .ok (.aload_n 0, 1) := by decide +kernel
theorem dX12_say_112 : decode cX12_say 112 = .ok (.iconst 0, 1) := by decide +kernel
theorem dX12_say_113 : decode cX12_say 113 = .ok (.invokevirtual 414, 3) := by decide +kernel
theorem dX12_say_116 : decode cX12_say 116 = .ok (.goto 9, 3) := by decide +kernel
theorem dX12_say_119 : decode cX12_say 119 = .ok (.aload_n 0, 1) := by decide +kernel
theorem dX12_say_120 : decode cX12_say 120 = .ok (.getfield 375, 3) := by decide +kernel
theorem dX12_say_123 : decode cX12_say 123 = .ok (.iconst 1, 1) := by decide +kernel
theorem dX12_say_124 : decode cX12_say 124 = .ok (.isub, 1) := by decide +kernel
theorem dX12_say_125 : decode cX12_say 125 = .ok (.istore 5, 2) := by decide +kernel
theorem dX12_say_127 : decode cX12_say 127 = .ok (.aload_n 0, 1) := by decide +kernel
theorem dX12_say_128 : decode cX12_say 128 = .ok (.getfield 82, 3) := by decide +kernel
theorem dX12_say_131 : decode cX12_say 131 = .ok (.iconst 2, 1) := by decide +kernel
theorem dX12_say_132 : decode cX12_say 132 = .ok (.aload_n 0, 1) := by decide +kernel
theorem dX12_say_133 : decode cX12_say 133 = .ok (.getfield 295, 3) := by decide +kernel
theorem dX12_say_136 : decode cX12_say 136 = .ok (.imul, 1) := by decide +kernel
theorem dX12_say_137 : decode cX12_say 137 = .ok (.iconst 1, 1) := by decide +kernel
theorem dX12_say_138 : decode cX12_say 138 = .ok (.iadd, 1) := by decide +kernel
theorem dX12_say_139 : decode cX12_say 139 = .ok (.baload, 1) := by decide +kernel
theorem dX12_say_140 : decode cX12_say 140 = .ok (.ifCond .eq 11, 3) := by decide +kernel
theorem dX12_say_143 : decode cX12_say 143 = .ok (.aload_n 0, 1) := by decide +kernel
theorem dX12_say_144 : decode cX12_say 144 = .ok (.iconst 1, 1) := by decide +kernel
theorem dX12_say_145 : decode cX12_say 145 = .ok (.invokevirtual 414, 3) := by decide +kernel
theorem dX12_say_148 : decode cX12_say 148 = .ok (.goto 4, 3) := by decide +kernel
theorem dX12_say_151 : decode cX12_say 151 = .ok (.iconst 0, 1) := by decide +kernel
theorem dX12_say_152 : decode cX12_say 152 = .ok (.istore 6, 2) := by decide +kernel
theorem dX12_say_154 : decode cX12_say 154 = .ok (.aload_n 1, 1) := by decide +kernel
theorem dX12_say_155 : decode cX12_say 155 = .ok (.bipush 20, 2) := by decide +kernel
theorem dX12_say_157 : decode cX12_say 157 = .ok (.iload 5, 2) := by decide +kernel
theorem dX12_say_159 : decode cX12_say 159 = .ok (.invokestatic 417, 3) := by decide +kernel
theorem dX12_say_162 : decode cX12_say 162 = .ok (.iastore, 1) := by decide +kernel
theorem dX12_say_163 : decode cX12_say 163 = .ok (.iload 6, 2) := by decide +kernel
theorem dX12_say_165 : decode cX12_say 165 = .ok (.ifCond .le 21, 3) := by decide +kernel
theorem dX12_say_168 : decode cX12_say 168 = .ok (.aload_n 1, 1) := by decide +kernel
theorem dX12_say_169 : decode cX12_say 169 = .ok (.iload 6, 2) := by decide +kernel
theorem dX12_say_171 : decode cX12_say 171 = .ok (.bipush 9, 2) := by decide +kernel
theorem dX12_say_173 : decode cX12_say 173 = .ok (.if_icmp .le 8, 3) := by decide +kernel
theorem dX12_say_176 : decode cX12_say 176 = .ok (.bipush 9, 2) := by decide +kernel
theorem dX12_say_178 : decode cX12_say 178 = .ok (.goto 5, 3) := by decide +kernel
theorem dX12_say_181 : decode cX12_say 181 = .ok (.iload 6, 2) := by decide +kernel
theorem dX12_say_183 : decode cX12_say 183 = .ok (.invokestatic 420, 3) := by decide +kernel
theorem dX12_say_186 : decode cX12_say 186 = .ok (.iload_n 2, 1) := by decide +kernel
theorem dX12_say_187 : decode cX12_say 187 = .ok (.ifCond .lt 29, 3) := by decide +kernel
theorem dX12_say_190 : decode cX12_say 190 = .ok (.aload_n 1, 1) := by decide +kernel
theorem dX12_say_191 : decode cX12_say 191 = .ok (.bipush 20, 2) := by decide +kernel
theorem dX12_say_193 : decode cX12_say 193 = .ok (.aload_n 1, 1) := by decide +kernel
theorem dX12_say_194 : decode cX12_say 194 = .ok (.bipush 20, 2) := by decide +kernel
theorem dX12_say_196 : decode cX12_say 196 = .ok (.iaload, 1) := by decide +kernel
theorem dX12_say_197 : decode cX12_say 197 = .ok (.aload_n 0, 1) := by decide +kernel
theorem dX12_say_198 : decode cX12_say 198 = .ok (.getfield 54, 3) := by decide +kernel
theorem dX12_say_201 : decode cX12_say 201 = .ok (.bipush 14, 2) := by decide +kernel
theorem dX12_say_203 : decode cX12_say 203 = .ok (.aload_n 0, 1) := by decide +kernel
theorem dX12_say_204 : decode cX12_say 204 = .ok (.getfield 295, 3) := by decide +kernel
theorem dX12_say_207 : decode cX12_say 207 = .ok (.imul, 1) := by decide +kernel
theorem dX12_say_208 : decode cX12_say 208 = .ok (.iload_n 2, 1) := by decide +kernel
theorem dX12_say_209 : decode cX12_say 209 = .ok (.iadd, 1) := by decide +kernel
theorem dX12_say_210 : decode cX12_say 210 = .ok (.iaload, 1) := by decide +kernel
theorem dX12_say_211 : decode cX12_say 211 = .ok (.iadd, 1) := by decide +kernel
theorem dX12_say_212 : decode cX12_say 212 = .ok (.invokestatic 417, 3) := by decide +kernel
theorem dX12_say_215 : decode cX12_say 215 = .ok (.iastore, 1) := by decide +kernel
theorem dX12_say_216 : decode cX12_say 216 = .ok (.iload_n 3, 1) := by decide +kernel
theorem dX12_say_217 : decode cX12_say 217 = .ok (.ifCond .ge 4, 3) := by decide +kernel
theorem dX12_say_220 : decode cX12_say 220 = .ok (.return_, 1) := by decide +kernel
theorem dX12_say_221 : decode cX12_say 221 = .ok (.aload_n 1, 1) := by decide +kernel
theorem dX12_say_222 : decode cX12_say 222 = .ok (.bipush 20, 2) := by decide +kernel
theorem dX12_say_224 : decode cX12_say 224 = .ok (.aload_n 1, 1) := by decide +kernel
theorem dX12_say_225 : decode cX12_say 225 = .ok (.bipush 20, 2) := by decide +kernel
theorem dX12_say_227 : decode cX12_say 227 = .ok (.iaload, 1) := by decide +kernel
theorem dX12_say_228 : decode cX12_say 228 = .ok (.aload_n 0, 1) := by decide +kernel
theorem dX12_say_229 : decode cX12_say 229 = .ok (.getfield 39, 3) := by decide +kernel
theorem dX12_say_232 : decode cX12_say 232 = .ok (.bipush 8, 2) := by decide +kernel
theorem dX12_say_234 : decode cX12_say 234 = .ok (.aload_n 0, 1) := by decide +kernel
theorem dX12_say_235 : decode cX12_say 235 = .ok (.getfield 295, 3) := by decide +kernel
theorem dX12_say_238 : decode cX12_say 238 = .ok (.imul, 1) := by decide +kernel
theorem dX12_say_239 : decode cX12_say 239 = .ok (.iload_n 3, 1) := by decide +kernel
theorem dX12_say_240 : decode cX12_say 240 = .ok (.iadd, 1) := by decide +kernel
theorem dX12_say_241 : decode cX12_say 241 = .ok (.iaload, 1) := by decide +kernel
theorem dX12_say_242 : decode cX12_say 242 = .ok (.isub, 1) := by decide +kernel
theorem dX12_say_243 : decode cX12_say 243 = .ok (.invokestatic 417, 3) := by decide +kernel
theorem dX12_say_246 : decode cX12_say 246 = .ok (.iastore, 1) := by decide +kernel
theorem dX12_say_247 : decode cX12_say 247 = .ok (.aload_n 0, 1) := by decide +kernel
theorem dX12_say_248 : decode cX12_say 248 = .ok (.getfield 42, 3) := by decide +kernel
theorem dX12_say_251 : decode cX12_say 251 = .ok (.bipush 8, 2) := by decide +kernel
theorem dX12_say_253 : decode cX12_say 253 = .ok (.aload_n 0, 1) := by decide +kernel
theorem dX12_say_254 : decode cX12_say 254 = .ok (.getfield 295, 3) := by decide +kernel
theorem dX12_say_257 : decode cX12_say 257 = .ok (.imul, 1) := by decide +kernel
theorem dX12_say_258 : decode cX12_say 258 = .ok (.iload_n 3, 1) := by decide +kernel
theorem dX12_say_259 : decode cX12_say 259 = .ok (.iadd, 1) := by decide +kernel
theorem dX12_say_260 : decode cX12_say 260 = .ok (.iaload, 1) := by decide +kernel
theorem dX12_say_261 : decode cX12_say 261 = .ok (.ifCond .le 30, 3) := by decide +kernel
theorem dX12_say_264 : decode cX12_say 264 = .ok (.aload_n 1, 1) := by decide +kernel
theorem dX12_say_265 : decode cX12_say 265 = .ok (.bipush 21, 2) := by decide +kernel
theorem dX12_say_267 : decode cX12_say 267 = .ok (.iaload, 1) := by decide +kernel
theorem dX12_say_268 : decode cX12_say 268 = .ok (.bipush 20, 2) := by decide +kernel
theorem dX12_say_270 : decode cX12_say 270 = .ok (.if_icmp .ge 21, 3) := by decide +kernel
theorem dX12_say_273 : decode cX12_say 273 = .ok (.aload_n 1, 1) := by decide +kernel
theorem dX12_say_274 : decode cX12_say 274 = .ok (.aload_n 0, 1) := by decide +kernel
theorem dX12_say_275 : decode cX12_say 275 = .ok (.getfield 42, 3) := by decide +kernel
theorem dX12_say_278 : decode cX12_say 278 = .ok (.bipush 8, 2) := by decide +kernel
theorem dX12_say_280 : decode cX12_say 280 = .ok (.aload_n 0, 1) := by decide +kernel
theorem dX12_say_281 : decode cX12_say 281 = .ok (.getfield 295, 3) := by decide +kernel
theorem dX12_say_284 : decode cX12_say 284 = .ok (.imul, 1) := by decide +kernel
theorem dX12_say_285 : decode cX12_say 285 = .ok (.iload_n 3, 1) := by decide +kernel
theorem dX12_say_286 : decode cX12_say 286 = .ok (.iadd, 1) := by decide +kernel
theorem dX12_say_287 : decode cX12_say 287 = .ok (.iaload, 1) := by decide +kernel
theorem dX12_say_288 : decode cX12_say 288 = .ok (.invokestatic 420, 3) := by decide +kernel
theorem dX12_say_291 : decode cX12_say 291 = .ok (.return_, 1) := by decide +kernel
theorem dX12_push_0 : decode cX12_push 0 = .ok (.aload_n 0, 1) := by decide +kernel
theorem dX12_push_1 : decode cX12_push 1 = .ok (.bipush 22, 2) := by decide +kernel
theorem dX12_push_3 : decode cX12_push 3 = .ok (.aload_n 0, 1) := by decide +kernel
theorem dX12_push_4 : decode cX12_push 4 = .ok (.bipush 21, 2) := by decide +kernel
theorem dX12_push_6 : decode cX12_push 6 = .ok (.iaload, 1) := by decide +kernel
theorem dX12_push_7 : decode cX12_push 7 = .ok (.iadd, 1) := by decide +kernel
theorem dX12_push_8 : decode cX12_push 8 = .ok (.iload_n 1, 1) := by decide +kernel
theorem dX12_push_9 : decode cX12_push 9 = .ok (.iastore, 1) := by decide +kernel
theorem dX12_push_10 : decode cX12_push 10 = .ok (.aload_n 0, 1) := by decide +kernel
theorem dX12_push_11 : decode cX12_push 11 = .ok (.bipush 21, 2) := by decide +kernel
theorem dX12_push_13 : decode cX12_push 13 = .ok (.dup2, 1) := by decide +kernel
theorem dX12_push_14 : decode cX12_push 14 = .ok (.iaload, 1) := by decide +kernel
theorem dX12_push_15 : decode cX12_push 15 = .ok (.iconst 1, 1) := by decide +kernel
theorem dX12_push_16 : decode cX12_push 16 = .ok (.iadd, 1) := by decide +kernel
theorem dX12_push_17 : decode cX12_push 17 = .ok (.iastore, 1) := by decide +kernel
theorem dX12_push_18 : decode cX12_push 18 = .ok (.return_, 1) := by decide +kernel
theorem dX12_openLength_0 : decode cX12_openLength 0 = .ok (.aload_n 0, 1) := by decide +kernel
theorem dX12_openLength_1 : decode cX12_openLength 1 = .ok (.aload_n 0, 1) := by decide +kernel
theorem dX12_openLength_2 : decode cX12_openLength 2 = .ok (.getfield 113, 3) := by decide +kernel
theorem dX12_openLength_5 : decode cX12_openLength 5 = .ok (.iload_n 1, 1) := by decide +kernel
theorem dX12_openLength_6 : decode cX12_openLength 6 = .ok (.iload_n 2, 1) := by decide +kernel
theorem dX12_openLength_7 : decode cX12_openLength 7 = .ok (.iload_n 3, 1) := by decide +kernel
theorem dX12_openLength_8 : decode cX12_openLength 8 = .ok (.invokevirtual 424, 3) := by decide +kernel
theorem dX12_openLength_11 : decode cX12_openLength 11 = .ok (.aload_n 0, 1) := by decide +kernel
theorem dX12_openLength_12 : decode cX12_openLength 12 = .ok (.getfield 113, 3) := by decide +kernel
theorem dX12_openLength_15 : decode cX12_openLength 15 = .ok (.bipush 19, 2) := by decide +kernel
theorem dX12_openLength_17 : decode cX12_openLength 17 = .ok (.iaload, 1) := by decide +kernel
theorem dX12_openLength_18 : decode cX12_openLength 18 = .ok (.sipush 200, 3) := by decide +kernel
theorem dX12_openLength_21 : decode cX12_openLength 21 = .ok (.if_icmp .ge 31, 3) := by decide +kernel
theorem dX12_openLength_24 : decode cX12_openLength 24 = .ok (.aload_n 0, 1) := by decide +kernel
theorem dX12_openLength_25 : decode cX12_openLength 25 = .ok (.aload_n 0, 1) := by decide +kernel
theorem dX12_openLength_26 : decode cX12_openLength 26 = .ok (.getfield 113, 3) := by decide +kernel
theorem dX12_openLength_29 : decode cX12_openLength 29 = .ok (.iconst (-1), 1) := by decide +kernel
theorem dX12_openLength_30 : decode cX12_openLength 30 = .ok (.iconst (-1), 1) := by decide +kernel
theorem dX12_openLength_31 : decode cX12_openLength 31 = .ok (.invokevirtual 428, 3) := by decide +kernel
theorem dX12_openLength_34 : decode cX12_openLength 34 = .ok (.aload_n 0, 1) := by decide +kernel
theorem dX12_openLength_35 : decode cX12_openLength 35 = .ok (.getfield 113, 3) := by decide +kernel
theorem dX12_openLength_38 : decode cX12_openLength 38 = .ok (.invokestatic 432, 3) := by decide +kernel
theorem dX12_openLength_41 : decode cX12_openLength 41 = .ok (.ifCond .eq (-30), 3) := by decide +kernel
theorem dX12_openLength_44 : decode cX12_openLength 44 = .ok (.aload_n 0, 1) := by decide +kernel
theorem dX12_openLength_45 : decode cX12_openLength 45 = .ok (.getfield 113, 3) := by decide +kernel
theorem dX12_openLength_48 : decode cX12_openLength 48 = .ok (.bipush 19, 2) := by decide +kernel
theorem dX12_openLength_50 : decode cX12_openLength 50 = .ok (.iaload, 1) := by decide +kernel
theorem dX12_openLength_51 : decode cX12_openLength 51 = .ok (.ireturn, 1) := by decide +kernel
theorem dX12_openLength_52 : decode cX12_openLength 52 = .ok (.iconst (-1), 1) := by decide +kernel
theorem dX12_openLength_53 : decode cX12_openLength 53 = .ok (.ireturn, 1) := by decide +kernel
theorem dX12_quarrel_0 : decode cX12_quarrel 0 = .ok (.aload_n 0, 1) := by decide +kernel
theorem dX12_quarrel_1 : decode cX12_quarrel 1 = .ok (.iload_n 1, 1) := by decide +kernel
theorem dX12_quarrel_2 : decode cX12_quarrel 2 = .ok (.iload_n 2, 1) := by decide +kernel
theorem dX12_quarrel_3 : decode cX12_quarrel 3 = .ok (.iload_n 3, 1) := by decide +kernel
theorem dX12_quarrel_4 : decode cX12_quarrel 4 = .ok (.invokevirtual 436, 3) := by decide +kernel
theorem dX12_quarrel_7 : decode cX12_quarrel 7 = .ok (.ifCond .eq 13, 3) := by decide +kernel
theorem dX12_quarrel_10 : decode cX12_quarrel 10 = .ok (.aload_n 0, 1) := by decide +kernel
theorem dX12_quarrel_11 : decode cX12_quarrel 11 = .ok (.iload_n 1, 1) := by decide +kernel
theorem dX12_quarrel_12 : decode cX12_quarrel 12 = .ok (.iload_n 2, 1) := by decide +kernel
theorem dX12_quarrel_13 : decode cX12_quarrel 13 = .ok (.iload_n 3, 1) := by decide +kernel
theorem dX12_quarrel_14 : decode cX12_quarrel 14 = .ok (.invokevirtual 439, 3) := by decide +kernel
theorem dX12_quarrel_17 : decode cX12_quarrel 17 = .ok (.goto 5, 3) := by decide +kernel
theorem dX12_quarrel_20 : decode cX12_quarrel 20 = .ok (.bipush (-2), 2) := by decide +kernel
theorem dX12_quarrel_22 : decode cX12_quarrel 22 = .ok (.ireturn, 1) := by decide +kernel
theorem dX12_heat_0 : decode cX12_heat 0 = .ok (.aload_n 0, 1) := by decide +kernel
theorem dX12_heat_1 : decode cX12_heat 1 = .ok (.iload_n 1, 1) := by decide +kernel
theorem dX12_heat_2 : decode cX12_heat 2 = .ok (.iload_n 2, 1) := by decide +kernel
theorem dX12_heat_3 : decode cX12_heat 3 = .ok (.iload_n 3, 1) := by decide +kernel
theorem dX12_heat_4 : decode cX12_heat 4 = .ok (.invokevirtual 436, 3) := by decide +kernel
theorem dX12_heat_7 : decode cX12_heat 7 = .ok (.ifCond .eq 15, 3) := by decide +kernel
theorem dX12_heat_10 : decode cX12_heat 10 = .ok (.iload 4, 2) := by decide +kernel
theorem dX12_heat_12 : decode cX12_heat 12 = .ok (.iconst 0, 1) := by decide +kernel
theorem dX12_heat_13 : decode cX12_heat 13 = .ok (.sipush 200, 3) := by decide +kernel
theorem dX12_heat_16 : decode cX12_heat 16 = .ok (.invokestatic 400, 3) := by decide +kernel
theorem dX12_heat_19 : decode cX12_heat 19 = .ok (.ifCond .ne 6, 3) := by decide +kernel
theorem dX12_heat_22 : decode cX12_heat 22 = .ok (.bipush (-2), 2) := by decide +kernel
theorem dX12_heat_24 : decode cX12_heat 24 = .ok (.ireturn, 1) := by decide +kernel
theorem dX12_heat_25 : decode cX12_heat 25 = .ok (.aload_n 0, 1) := by decide +kernel
theorem dX12_heat_26 : decode cX12_heat 26 = .ok (.aload_n 0, 1) := by decide +kernel
theorem dX12_heat_27 : decode cX12_heat 27 = .ok (.getfield 113, 3) := by decide +kernel
theorem dX12_heat_30 : decode cX12_heat 30 = .ok (.iload_n 1, 1) := by decide +kernel
theorem dX12_heat_31 : decode cX12_heat 31 = .ok (.iload_n 2, 1) := by decide +kernel
theorem dX12_heat_32 : decode cX12_heat 32 = .ok (.iload_n 3, 1) := by decide +kernel
theorem dX12_heat_33 : decode cX12_heat 33 = .ok (.invokevirtual 424, 3) := by decide +kernel
theorem dX12_heat_36 : decode cX12_heat 36 = .ok (.aload_n 0, 1) := by decide +kernel
theorem dX12_heat_37 : decode cX12_heat 37 = .ok (.getfield 113, 3) := by decide +kernel
theorem dX12_heat_40 : decode cX12_heat 40 = .ok (.bipush 19, 2) := by decide +kernel
theorem dX12_heat_42 : decode cX12_heat 42 = .ok (.iaload, 1) := by decide +kernel
theorem dX12_heat_43 : decode cX12_heat 43 = .ok (.iload 4, 2) := by decide +kernel
theorem dX12_heat_45 : decode cX12_heat 45 = .ok (.if_icmp .ge 26, 3) := by decide +kernel
theorem dX12_heat_48 : decode cX12_heat 48 = .ok (.aload_n 0, 1) := by decide +kernel
theorem dX12_heat_49 : decode cX12_heat 49 = .ok (.getfield 113, 3) := by decide +kernel
theorem dX12_heat_52 : decode cX12_heat 52 = .ok (.invokestatic 432, 3) := by decide +kernel
theorem dX12_heat_55 : decode cX12_heat 55 = .ok (.ifCond .ne 16, 3) := by decide +kernel
theorem dX12_heat_58 : decode cX12_heat 58 = .ok (.aload_n 0, 1) := by decide +kernel
theorem dX12_heat_59 : decode cX12_heat 59 = .ok (.aload_n 0, 1) := by decide +kernel
theorem dX12_heat_60 : decode cX12_heat 60 = .ok (.getfield 113, 3) := by decide +kernel
theorem dX12_heat_63 : decode cX12_heat 63 = .ok (.iconst (-1), 1) := by decide +kernel
theorem dX12_heat_64 : decode cX12_heat 64 = .ok (.iconst (-1), 1) := by decide +kernel
theorem dX12_heat_65 : decode cX12_heat 65 = .ok (.invokevirtual 428, 3) := by decide +kernel
theorem dX12_heat_68 : decode cX12_heat 68 = .ok (.goto (-32), 3) := by decide +kernel
theorem dX12_heat_71 : decode cX12_heat 71 = .ok (.aload_n 0, 1) := by decide +kernel
theorem dX12_heat_72 : decode cX12_heat 72 = .ok (.getfield 113, 3) := by decide +kernel
theorem dX12_heat_75 : decode cX12_heat 75 = .ok (.bipush 20, 2) := by decide +kernel
theorem dX12_heat_77 : decode cX12_heat 77 = .ok (.iaload, 1) := by decide +kernel
theorem dX12_heat_78 : decode cX12_heat 78 = .ok (.ireturn, 1) := by decide +kernel
theorem dX12_soul_0 : decode cX12_soul 0 = .ok (.iload_n 1, 1) := by decide +kernel
theorem dX12_soul_1 : decode cX12_soul 1 = .ok (.iconst 0, 1) := by decide +kernel
theorem dX12_soul_2 : decode cX12_soul 2 = .ok (.aload_n 0, 1) := by decide +kernel
theorem dX12_soul_3 : decode cX12_soul 3 = .ok (.invokevirtual 404, 3) := by decide +kernel
theorem dX12_soul_6 : decode cX12_soul 6 = .ok (.iconst 1, 1) := by decide +kernel
theorem dX12_soul_7 : decode cX12_soul 7 = .ok (.isub, 1) := by decide +kernel
theorem dX12_soul_8 : decode cX12_soul 8 = .ok (.invokestatic 400, 3) := by decide +kernel
theorem dX12_soul_11 : decode cX12_soul 11 = .ok (.ifCond .eq 27, 3) := by decide +kernel
theorem dX12_soul_14 : decode cX12_soul 14 = .ok (.iload_n 2, 1) := by decide +kernel
theorem dX12_soul_15 : decode cX12_soul 15 = .ok (.iconst 0, 1) := by decide +kernel
theorem dX12_soul_16 : decode cX12_soul 16 = .ok (.iconst 1, 1) := by decide +kernel
theorem dX12_soul_17 : decode cX12_soul 17 = .ok (.invokestatic 400, 3) := by decide +kernel
theorem dX12_soul_20 : decode cX12_soul 20 = .ok (.ifCond .eq 18, 3) := by decide +kernel
theorem dX12_soul_23 : decode cX12_soul 23 = .ok (.aload_n 0, 1) := by decide +kernel
theorem dX12_soul_24 : decode cX12_soul 24 = .ok (.getfield 110, 3) := by decide +kernel
theorem dX12_soul_27 : decode cX12_soul 27 = .ok (.iconst 1, 1) := by decide +kernel
theorem dX12_soul_28 : decode cX12_soul 28 = .ok (.iconst 2, 1) := by decide +kernel
theorem dX12_soul_29 : decode cX12_soul 29 = .ok (.iload_n 1, 1) := by decide +kernel
theorem dX12_soul_30 : decode cX12_soul 30 = .ok (.imul, 1) := by decide +kernel
theorem dX12_soul_31 : decode cX12_soul 31 = .ok (.iadd, 1) := by decide +kernel
theorem dX12_soul_32 : decode cX12_soul 32 = .ok (.iload_n 2, 1) := by decide +kernel
theorem dX12_soul_33 : decode cX12_soul 33 = .ok (.iadd, 1) := by decide +kernel
theorem dX12_soul_34 : decode cX12_soul 34 = .ok (.iaload, 1) := by decide +kernel
theorem dX12_soul_35 : decode cX12_soul 35 = .ok (.goto 4, 3) := by decide +kernel
theorem dX12_soul_38 : decode cX12_soul 38 = .ok (.iconst (-1), 1) := by decide +kernel
theorem dX12_soul_39 : decode cX12_soul 39 = .ok (.ireturn, 1) := by decide +kernel
theorem dX12_fromOf_0 : decode cX12_fromOf 0 = .ok (.aload_n 0, 1) := by decide +kernel
theorem dX12_fromOf_1 : decode cX12_fromOf 1 = .ok (.getfield 45, 3) := by decide +kernel
theorem dX12_fromOf_4 : decode cX12_fromOf 4 = .ok (.bipush 14, 2) := by decide +kernel
theorem dX12_fromOf_6 : decode cX12_fromOf 6 = .ok (.aload_n 0, 1) := by decide +kernel
theorem dX12_fromOf_7 : decode cX12_fromOf 7 = .ok (.getfield 295, 3) := by decide +kernel
theorem dX12_fromOf_10 : decode cX12_fromOf 10 = .ok (.imul, 1) := by decide +kernel
theorem dX12_fromOf_11 : decode cX12_fromOf 11 = .ok (.iload_n 1, 1) := by decide +kernel
theorem dX12_fromOf_12 : decode cX12_fromOf 12 = .ok (.iadd, 1) := by decide +kernel
theorem dX12_fromOf_13 : decode cX12_fromOf 13 = .ok (.iaload, 1) := by decide +kernel
theorem dX12_fromOf_14 : decode cX12_fromOf 14 = .ok (.ireturn, 1) := by decide +kernel
theorem dX12_toOf_0 : decode cX12_toOf 0 = .ok (.aload_n 0, 1) := by decide +kernel
theorem dX12_toOf_1 : decode cX12_toOf 1 = .ok (.getfield 48, 3) := by decide +kernel
theorem dX12_toOf_4 : decode cX12_toOf 4 = .ok (.bipush 14, 2) := by decide +kernel
theorem dX12_toOf_6 : decode cX12_toOf 6 = .ok (.aload_n 0, 1) := by decide +kernel
theorem dX12_toOf_7 : decode cX12_toOf 7 = .ok (.getfield 295, 3) := by decide +kernel
theorem dX12_toOf_10 : decode cX12_toOf 10 = .ok (.imul, 1) := by decide +kernel
theorem dX12_toOf_11 : decode cX12_toOf 11 = .ok (.iload_n 1, 1) := by decide +kernel
theorem dX12_toOf_12 : decode cX12_toOf 12 = .ok (.iadd, 1) := by decide +kernel
theorem dX12_toOf_13 : decode cX12_toOf 13 = .ok (.iaload, 1) := by decide +kernel
theorem dX12_toOf_14 : decode cX12_toOf 14 = .ok (.ireturn, 1) := by decide +kernel
theorem dX12_milesOf_0 : decode cX12_milesOf 0 = .ok (.aload_n 0, 1) := by decide +kernel
theorem dX12_milesOf_1 : decode cX12_milesOf 1 = .ok (.getfield 51, 3) := by decide +kernel
theorem dX12_milesOf_4 : decode cX12_milesOf 4 = .ok (.bipush 14, 2) := by decide +kernel
theorem dX12_milesOf_6 : decode cX12_milesOf 6 = .ok (.aload_n 0, 1) := by decide +kernel
theorem dX12_milesOf_7 : decode cX12_milesOf 7 = .ok (.getfield 295, 3) := by decide +kernel
theorem dX12_milesOf_10 : decode cX12_milesOf 10 = .ok (.imul, 1) := by decide +kernel
theorem dX12_milesOf_11 : decode cX12_milesOf 11 = .ok (.iload_n 1, 1) := by decide +kernel
theorem dX12_milesOf_12 : decode cX12_milesOf 12 = .ok (.iadd, 1) := by decide +kernel
theorem dX12_milesOf_13 : decode cX12_milesOf 13 = .ok (.iaload, 1) := by decide +kernel
theorem dX12_milesOf_14 : decode cX12_milesOf 14 = .ok (.ireturn, 1) := by decide +kernel
theorem dX12_way_0 : decode cX12_way 0 = .ok (.aload_n 0, 1) := by decide +kernel
theorem dX12_way_1 : decode cX12_way 1 = .ok (.iload_n 1, 1) := by decide +kernel
theorem dX12_way_2 : decode cX12_way 2 = .ok (.invokevirtual 442, 3) := by decide +kernel
theorem dX12_way_5 : decode cX12_way 5 = .ok (.ifCond .ne 7, 3) := by decide +kernel
theorem dX12_way_8 : decode cX12_way 8 = .ok (.iconst (-1), 1) := by decide +kernel
theorem dX12_way_9 : decode cX12_way 9 = .ok (.goto 42, 3) := by decide +kernel
theorem dX12_way_12 : decode cX12_way 12 = .ok (.iload_n 2, 1) := by decide +kernel
theorem dX12_way_13 : decode cX12_way 13 = .ok (.ifCond .ne 11, 3) := by decide +kernel
theorem dX12_way_16 : decode cX12_way 16 = .ok (.aload_n 0, 1) := by decide +kernel
theorem dX12_way_17 : decode cX12_way 17 = .ok (.iload_n 1, 1) := by decide +kernel
theorem dX12_way_18 : decode cX12_way 18 = .ok (.invokevirtual 445, 3) := by decide +kernel
theorem dX12_way_21 : decode cX12_way 21 = .ok (.goto 30, 3) := by decide +kernel
theorem dX12_way_24 : decode cX12_way 24 = .ok (.iload_n 2, 1) := by decide +kernel
theorem dX12_way_25 : decode cX12_way 25 = .ok (.iconst 1, 1) := by decide +kernel
theorem dX12_way_26 : decode cX12_way 26 = .ok (.if_icmp .ne 11, 3) := by decide +kernel
theorem dX12_way_29 : decode cX12_way 29 = .ok (.aload_n 0, 1) := by decide +kernel
theorem dX12_way_30 : decode cX12_way 30 = .ok (.iload_n 1, 1) := by decide +kernel
theorem dX12_way_31 : decode cX12_way 31 = .ok (.invokevirtual 448, 3) := by decide +kernel
theorem dX12_way_34 : decode cX12_way 34 = .ok (.goto 17, 3) := by decide +kernel
theorem dX12_way_37 : decode cX12_way 37 = .ok (.iload_n 2, 1) := by decide +kernel
theorem dX12_way_38 : decode cX12_way 38 = .ok (.iconst 2, 1) := by decide +kernel
theorem dX12_way_39 : decode cX12_way 39 = .ok (.if_icmp .ne 11, 3) := by decide +kernel
theorem dX12_way_42 : decode cX12_way 42 = .ok (.aload_n 0, 1) := by decide +kernel
theorem dX12_way_43 : decode cX12_way 43 = .ok (.iload_n 1, 1) := by decide +kernel
theorem dX12_way_44 : decode cX12_way 44 = .ok (.invokevirtual 451, 3) := by decide +kernel
theorem dX12_way_47 : decode cX12_way 47 = .ok (.goto 4, 3) := by decide +kernel
theorem dX12_way_50 : decode cX12_way 50 = .ok (.iconst (-1), 1) := by decide +kernel
theorem dX12_way_51 : decode cX12_way 51 = .ok (.ireturn, 1) := by decide +kernel
theorem dX12_otherEnd_0 : decode cX12_otherEnd 0 = .ok (.aload_n 0, 1) := by decide +kernel
theorem dX12_otherEnd_1 : decode cX12_otherEnd 1 = .ok (.iload_n 1, 1) := by decide +kernel
theorem dX12_otherEnd_2 : decode cX12_otherEnd 2 = .ok (.invokevirtual 445, 3) := by decide +kernel
theorem dX12_otherEnd_5 : decode cX12_otherEnd 5 = .ok (.iload_n 2, 1) := by decide +kernel
theorem dX12_otherEnd_6 : decode cX12_otherEnd 6 = .ok (.if_icmp .ne 11, 3) := by decide +kernel
theorem dX12_otherEnd_9 : decode cX12_otherEnd 9 = .ok (.aload_n 0, 1) := by decide +kernel
theorem dX12_otherEnd_10 : decode cX12_otherEnd 10 = .ok (.iload_n 1, 1) := by decide +kernel
theorem dX12_otherEnd_11 : decode cX12_otherEnd 11 = .ok (.invokevirtual 448, 3) := by decide +kernel
theorem dX12_otherEnd_14 : decode cX12_otherEnd 14 = .ok (.goto 21, 3) := by decide +kernel
theorem dX12_otherEnd_17 : decode cX12_otherEnd 17 = .ok (.aload_n 0, 1) := by decide +kernel
theorem dX12_otherEnd_18 : decode cX12_otherEnd 18 = .ok (.iload_n 1, 1) := by decide +kernel
theorem dX12_otherEnd_19 : decode cX12_otherEnd 19 = .ok (.invokevirtual 448, 3) := by decide +kernel
theorem dX12_otherEnd_22 : decode cX12_otherEnd 22 = .ok (.iload_n 2, 1) := by decide +kernel
theorem dX12_otherEnd_23 : decode cX12_otherEnd 23 = .ok (.if_icmp .ne 11, 3) := by decide +kernel
theorem dX12_otherEnd_26 : decode cX12_otherEnd 26 = .ok (.aload_n 0, 1) := by decide +kernel
theorem dX12_otherEnd_27 : decode cX12_otherEnd 27 = .ok (.iload_n 1, 1) := by decide +kernel
theorem dX12_otherEnd_28 : decode cX12_otherEnd 28 = .ok (.invokevirtual 445, 3) := by decide +kernel
theorem dX12_otherEnd_31 : decode cX12_otherEnd 31 = .ok (.goto 4, 3) := by decide +kernel
theorem dX12_otherEnd_34 : decode cX12_otherEnd 34 = .ok (.iconst (-1), 1) := by decide +kernel
theorem dX12_otherEnd_35 : decode cX12_otherEnd 35 = .ok (.ireturn, 1) := by decide +kernel
theorem dX12_startAnew_0 : decode cX12_startAnew 0 = .ok (.iconst 0, 1) := by decide +kernel
theorem dX12_startAnew_1 : decode cX12_startAnew 1 = .ok (.istore_n 1, 1) := by decide +kernel
theorem dX12_startAnew_2 : decode cX12_startAnew 2 = .ok (.iload_n 1, 1) := by decide +kernel
theorem dX12_startAnew_3 : decode cX12_startAnew 3 = .ok (.bipush 44, 2) := by decide +kernel
theorem dX12_startAnew_5 : decode cX12_startAnew 5 = .ok (.if_icmp .ge 16, 3) := by decide +kernel
theorem dX12_startAnew_8 : decode cX12_startAnew 8 = .ok (.aload_n 0, 1) := by decide +kernel
theorem dX12_startAnew_9 : decode cX12_startAnew 9 = .ok (.getfield 110, 3) := by decide +kernel
theorem dX12_startAnew_12 : decode cX12_startAnew 12 = .ok (.iload_n 1, 1) := by decide +kernel
theorem dX12_startAnew_13 : decode cX12_startAnew 13 = .ok (.iconst 0, 1) := by decide +kernel
theorem dX12_startAnew_14 : decode cX12_startAnew 14 = .ok (.iastore, 1) := by decide +kernel
theorem dX12_startAnew_15 : decode cX12_startAnew 15 = .ok (.iinc 1 1, 3) := by decide +kernel
theorem dX12_startAnew_18 : decode cX12_startAnew 18 = .ok (.goto (-16), 3) := by decide +kernel
theorem dX12_startAnew_21 : decode cX12_startAnew 21 = .ok (.aload_n 0, 1) := by decide +kernel
theorem dX12_startAnew_22 : decode cX12_startAnew 22 = .ok (.getfield 110, 3) := by decide +kernel
theorem dX12_startAnew_25 : decode cX12_startAnew 25 = .ok (.iconst 0, 1) := by decide +kernel
theorem dX12_startAnew_26 : decode cX12_startAnew 26 = .ok (.aload_n 0, 1) := by decide +kernel
theorem dX12_startAnew_27 : decode cX12_startAnew 27 = .ok (.getfield 36, 3) := by decide +kernel
theorem dX12_startAnew_30 : decode cX12_startAnew 30 = .ok (.aload_n 0, 1) := by decide +kernel
theorem dX12_startAnew_31 : decode cX12_startAnew 31 = .ok (.getfield 295, 3) := by decide +kernel
theorem dX12_startAnew_34 : decode cX12_startAnew 34 = .ok (.iaload, 1) := by decide +kernel
theorem dX12_startAnew_35 : decode cX12_startAnew 35 = .ok (.iastore, 1) := by decide +kernel
theorem dX12_startAnew_36 : decode cX12_startAnew 36 = .ok (.iconst 0, 1) := by decide +kernel
theorem dX12_startAnew_37 : decode cX12_startAnew 37 = .ok (.istore_n 1, 1) := by decide +kernel
theorem dX12_startAnew_38 : decode cX12_startAnew 38 = .ok (.iload_n 1, 1) := by decide +kernel
theorem dX12_startAnew_39 : decode cX12_startAnew 39 = .ok (.aload_n 0, 1) := by decide +kernel
theorem dX12_startAnew_40 : decode cX12_startAnew 40 = .ok (.invokevirtual 404, 3) := by decide +kernel
theorem dX12_startAnew_43 : decode cX12_startAnew 43 = .ok (.if_icmp .ge 59, 3) := by decide +kernel
theorem dX12_startAnew_46 : decode cX12_startAnew 46 = .ok (.aload_n 0, 1) := by decide +kernel
theorem dX12_startAnew_47 : decode cX12_startAnew 47 = .ok (.getfield 110, 3) := by decide +kernel
theorem dX12_startAnew_50 : decode cX12_startAnew 50 = .ok (.iconst 1, 1) := by decide +kernel
theorem dX12_startAnew_51 : decode cX12_startAnew 51 = .ok (.iconst 2, 1) := by decide +kernel
theorem dX12_startAnew_52 : decode cX12_startAnew 52 = .ok (.iload_n 1, 1) := by decide +kernel
theorem dX12_startAnew_53 : decode cX12_startAnew 53 = .ok (.imul, 1) := by decide +kernel
theorem dX12_startAnew_54 : decode cX12_startAnew 54 = .ok (.iadd, 1) := by decide +kernel
theorem dX12_startAnew_55 : decode cX12_startAnew 55 = .ok (.aload_n 0, 1) := by decide +kernel
theorem dX12_startAnew_56 : decode cX12_startAnew 56 = .ok (.getfield 57, 3) := by decide +kernel
theorem dX12_startAnew_59 : decode cX12_startAnew 59 = .ok (.bipush 6, 2) := by decide +kernel
theorem dX12_startAnew_61 : decode cX12_startAnew 61 = .ok (.aload_n 0, 1) := by decide +kernel
theorem dX12_startAnew_62 : decode cX12_startAnew 62 = .ok (.getfield 295, 3) := by decide +kernel
theorem dX12_startAnew_65 : decode cX12_startAnew 65 = .ok (.imul, 1) := by decide +kernel
theorem dX12_startAnew_66 : decode cX12_startAnew 66 = .ok (.iload_n 1, 1) := by decide +kernel
theorem dX12_startAnew_67 : decode cX12_startAnew 67 = .ok (.iadd, 1) := by decide +kernel
theorem dX12_startAnew_68 : decode cX12_startAnew 68 = .ok (.iaload, 1) := by decide +kernel
theorem dX12_startAnew_69 : decode cX12_startAnew 69 = .ok (.iastore, 1) := by decide +kernel
theorem dX12_startAnew_70 : decode cX12_startAnew 70 = .ok (.aload_n 0, 1) := by decide +kernel
theorem dX12_startAnew_71 : decode cX12_startAnew 71 = .ok (.getfield 110, 3) := by decide +kernel
theorem dX12_startAnew_74 : decode cX12_startAnew 74 = .ok (.iconst 1, 1) := by decide +kernel
theorem dX12_startAnew_75 : decode cX12_startAnew 75 = .ok (.iconst 2, 1) := by decide +kernel
theorem dX12_startAnew_76 : decode cX12_startAnew 76 = .ok (.iload_n 1, 1) := by decide +kernel
theorem dX12_startAnew_77 : decode cX12_startAnew 77 = .ok (.imul, 1) := by decide +kernel
theorem dX12_startAnew_78 : decode cX12_startAnew 78 = .ok (.iadd, 1) := by decide +kernel
theorem dX12_startAnew_79 : decode cX12_startAnew 79 = .ok (.iconst 1, 1) := by decide +kernel
theorem dX12_startAnew_80 : decode cX12_startAnew 80 = .ok (.iadd, 1) := by decide +kernel
theorem dX12_startAnew_81 : decode cX12_startAnew 81 = .ok (.aload_n 0, 1) := by decide +kernel
theorem dX12_startAnew_82 : decode cX12_startAnew 82 = .ok (.getfield 60, 3) := by decide +kernel
theorem dX12_startAnew_85 : decode cX12_startAnew 85 = .ok (.bipush 6, 2) := by decide +kernel
theorem dX12_startAnew_87 : decode cX12_startAnew 87 = .ok (.aload_n 0, 1) := by decide +kernel
theorem dX12_startAnew_88 : decode cX12_startAnew 88 = .ok (.getfield 295, 3) := by decide +kernel
theorem dX12_startAnew_91 : decode cX12_startAnew 91 = .ok (.imul, 1) := by decide +kernel
theorem dX12_startAnew_92 : decode cX12_startAnew 92 = .ok (.iload_n 1, 1) := by decide +kernel
theorem dX12_startAnew_93 : decode cX12_startAnew 93 = .ok (.iadd, 1) := by decide +kernel
theorem dX12_startAnew_94 : decode cX12_startAnew 94 = .ok (.iaload, 1) := by decide +kernel
theorem dX12_startAnew_95 : decode cX12_startAnew 95 = .ok (.iastore, 1) := by decide +kernel
theorem dX12_startAnew_96 : decode cX12_startAnew 96 = .ok (.iinc 1 1, 3) := by decide +kernel
theorem dX12_startAnew_99 : decode cX12_startAnew 99 = .ok (.goto (-61), 3) := by decide +kernel
theorem dX12_startAnew_102 : decode cX12_startAnew 102 = .ok (.aload_n 0, 1) := by decide +kernel
theorem dX12_startAnew_103 : decode cX12_startAnew 103 = .ok (.getfield 110, 3) := by decide +kernel
theorem dX12_startAnew_106 : decode cX12_startAnew 106 = .ok (.bipush 13, 2) := by decide +kernel
theorem dX12_startAnew_108 : decode cX12_startAnew 108 = .ok (.iconst (-1), 1) := by decide +kernel
theorem dX12_startAnew_109 : decode cX12_startAnew 109 = .ok (.iastore, 1) := by decide +kernel
theorem dX12_startAnew_110 : decode cX12_startAnew 110 = .ok (.aload_n 0, 1) := by decide +kernel
theorem dX12_startAnew_111 : decode cX12_startAnew 111 = .ok (.getfield 110, 3) := by decide +kernel
theorem dX12_startAnew_114 : decode cX12_startAnew 114 = .ok (.bipush 17, 2) := by decide +kernel
theorem dX12_startAnew_116 : decode cX12_startAnew 116 = .ok (.iconst (-1), 1) := by decide +kernel
theorem dX12_startAnew_117 : decode cX12_startAnew 117 = .ok (.iastore, 1) := by decide +kernel
theorem dX12_startAnew_118 : decode cX12_startAnew 118 = .ok (.aload_n 0, 1) := by decide +kernel
theorem dX12_startAnew_119 : decode cX12_startAnew 119 = .ok (.iconst 0, 1) := by decide +kernel
theorem dX12_startAnew_120 : decode cX12_startAnew 120 = .ok (.putfield 454, 3) := by decide +kernel
theorem dX12_startAnew_123 : decode cX12_startAnew 123 = .ok (.aload_n 0, 1) := by decide +kernel
theorem dX12_startAnew_124 : decode cX12_startAnew 124 = .ok (.iconst 0, 1) := by decide +kernel
theorem dX12_startAnew_125 : decode cX12_startAnew 125 = .ok (.putfield 457, 3) := by decide +kernel
theorem dX12_startAnew_128 : decode cX12_startAnew 128 = .ok (.aload_n 0, 1) := by decide +kernel
theorem dX12_startAnew_129 : decode cX12_startAnew 129 = .ok (.iconst (-1), 1) := by decide +kernel
theorem dX12_startAnew_130 : decode cX12_startAnew 130 = .ok (.putfield 125, 3) := by decide +kernel
theorem dX12_startAnew_133 : decode cX12_startAnew 133 = .ok (.aload_n 0, 1) := by decide +kernel
theorem dX12_startAnew_134 : decode cX12_startAnew 134 = .ok (.iconst 0, 1) := by decide +kernel
theorem dX12_startAnew_135 : decode cX12_startAnew 135 = .ok (.putfield 460, 3) := by decide +kernel
theorem dX12_startAnew_138 : decode cX12_startAnew 138 = .ok (.aload_n 0, 1) := by decide +kernel
theorem dX12_startAnew_139 : decode cX12_startAnew 139 = .ok (.iconst 0, 1) := by decide +kernel
theorem dX12_startAnew_140 : decode cX12_startAnew 140 = .ok (.putfield 463, 3) := by decide +kernel
theorem dX12_startAnew_143 : decode cX12_startAnew 143 = .ok (.aload_n 0, 1) := by decide +kernel
theorem dX12_startAnew_144 : decode cX12_startAnew 144 = .ok (.iconst 0, 1) := by decide +kernel
theorem dX12_startAnew_145 : decode cX12_startAnew 145 = .ok (.putfield 466, 3) := by decide +kernel
theorem dX12_startAnew_148 : decode cX12_startAnew 148 = .ok (.iconst 0, 1) := by decide +kernel
theorem dX12_startAnew_149 : decode cX12_startAnew 149 = .ok (.istore_n 1, 1) := by decide +kernel
theorem dX12_startAnew_150 : decode cX12_startAnew 150 = .ok (.iload_n 1, 1) := by decide +kernel
theorem dX12_startAnew_151 : decode cX12_startAnew 151 = .ok (.iconst 3, 1) := by decide +kernel
theorem dX12_startAnew_152 : decode cX12_startAnew 152 = .ok (.if_icmp .ge 16, 3) := by decide +kernel
theorem dX12_startAnew_155 : decode cX12_startAnew 155 = .ok (.aload_n 0, 1) := by decide +kernel
theorem dX12_startAnew_156 : decode cX12_startAnew 156 = .ok (.getfield 170, 3) := by decide +kernel
theorem dX12_startAnew_159 : decode cX12_startAnew 159 = .ok (.iload_n 1, 1) := by decide +kernel
theorem dX12_startAnew_160 : decode cX12_startAnew 160 = .ok (.iconst 0, 1) := by decide +kernel
theorem dX12_startAnew_161 : decode cX12_startAnew 161 = .ok (.bastore, 1) := by decide +kernel
theorem dX12_startAnew_162 : decode cX12_startAnew 162 = .ok (.iinc 1 1, 3) := by decide +kernel
theorem dX12_startAnew_165 : decode cX12_startAnew 165 = .ok (.goto (-15), 3) := by decide +kernel
theorem dX12_startAnew_168 : decode cX12_startAnew 168 = .ok (.return_, 1) := by decide +kernel
theorem dX12_keepAct_0 : decode cX12_keepAct 0 = .ok (.aload_n 0, 1) := by decide +kernel
theorem dX12_keepAct_1 : decode cX12_keepAct 1 = .ok (.getfield 454, 3) := by decide +kernel
theorem dX12_keepAct_4 : decode cX12_keepAct 4 = .ok (.bipush 40, 2) := by decide +kernel
theorem dX12_keepAct_6 : decode cX12_keepAct 6 = .ok (.if_icmp .ne 43, 3) := by decide +kernel
theorem dX12_keepAct_9 : decode cX12_keepAct 9 = .ok (.iconst 0, 1) := by decide +kernel
theorem dX12_keepAct_10 : decode cX12_keepAct 10 = .ok (.istore_n 1, 1) := by decide +kernel
theorem dX12_keepAct_11 : decode cX12_keepAct 11 = .ok (.iload_n 1, 1) := by decide +kernel
theorem dX12_keepAct_12 : decode cX12_keepAct 12 = .ok (.sipush 1760, 3) := by decide +kernel
theorem dX12_keepAct_15 : decode cX12_keepAct 15 = .ok (.if_icmp .ge 24, 3) := by decide +kernel
theorem dX12_keepAct_18 : decode cX12_keepAct 18 = .ok (.aload_n 0, 1) := by decide +kernel
theorem dX12_keepAct_19 : decode cX12_keepAct 19 = .ok (.getfield 116, 3) := by decide +kernel
theorem dX12_keepAct_22 : decode cX12_keepAct 22 = .ok (.iload_n 1, 1) := by decide +kernel
theorem dX12_keepAct_23 : decode cX12_keepAct 23 = .ok (.aload_n 0, 1) := by decide +kernel
theorem dX12_keepAct_24 : decode cX12_keepAct 24 = .ok (.getfield 116, 3) := by decide +kernel
theorem dX12_keepAct_27 : decode cX12_keepAct 27 = .ok (.iload_n 1, 1) := by decide +kernel
theorem dX12_keepAct_28 : decode cX12_keepAct 28 = .ok (.bipush 44, 2) := by decide +kernel
theorem dX12_keepAct_30 : decode cX12_keepAct 30 = .ok (.iadd, 1) := by decide +kernel
theorem dX12_keepAct_31 : decode cX12_keepAct 31 = .ok (.iaload, 1) := by decide +kernel
theorem dX12_keepAct_32 : decode cX12_keepAct 32 = .ok (.iastore, 1) := by decide +kernel
theorem dX12_keepAct_33 : decode cX12_keepAct 33 = .ok (.iinc 1 1, 3) := by decide +kernel
theorem dX12_keepAct_36 : decode cX12_keepAct 36 = .ok (.goto (-25), 3) := by decide +kernel
theorem dX12_keepAct_39 : decode cX12_keepAct 39 = .ok (.aload_n 0, 1) := by decide +kernel
theorem dX12_keepAct_40 : decode cX12_keepAct 40 = .ok (.dup, 1) := by decide +kernel
theorem dX12_keepAct_41 : decode cX12_keepAct 41 = .ok (.getfield 454, 3) := by decide +kernel
theorem dX12_keepAct_44 : decode cX12_keepAct 44 = .ok (.iconst 1, 1) := by decide +kernel
theorem dX12_keepAct_45 : decode cX12_keepAct 45 = .ok (.isub, 1) := by decide +kernel
theorem dX12_keepAct_46 : decode cX12_keepAct 46 = .ok (.putfield 454, 3) := by decide +kernel
theorem dX12_keepAct_49 : decode cX12_keepAct 49 = .ok (.iconst 0, 1) := by decide +kernel
theorem dX12_keepAct_50 : decode cX12_keepAct 50 = .ok (.istore_n 1, 1) := by decide +kernel
theorem dX12_keepAct_51 : decode cX12_keepAct 51 = .ok (.iload_n 1, 1) := by decide +kernel
theorem dX12_keepAct_52 : decode cX12_keepAct 52 = .ok (.bipush 44, 2) := by decide +kernel
theorem dX12_keepAct_54 : decode cX12_keepAct 54 = .ok (.if_icmp .ge 29, 3) := by decide +kernel
theorem dX12_keepAct_57 : decode cX12_keepAct 57 = .ok (.aload_n 0, 1) := by decide +kernel
theorem dX12_keepAct_58 : decode cX12_keepAct 58 = .ok (.getfield 116, 3) := by decide +kernel
theorem dX12_keepAct_61 : decode cX12_keepAct 61 = .ok (.bipush 44, 2) := by decide +kernel
theorem dX12_keepAct_63 : decode cX12_keepAct 63 = .ok (.aload_n 0, 1) := by decide +kernel
theorem dX12_keepAct_64 : decode cX12_keepAct 64 = .ok (.getfield 454, 3) := by decide +kernel
theorem dX12_keepAct_67 : decode cX12_keepAct 67 = .ok (.imul, 1) := by decide +kernel
theorem dX12_keepAct_68 : decode cX12_keepAct 68 = .ok (.iload_n 1, 1) := by decide +kernel
theorem dX12_keepAct_69 : decode cX12_keepAct 69 = .ok (.iadd, 1) := by decide +kernel
theorem dX12_keepAct_70 : decode cX12_keepAct 70 = .ok (.aload_n 0, 1) := by decide +kernel
theorem dX12_keepAct_71 : decode cX12_keepAct 71 = .ok (.getfield 110, 3) := by decide +kernel
theorem dX12_keepAct_74 : decode cX12_keepAct 74 = .ok (.iload_n 1, 1) := by decide +kernel
theorem dX12_keepAct_75 : decode cX12_keepAct 75 = .ok (.iaload, 1) := by decide +kernel
theorem dX12_keepAct_76 : decode cX12_keepAct 76 = .ok (.iastore, 1) := by decide +kernel
theorem dX12_keepAct_77 : decode cX12_keepAct 77 = .ok (.iinc 1 1, 3) := by decide +kernel
theorem dX12_keepAct_80 : decode cX12_keepAct 80 = .ok (.goto (-29), 3) := by decide +kernel
theorem dX12_keepAct_83 : decode cX12_keepAct 83 = .ok (.aload_n 0, 1) := by decide +kernel
theorem dX12_keepAct_84 : decode cX12_keepAct 84 = .ok (.dup, 1) := by decide +kernel
theorem dX12_keepAct_85 : decode cX12_keepAct 85 = .ok (.getfield 454, 3) := by decide +kernel
theorem dX12_keepAct_88 : decode cX12_keepAct 88 = .ok (.iconst 1, 1) := by decide +kernel
theorem dX12_keepAct_89 : decode cX12_keepAct 89 = .ok (.iadd, 1) := by decide +kernel
theorem dX12_keepAct_90 : decode cX12_keepAct 90 = .ok (.putfield 454, 3) := by decide +kernel
theorem dX12_keepAct_93 : decode cX12_keepAct 93 = .ok (.aload_n 0, 1) := by decide +kernel
theorem dX12_keepAct_94 : decode cX12_keepAct 94 = .ok (.iconst 0, 1) := by decide +kernel
theorem dX12_keepAct_95 : decode cX12_keepAct 95 = .ok (.putfield 457, 3) := by decide +kernel
theorem dX12_keepAct_98 : decode cX12_keepAct 98 = .ok (.return_, 1) := by decide +kernel
theorem dX12_exchange_0 : decode cX12_exchange 0 = .ok (.iconst 0, 1) := by decide +kernel
theorem dX12_exchange_1 : decode cX12_exchange 1 = .ok (.istore_n 1, 1) := by decide +kernel
theorem dX12_exchange_2 : decode cX12_exchange 2 = .ok (.iload_n 1, 1) := by decide +kernel
theorem dX12_exchange_3 : decode cX12_exchange 3 = .ok (.bipush 44, 2) := by decide +kernel
theorem dX12_exchange_5 : decode cX12_exchange 5 = .ok (.if_icmp .ge 51, 3) := by decide +kernel
theorem dX12_exchange_8 : decode cX12_exchange 8 = .ok (.aload_n 0, 1) := by decide +kernel
theorem dX12_exchange_9 : decode cX12_exchange 9 = .ok (.getfield 116, 3) := by decide +kernel
theorem dX12_exchange_12 : decode cX12_exchange 12 = .ok (.bipush 44, 2) := by decide +kernel
theorem dX12_exchange_14 : decode cX12_exchange 14 = .ok (.aload_n 0, 1) := by decide +kernel
theorem dX12_exchange_15 : decode cX12_exchange 15 = .ok (.getfield 454, 3) := by decide +kernel
theorem dX12_exchange_18 : decode cX12_exchange 18 = .ok (.imul, 1) := by decide +kernel
theorem dX12_exchange_19 : decode cX12_exchange 19 = .ok (.iload_n 1, 1) := by decide +kernel
theorem dX12_exchange_20 : decode cX12_exchange 20 = .ok (.iadd, 1) := by decide +kernel
theorem dX12_exchange_21 : decode cX12_exchange 21 = .ok (.iaload, 1) := by decide +kernel
theorem dX12_exchange_22 : decode cX12_exchange 22 = .ok (.istore_n 2, 1) := by decide +kernel
theorem dX12_exchange_23 : decode cX12_exchange 23 = .ok (.aload_n 0, 1) := by decide +kernel
theorem dX12_exchange_24 : decode cX12_exchange 24 = .ok (.getfield 116, 3) := by decide +kernel
theorem dX12_exchange_27 : decode cX12_exchange 27 = .ok (.bipush 44, 2) := by decide +kernel
theorem dX12_exchange_29 : decode cX12_exchange 29 = .ok (.aload_n 0, 1) := by decide +kernel
theorem dX12_exchange_30 : decode cX12_exchange 30 = .ok (.getfield 454, 3) := by decide +kernel
theorem dX12_exchange_33 : decode cX12_exchange 33 = .ok (.imul, 1) := by decide +kernel
theorem dX12_exchange_34 : decode cX12_exchange 34 = .ok (.iload_n 1, 1) := by decide +kernel
theorem dX12_exchange_35 : decode cX12_exchange 35 = .ok (.iadd, 1) := by decide +kernel
theorem dX12_exchange_36 : decode cX12_exchange 36 = .ok (.aload_n 0, 1) := by decide +kernel
theorem dX12_exchange_37 : decode cX12_exchange 37 = .ok (.getfield 110, 3) := by decide +kernel
theorem dX12_exchange_40 : decode cX12_exchange 40 = .ok (.iload_n 1, 1) := by decide +kernel
theorem dX12_exchange_41 : decode cX12_exchange 41 = .ok (.iaload, 1) := by decide +kernel
theorem dX12_exchange_42 : decode cX12_exchange 42 = .ok (.iastore, 1) := by decide +kernel
theorem dX12_exchange_43 : decode cX12_exchange 43 = .ok (.aload_n 0, 1) := by decide +kernel
theorem dX12_exchange_44 : decode cX12_exchange 44 = .ok (.getfield 110, 3) := by decide +kernel
theorem dX12_exchange_47 : decode cX12_exchange 47 = .ok (.iload_n 1, 1) := by decide +kernel
theorem dX12_exchange_48 : decode cX12_exchange 48 = .ok (.iload_n 2, 1) := by decide +kernel
theorem dX12_exchange_49 : decode cX12_exchange 49 = .ok (.iastore, 1) := by decide +kernel
theorem dX12_exchange_50 : decode cX12_exchange 50 = .ok (.iinc 1 1, 3) := by decide +kernel
theorem dX12_exchange_53 : decode cX12_exchange 53 = .ok (.goto (-51), 3) := by decide +kernel
theorem dX12_exchange_56 : decode cX12_exchange 56 = .ok (.return_, 1) := by decide +kernel
theorem dX12_doWalk_0 : decode cX12_doWalk 0 = .ok (.aload_n 0, 1) := by decide +kernel
theorem dX12_doWalk_1 : decode cX12_doWalk 1 = .ok (.getfield 110, 3) := by decide +kernel
theorem dX12_doWalk_4 : decode cX12_doWalk 4 = .ok (.bipush 13, 2) := by decide +kernel
theorem dX12_doWalk_6 : decode cX12_doWalk 6 = .ok (.iaload, 1) := by decide +kernel
theorem dX12_doWalk_7 : decode cX12_doWalk 7 = .ok (.ifCond .lt 7, 3) := by decide +kernel
theorem dX12_doWalk_10 : decode cX12_doWalk 10 = .ok (.iconst 1, 1) := by decide +kernel
theorem dX12_doWalk_11 : decode cX12_doWalk 11 = .ok (.goto 4, 3) := by decide +kernel
theorem dX12_doWalk_14 : decode cX12_doWalk 14 = .ok (.iconst 0, 1) := by decide +kernel
theorem dX12_doWalk_15 : decode cX12_doWalk 15 = .ok (.ireturn, 1) := by decide +kernel
theorem dX12_setOut_0 : decode cX12_setOut 0 = .ok (.aload_n 0, 1) := by decide +kernel
theorem dX12_setOut_1 : decode cX12_setOut 1 = .ok (.iload_n 1, 1) := by decide +kernel
theorem dX12_setOut_2 : decode cX12_setOut 2 = .ok (.iload_n 2, 1) := by decide +kernel
theorem dX12_setOut_3 : decode cX12_setOut 3 = .ok (.iload_n 3, 1) := by decide +kernel
theorem dX12_setOut_4 : decode cX12_setOut 4 = .ok (.invokevirtual 436, 3) := by decide +kernel
theorem dX12_setOut_7 : decode cX12_setOut 7 = .ok (.ifCond .eq 12, 3) := by decide +kernel
theorem dX12_setOut_10 : decode cX12_setOut 10 = .ok (.aload_n 0, 1) := by decide +kernel
theorem dX12_setOut_11 : decode cX12_setOut 11 = .ok (.iload 4, 2) := by decide +kernel
theorem dX12_setOut_13 : decode cX12_setOut 13 = .ok (.invokevirtual 469, 3) := by decide +kernel
theorem dX12_setOut_16 : decode cX12_setOut 16 = .ok (.ifCond .ne 5, 3) := by decide +kernel
theorem dX12_setOut_19 : decode cX12_setOut 19 = .ok (.iconst (-1), 1) := by decide +kernel
theorem dX12_setOut_20 : decode cX12_setOut 20 = .ok (.ireturn, 1) := by decide +kernel
theorem dX12_setOut_21 : decode cX12_setOut 21 = .ok (.aload_n 0, 1) := by decide +kernel
theorem dX12_setOut_22 : decode cX12_setOut 22 = .ok (.invokevirtual 472, 3) := by decide +kernel
theorem dX12_setOut_25 : decode cX12_setOut 25 = .ok (.aload_n 0, 1) := by decide +kernel
theorem dX12_setOut_26 : decode cX12_setOut 26 = .ok (.aload_n 0, 1) := by decide +kernel
theorem dX12_setOut_27 : decode cX12_setOut 27 = .ok (.getfield 110, 3) := by decide +kernel
theorem dX12_setOut_30 : decode cX12_setOut 30 = .ok (.iload_n 1, 1) := by decide +kernel
theorem dX12_setOut_31 : decode cX12_setOut 31 = .ok (.iload_n 2, 1) := by decide +kernel
theorem dX12_setOut_32 : decode cX12_setOut 32 = .ok (.iload_n 3, 1) := by decide +kernel
theorem dX12_setOut_33 : decode cX12_setOut 33 = .ok (.invokevirtual 424, 3) := by decide +kernel
theorem dX12_setOut_36 : decode cX12_setOut 36 = .ok (.aload_n 0, 1) := by decide +kernel
theorem dX12_setOut_37 : decode cX12_setOut 37 = .ok (.getfield 110, 3) := by decide +kernel
theorem dX12_setOut_40 : decode cX12_setOut 40 = .ok (.bipush 16, 2) := by decide +kernel
theorem dX12_setOut_42 : decode cX12_setOut 42 = .ok (.iload 4, 2) := by decide +kernel
theorem dX12_setOut_44 : decode cX12_setOut 44 = .ok (.iastore, 1) := by decide +kernel
theorem dX12_setOut_45 : decode cX12_setOut 45 = .ok (.aload_n 0, 1) := by decide +kernel
theorem dX12_setOut_46 : decode cX12_setOut 46 = .ok (.getfield 110, 3) := by decide +kernel
theorem dX12_setOut_49 : decode cX12_setOut 49 = .ok (.bipush 17, 2) := by decide +kernel
theorem dX12_setOut_51 : decode cX12_setOut 51 = .ok (.iconst (-1), 1) := by decide +kernel
theorem dX12_setOut_52 : decode cX12_setOut 52 = .ok (.iastore, 1) := by decide +kernel
theorem dX12_setOut_53 : decode cX12_setOut 53 = .ok (.aload_n 0, 1) := by decide +kernel
theorem dX12_setOut_54 : decode cX12_setOut 54 = .ok (.getfield 110, 3) := by decide +kernel
theorem dX12_setOut_57 : decode cX12_setOut 57 = .ok (.bipush 18, 2) := by decide +kernel
theorem dX12_setOut_59 : decode cX12_setOut 59 = .ok (.iconst 0, 1) := by decide +kernel
theorem dX12_setOut_60 : decode cX12_setOut 60 = .ok (.iastore, 1) := by decide +kernel
theorem dX12_setOut_61 : decode cX12_setOut 61 = .ok (.iconst 1, 1) := by decide +kernel
theorem dX12_setOut_62 : decode cX12_setOut 62 = .ok (.ireturn, 1) := by decide +kernel
theorem dX12_take_0 : decode cX12_take 0 = .ok (.aload_n 0, 1) := by decide +kernel
theorem dX12_take_1 : decode cX12_take 1 = .ok (.invokevirtual 475, 3) := by decide +kernel
theorem dX12_take_4 : decode cX12_take 4 = .ok (.ifCond .eq 46, 3) := by decide +kernel
theorem dX12_take_7 : decode cX12_take 7 = .ok (.aload_n 0, 1) := by decide +kernel
theorem dX12_take_8 : decode cX12_take 8 = .ok (.iload_n 1, 1) := by decide +kernel
theorem dX12_take_9 : decode cX12_take 9 = .ok (.invokevirtual 442, 3) := by decide +kernel
theorem dX12_take_12 : decode cX12_take 12 = .ok (.ifCond .eq 38, 3) := by decide +kernel
theorem dX12_take_15 : decode cX12_take 15 = .ok (.aload_n 0, 1) := by decide +kernel
theorem dX12_take_16 : decode cX12_take 16 = .ok (.getfield 110, 3) := by decide +kernel
theorem dX12_take_19 : decode cX12_take 19 = .ok (.bipush 17, 2) := by decide +kernel
theorem dX12_take_21 : decode cX12_take 21 = .ok (.iaload, 1) := by decide +kernel
theorem dX12_take_22 : decode cX12_take 22 = .ok (.ifCond .ge 28, 3) := by decide +kernel
theorem dX12_take_25 : decode cX12_take 25 = .ok (.aload_n 0, 1) := by decide +kernel
theorem dX12_take_26 : decode cX12_take 26 = .ok (.getfield 110, 3) := by decide +kernel
theorem dX12_take_29 : decode cX12_take 29 = .ok (.invokestatic 432, 3) := by decide +kernel
theorem dX12_take_32 : decode cX12_take 32 = .ok (.ifCond .ne 18, 3) := by decide +kernel
theorem dX12_take_35 : decode cX12_take 35 = .ok (.aload_n 0, 1) := by decide +kernel
theorem dX12_take_36 : decode cX12_take 36 = .ok (.iload_n 1, 1) := by decide +kernel
theorem dX12_take_37 : decode cX12_take 37 = .ok (.aload_n 0, 1) := by decide +kernel
theorem dX12_take_38 : decode cX12_take 38 = .ok (.getfield 110, 3) := by decide +kernel
theorem dX12_take_41 : decode cX12_take 41 = .ok (.bipush 16, 2) := by decide +kernel
theorem dX12_take_43 : decode cX12_take 43 = .ok (.iaload, 1) := by decide +kernel
theorem dX12_take_44 : decode cX12_take 44 = .ok (.invokevirtual 478, 3) := by decide +kernel
theorem dX12_take_47 : decode cX12_take 47 = .ok (.ifCond .ge 5, 3) := by decide +kernel
theorem dX12_take_50 : decode cX12_take 50 = .ok (.iconst (-1), 1) := by decide +kernel
theorem dX12_take_51 : decode cX12_take 51 = .ok (.ireturn, 1) := by decide +kernel
theorem dX12_take_52 : decode cX12_take 52 = .ok (.aload_n 0, 1) := by decide +kernel
theorem dX12_take_53 : decode cX12_take 53 = .ok (.invokevirtual 472, 3) := by decide +kernel
theorem dX12_take_56 : decode cX12_take 56 = .ok (.aload_n 0, 1) := by decide +kernel
theorem dX12_take_57 : decode cX12_take 57 = .ok (.getfield 110, 3) := by decide +kernel
theorem dX12_take_60 : decode cX12_take 60 = .ok (.bipush 17, 2) := by decide +kernel
theorem dX12_take_62 : decode cX12_take 62 = .ok (.iload_n 1, 1) := by decide +kernel
theorem dX12_take_63 : decode cX12_take 63 = .ok (.iastore, 1) := by decide +kernel
theorem dX12_take_64 : decode cX12_take 64 = .ok (.aload_n 0, 1) := by decide +kernel
theorem dX12_take_65 : decode cX12_take 65 = .ok (.getfield 110, 3) := by decide +kernel
theorem dX12_take_68 : decode cX12_take 68 = .ok (.bipush 18, 2) := by decide +kernel
theorem dX12_take_70 : decode cX12_take 70 = .ok (.iconst 0, 1) := by decide +kernel
theorem dX12_take_71 : decode cX12_take 71 = .ok (.iastore, 1) := by decide +kernel
theorem dX12_take_72 : decode cX12_take 72 = .ok (.aload_n 0, 1) := by decide +kernel
theorem dX12_take_73 : decode cX12_take 73 = .ok (.iload_n 1, 1) := by decide +kernel
theorem dX12_take_74 : decode cX12_take 74 = .ok (.invokevirtual 451, 3) := by decide +kernel
theorem dX12_take_77 : decode cX12_take 77 = .ok (.ireturn, 1) := by decide +kernel
theorem dX12_words_0 : decode cX12_words 0 = .ok (.iload_n 1, 1) := by decide +kernel
theorem dX12_words_1 : decode cX12_words 1 = .ok (.iconst 0, 1) := by decide +kernel
theorem dX12_words_2 : decode cX12_words 2 = .ok (.bipush 60, 2) := by decide +kernel
theorem dX12_words_4 : decode cX12_words 4 = .ok (.invokestatic 400, 3) := by decide +kernel
theorem dX12_words_7 : decode cX12_words 7 = .ok (.ifCond .eq 10, 3) := by decide +kernel
theorem dX12_words_10 : decode cX12_words 10 = .ok (.aload_n 0, 1) := by decide +kernel
theorem dX12_words_11 : decode cX12_words 11 = .ok (.invokevirtual 475, 3) := by decide +kernel
theorem dX12_words_14 : decode cX12_words 14 = .ok (.ifCond .ne 5, 3) := by decide +kernel
theorem dX12_words_17 : decode cX12_words 17 = .ok (.iconst (-1), 1) := by decide +kernel
theorem dX12_words_18 : decode cX12_words 18 = .ok (.ireturn, 1) := by decide +kernel
theorem dX12_words_19 : decode cX12_words 19 = .ok (.aload_n 0, 1) := by decide +kernel
theorem dX12_words_20 : decode cX12_words 20 = .ok (.invokevirtual 472, 3) := by decide +kernel
theorem dX12_words_23 : decode cX12_words 23 = .ok (.iconst 0, 1) := by decide +kernel
theorem dX12_words_24 : decode cX12_words 24 = .ok (.istore_n 2, 1) := by decide +kernel
theorem dX12_words_25 : decode cX12_words 25 = .ok (.iload_n 2, 1) := by decide +kernel
theorem dX12_words_26 : decode cX12_words 26 = .ok (.iload_n 1, 1) := by decide +kernel
theorem dX12_words_27 : decode cX12_words 27 = .ok (.if_icmp .ge 137, 3) := by decide +kernel
theorem dX12_words_30 : decode cX12_words 30 = .ok (.aload_n 0, 1) := by decide +kernel
theorem dX12_words_31 : decode cX12_words 31 = .ok (.getfield 110, 3) := by decide +kernel
theorem dX12_words_34 : decode cX12_words 34 = .ok (.bipush 17, 2) := by decide +kernel
theorem dX12_words_36 : decode cX12_words 36 = .ok (.iaload, 1) := by decide +kernel
theorem dX12_words_37 : decode cX12_words 37 = .ok (.ifCond .lt 127, 3) := by decide +kernel
theorem dX12_words_40 : decode cX12_words 40 = .ok (.aload_n 0, 1) := by decide +kernel
theorem dX12_words_41 : decode cX12_words 41 = .ok (.getfield 110, 3) := by decide +kernel
theorem dX12_words_44 : decode cX12_words 44 = .ok (.invokestatic 432, 3) := by decide +kernel
theorem dX12_words_47 : decode cX12_words 47 = .ok (.ifCond .ne 117, 3) := by decide +kernel
theorem dX12_words_50 : decode cX12_words 50 = .ok (.aload_n 0, 1) := by decide +kernel
theorem dX12_words_51 : decode cX12_words 51 = .ok (.getfield 110, 3) := by decide +kernel
theorem dX12_words_54 : decode cX12_words 54 = .ok (.bipush 17, 2) := by decide +kernel
theorem dX12_words_56 : decode cX12_words 56 = .ok (.iaload, 1) := by decide +kernel
theorem dX12_words_57 : decode cX12_words 57 = .ok (.istore_n 3, 1) := by decide +kernel
theorem dX12_words_58 : decode cX12_words 58 = .ok (.aload_n 0, 1) := by decide +kernel
theorem dX12_words_59 : decode cX12_words 59 = .ok (.getfield 110, 3) := by decide +kernel
theorem dX12_words_62 : decode cX12_words 62 = .ok (.bipush 18, 2) := by decide +kernel
theorem dX12_words_64 : decode cX12_words 64 = .ok (.dup2, 1) := by decide +kernel
theorem dX12_words_65 : decode cX12_words 65 = .ok (.iaload, 1) := by decide +kernel
theorem dX12_words_66 : decode cX12_words 66 = .ok (.iconst 1, 1) := by decide +kernel
theorem dX12_words_67 : decode cX12_words 67 = .ok (.iadd, 1) := by decide +kernel
theorem dX12_words_68 : decode cX12_words 68 = .ok (.iastore, 1) := by decide +kernel
theorem dX12_words_69 : decode cX12_words 69 = .ok (.aload_n 0, 1) := by decide +kernel
theorem dX12_words_70 : decode cX12_words 70 = .ok (.getfield 110, 3) := by decide +kernel
theorem dX12_words_73 : decode cX12_words 73 = .ok (.bipush 18, 2) := by decide +kernel
theorem dX12_words_75 : decode cX12_words 75 = .ok (.iaload, 1) := by decide +kernel
theorem dX12_words_76 : decode cX12_words 76 = .ok (.aload_n 0, 1) := by decide +kernel
theorem dX12_words_77 : decode cX12_words 77 = .ok (.iload_n 3, 1) := by decide +kernel
theorem dX12_words_78 : decode cX12_words 78 = .ok (.invokevirtual 451, 3) := by decide +kernel
theorem dX12_words_81 : decode cX12_words 81 = .ok (.if_icmp .ne 7, 3) := by decide +kernel
theorem dX12_words_84 : decode cX12_words 84 = .ok (.iconst 1, 1) := by decide +kernel
theorem dX12_words_85 : decode cX12_words 85 = .ok (.goto 4, 3) := by decide +kernel
theorem dX12_words_88 : decode cX12_words 88 = .ok (.iconst 0, 1) := by decide +kernel
theorem dX12_words_89 : decode cX12_words 89 = .ok (.istore 4, 2) := by decide +kernel
theorem dX12_words_91 : decode cX12_words 91 = .ok (.aload_n 0, 1) := by decide +kernel
theorem dX12_words_92 : decode cX12_words 92 = .ok (.iload_n 3, 1) := by decide +kernel
theorem dX12_words_93 : decode cX12_words 93 = .ok (.aload_n 0, 1) := by decide +kernel
theorem dX12_words_94 : decode cX12_words 94 = .ok (.getfield 110, 3) := by decide +kernel
theorem dX12_words_97 : decode cX12_words 97 = .ok (.bipush 16, 2) := by decide +kernel
theorem dX12_words_99 : decode cX12_words 99 = .ok (.iaload, 1) := by decide +kernel
theorem dX12_words_100 : decode cX12_words 100 = .ok (.invokevirtual 478, 3) := by decide +kernel
theorem dX12_words_103 : decode cX12_words 103 = .ok (.istore 5, 2) := by decide +kernel
theorem dX12_words_105 : decode cX12_words 105 = .ok (.aload_n 0, 1) := by decide +kernel
theorem dX12_words_106 : decode cX12_words 106 = .ok (.aload_n 0, 1) := by decide +kernel
theorem dX12_words_107 : decode cX12_words 107 = .ok (.getfield 110, 3) := by decide +kernel
theorem dX12_words_110 : decode cX12_words 110 = .ok (.iload_n 3, 1) := by decide +kernel
theorem dX12_words_111 : decode cX12_words 111 = .ok (.iload 4, 2) := by decide +kernel
theorem dX12_words_113 : decode cX12_words 113 = .ok (.ifCond .eq 8, 3) := by decide +kernel
theorem dX12_words_116 : decode cX12_words 116 = .ok (.iload 5, 2) := by decide +kernel
theorem dX12_words_118 : decode cX12_words 118 = .ok (.goto 4, 3) := by decide +kernel
theorem dX12_words_121 : decode cX12_words 121 = .ok (.iconst (-1), 1) := by decide +kernel
theorem dX12_words_122 : decode cX12_words 122 = .ok (.invokevirtual 428, 3) := by decide +kernel
theorem dX12_words_125 : decode cX12_words 125 = .ok (.iinc 2 1, 3) := by decide +kernel
theorem dX12_words_128 : decode cX12_words 128 = .ok (.iload 4, 2) := by decide +kernel
theorem dX12_words_130 : decode cX12_words 130 = .ok (.ifCond .ne 6, 3) := by decide +kernel
theorem dX12_words_133 : decode cX12_words 133 = .ok (.goto (-108), 3) := by decide +kernel
theorem dX12_words_136 : decode cX12_words 136 = .ok (.aload_n 0, 1) := by decide +kernel
theorem dX12_words_137 : decode cX12_words 137 = .ok (.getfield 110, 3) := by decide +kernel
theorem dX12_words_140 : decode cX12_words 140 = .ok (.bipush 16, 2) := by decide +kernel
theorem dX12_words_142 : decode cX12_words 142 = .ok (.iload 5, 2) := by decide +kernel
theorem dX12_words_144 : decode cX12_words 144 = .ok (.iastore, 1) := by decide +kernel
theorem dX12_words_145 : decode cX12_words 145 = .ok (.aload_n 0, 1) := by decide +kernel
theorem dX12_words_146 : decode cX12_words 146 = .ok (.getfield 110, 3) := by decide +kernel
theorem dX12_words_149 : decode cX12_words 149 = .ok (.bipush 17, 2) := by decide +kernel
theorem dX12_words_151 : decode cX12_words 151 = .ok (.iconst (-1), 1) := by decide +kernel
theorem dX12_words_152 : decode cX12_words 152 = .ok (.iastore, 1) := by decide +kernel
theorem dX12_words_153 : decode cX12_words 153 = .ok (.aload_n 0, 1) := by decide +kernel
theorem dX12_words_154 : decode cX12_words 154 = .ok (.getfield 110, 3) := by decide +kernel
theorem dX12_words_157 : decode cX12_words 157 = .ok (.bipush 18, 2) := by decide +kernel
theorem dX12_words_159 : decode cX12_words 159 = .ok (.iconst 0, 1) := by decide +kernel
theorem dX12_words_160 : decode cX12_words 160 = .ok (.iastore, 1) := by decide +kernel
theorem dX12_words_161 : decode cX12_words 161 = .ok (.goto (-136), 3) := by decide +kernel
theorem dX12_words_164 : decode cX12_words 164 = .ok (.iload_n 2, 1) := by decide +kernel
theorem dX12_words_165 : decode cX12_words 165 = .ok (.ireturn, 1) := by decide +kernel
theorem dX12_year_0 : decode cX12_year 0 = .ok (.aload_n 0, 1) := by decide +kernel
theorem dX12_year_1 : decode cX12_year 1 = .ok (.invokevirtual 404, 3) := by decide +kernel
theorem dX12_year_4 : decode cX12_year 4 = .ok (.ifCond .ne 5, 3) := by decide +kernel
theorem dX12_year_7 : decode cX12_year 7 = .ok (.iconst (-1), 1) := by decide +kernel
theorem dX12_year_8 : decode cX12_year 8 = .ok (.ireturn, 1) := by decide +kernel
theorem dX12_year_9 : decode cX12_year 9 = .ok (.aload_n 0, 1) := by decide +kernel
theorem dX12_year_10 : decode cX12_year 10 = .ok (.invokevirtual 472, 3) := by decide +kernel
theorem dX12_year_13 : decode cX12_year 13 = .ok (.aload_n 0, 1) := by decide +kernel
theorem dX12_year_14 : decode cX12_year 14 = .ok (.getfield 110, 3) := by decide +kernel
theorem dX12_year_17 : decode cX12_year 17 = .ok (.iconst 0, 1) := by decide +kernel
theorem dX12_year_18 : decode cX12_year 18 = .ok (.sipush 137, 3) := by decide +kernel
theorem dX12_year_21 : decode cX12_year 21 = .ok (.aload_n 0, 1) := by decide +kernel
theorem dX12_year_22 : decode cX12_year 22 = .ok (.getfield 110, 3) := by decide +kernel
theorem dX12_year_25 : decode cX12_year 25 = .ok (.iconst 0, 1) := by decide +kernel
theorem dX12_year_26 : decode cX12_year 26 = .ok (.iaload, 1) := by decide +kernel
theorem dX12_year_27 : decode cX12_year 27 = .ok (.imul, 1) := by decide +kernel
theorem dX12_year_28 : decode cX12_year 28 = .ok (.bipush 71, 2) := by decide +kernel
theorem dX12_year_30 : decode cX12_year 30 = .ok (.iadd, 1) := by decide +kernel
theorem dX12_year_31 : decode cX12_year 31 = .ok (.sipush 1000, 3) := by decide +kernel
theorem dX12_year_34 : decode cX12_year 34 = .ok (.irem, 1) := by decide +kernel
theorem dX12_year_35 : decode cX12_year 35 = .ok (.iastore, 1) := by decide +kernel
theorem dX12_year_36 : decode cX12_year 36 = .ok (.aload_n 0, 1) := by decide +kernel
theorem dX12_year_37 : decode cX12_year 37 = .ok (.getfield 110, 3) := by decide +kernel
theorem dX12_year_40 : decode cX12_year 40 = .ok (.iconst 0, 1) := by decide +kernel
theorem dX12_year_41 : decode cX12_year 41 = .ok (.iaload, 1) := by decide +kernel
theorem dX12_year_42 : decode cX12_year 42 = .ok (.aload_n 0, 1) := by decide +kernel
theorem dX12_year_43 : decode cX12_year 43 = .ok (.invokevirtual 404, 3) := by decide +kernel
theorem dX12_year_46 : decode cX12_year 46 = .ok (.irem, 1) := by decide +kernel
theorem dX12_year_47 : decode cX12_year 47 = .ok (.istore_n 1, 1) := by decide +kernel
theorem dX12_year_48 : decode cX12_year 48 = .ok (.iconst 1, 1) := by decide +kernel
theorem dX12_year_49 : decode cX12_year 49 = .ok (.iconst 2, 1) := by decide +kernel
theorem dX12_year_50 : decode cX12_year 50 = .ok (.iload_n 1, 1) := by decide +kernel
theorem dX12_year_51 : decode cX12_year 51 = .ok (.imul, 1) := by decide +kernel
theorem dX12_year_52 : decode cX12_year 52 = .ok (.iadd, 1) := by decide +kernel
theorem dX12_year_53 : decode cX12_year 53 = .ok (.aload_n 0, 1) := by decide +kernel
theorem dX12_year_54 : decode cX12_year 54 = .ok (.getfield 110, 3) := by decide +kernel
theorem dX12_year_57 : decode cX12_year 57 = .ok (.iconst 0, 1) := by decide +kernel
theorem dX12_year_58 : decode cX12_year 58 = .ok (.iaload, 1) := by decide +kernel
theorem dX12_year_59 : decode cX12_year 59 = .ok (.bipush 10, 2) := by decide +kernel
theorem dX12_year_61 : decode cX12_year 61 = .ok (.idiv, 1) := by decide +kernel
theorem dX12_year_62 : decode cX12_year 62 = .ok (.iconst 2, 1) := by decide +kernel
theorem dX12_year_63 : decode cX12_year 63 = .ok (.irem, 1) := by decide +kernel
theorem dX12_year_64 : decode cX12_year 64 = .ok (.iadd, 1) := by decide +kernel
theorem dX12_year_65 : decode cX12_year 65 = .ok (.istore_n 2, 1) := by decide +kernel
theorem dX12_year_66 : decode cX12_year 66 = .ok (.aload_n 0, 1) := by decide +kernel
theorem dX12_year_67 : decode cX12_year 67 = .ok (.getfield 110, 3) := by decide +kernel
theorem dX12_year_70 : decode cX12_year 70 = .ok (.iload_n 2, 1) := by decide +kernel
theorem dX12_year_71 : decode cX12_year 71 = .ok (.iaload, 1) := by decide +kernel
theorem dX12_year_72 : decode cX12_year 72 = .ok (.bipush 9, 2) := by decide +kernel
theorem dX12_year_74 : decode cX12_year 74 = .ok (.if_icmp .ge 13, 3) := by decide +kernel
theorem dX12_year_77 : decode cX12_year 77 = .ok (.aload_n 0, 1) := by decide +kernel
theorem dX12_year_78 : decode cX12_year 78 = .ok (.getfield 110, 3) := by decide +kernel
theorem dX12_year_81 : decode cX12_year 81 = .ok (.iload_n 2, 1) := by decide +kernel
theorem dX12_year_82 : decode cX12_year 82 = .ok (.dup2, 1) := by decide +kernel
theorem dX12_year_83 : decode cX12_year 83 = .ok (.iaload, 1) := by decide +kernel
theorem dX12_year_84 : decode cX12_year 84 = .ok (.iconst 1, 1) := by decide +kernel
theorem dX12_year_85 : decode cX12_year 85 = .ok (.iadd, 1) := by decide +kernel
theorem dX12_year_86 : decode cX12_year 86 = .ok (.iastore, 1) := by decide +kernel
theorem dX12_year_87 : decode cX12_year 87 = .ok (.iload_n 1, 1) := by decide +kernel
theorem dX12_year_88 : decode cX12_year 88 = .ok (.ireturn, 1) := by decide +kernel
theorem dX12_walk_0 : decode cX12_walk 0 = .ok (.aload_n 0, 1) := by decide +kernel
theorem dX12_walk_1 : decode cX12_walk 1 = .ok (.invokevirtual 475, 3) := by decide +kernel
theorem dX12_walk_4 : decode cX12_walk 4 = .ok (.ifCond .ne 5, 3) := by decide +kernel
theorem dX12_walk_7 : decode cX12_walk 7 = .ok (.iconst (-1), 1) := by decide +kernel
theorem dX12_walk_8 : decode cX12_walk 8 = .ok (.ireturn, 1) := by decide +kernel
theorem dX12_walk_9 : decode cX12_walk 9 = .ok (.iload_n 1, 1) := by decide +kernel
theorem dX12_walk_10 : decode cX12_walk 10 = .ok (.tableswitch 106 0 6 #[42, 50, 58, 66, 74, 82, 90], 42) := by decide +kernel
theorem dX12_walk_52 : decode cX12_walk 52 = .ok (.aload_n 0, 1) := by decide +kernel
theorem dX12_walk_53 : decode cX12_walk 53 = .ok (.getfield 110, 3) := by decide +kernel
theorem dX12_walk_56 : decode cX12_walk 56 = .ok (.bipush 16, 2) := by decide +kernel
theorem dX12_walk_58 : decode cX12_walk 58 = .ok (.iaload, 1) := by decide +kernel
theorem dX12_walk_59 : decode cX12_walk 59 = .ok (.ireturn, 1) := by decide +kernel
theorem dX12_walk_60 : decode cX12_walk 60 = .ok (.aload_n 0, 1) := by decide +kernel
theorem dX12_walk_61 : decode cX12_walk 61 = .ok (.getfield 110, 3) := by decide +kernel
theorem dX12_walk_64 : decode cX12_walk 64 = .ok (.bipush 17, 2) := by decide +kernel
theorem dX12_walk_66 : decode cX12_walk 66 = .ok (.iaload, 1) := by decide +kernel
theorem dX12_walk_67 : decode cX12_walk 67 = .ok (.ireturn, 1) := by decide +kernel
theorem dX12_walk_68 : decode cX12_walk 68 = .ok (.aload_n 0, 1) := by decide +kernel
theorem dX12_walk_69 : decode cX12_walk 69 = .ok (.getfield 110, 3) := by decide +kernel
theorem dX12_walk_72 : decode cX12_walk 72 = .ok (.bipush 18, 2) := by decide +kernel
theorem dX12_walk_74 : decode cX12_walk 74 = .ok (.iaload, 1) := by decide +kernel
theorem dX12_walk_75 : decode cX12_walk 75 = .ok (.ireturn, 1) := by decide +kernel
theorem dX12_walk_76 : decode cX12_walk 76 = .ok (.aload_n 0, 1) := by decide +kernel
theorem dX12_walk_77 : decode cX12_walk 77 = .ok (.getfield 110, 3) := by decide +kernel
theorem dX12_walk_80 : decode cX12_walk 80 = .ok (.bipush 19, 2) := by decide +kernel
theorem dX12_walk_82 : decode cX12_walk 82 = .ok (.iaload, 1) := by decide +kernel
theorem dX12_walk_83 : decode cX12_walk 83 = .ok (.ireturn, 1) := by decide +kernel
theorem dX12_walk_84 : decode cX12_walk 84 = .ok (.aload_n 0, 1) := by decide +kernel
theorem dX12_walk_85 : decode cX12_walk 85 = .ok (.getfield 110, 3) := by decide +kernel
theorem dX12_walk_88 : decode cX12_walk 88 = .ok (.bipush 20, 2) := by decide +kernel
theorem dX12_walk_90 : decode cX12_walk 90 = .ok (.iaload, 1) := by decide +kernel
theorem dX12_walk_91 : decode cX12_walk 91 = .ok (.ireturn, 1) := by decide +kernel
theorem dX12_walk_92 : decode cX12_walk 92 = .ok (.aload_n 0, 1) := by decide +kernel
theorem dX12_walk_93 : decode cX12_walk 93 = .ok (.getfield 110, 3) := by decide +kernel
theorem dX12_walk_96 : decode cX12_walk 96 = .ok (.bipush 21, 2) := by decide +kernel
theorem dX12_walk_98 : decode cX12_walk 98 = .ok (.iaload, 1) := by decide +kernel
theorem dX12_walk_99 : decode cX12_walk 99 = .ok (.ireturn, 1) := by decide +kernel
theorem dX12_walk_100 : decode cX12_walk 100 = .ok (.aload_n 0, 1) := by decide +kernel
theorem dX12_walk_101 : decode cX12_walk 101 = .ok (.getfield 110, 3) := by decide +kernel
theorem dX12_walk_104 : decode cX12_walk 104 = .ok (.invokestatic 432, 3) := by decide +kernel
theorem dX12_walk_107 : decode cX12_walk 107 = .ok (.ifCond .eq 7, 3) := by decide +kernel
theorem dX12_walk_110 : decode cX12_walk 110 = .ok (.iconst 1, 1) := by decide +kernel
theorem dX12_walk_111 : decode cX12_walk 111 = .ok (.goto 4, 3) := by decide +kernel
theorem dX12_walk_114 : decode cX12_walk 114 = .ok (.iconst 0, 1) := by decide +kernel
theorem dX12_walk_115 : decode cX12_walk 115 = .ok (.ireturn, 1) := by decide +kernel
theorem dX12_walk_116 : decode cX12_walk 116 = .ok (.iconst (-1), 1) := by decide +kernel
theorem dX12_walk_117 : decode cX12_walk 117 = .ok (.ireturn, 1) := by decide +kernel
theorem dX12_undo_0 : decode cX12_undo 0 = .ok (.aload_n 0, 1) := by decide +kernel
theorem dX12_undo_1 : decode cX12_undo 1 = .ok (.getfield 454, 3) := by decide +kernel
theorem dX12_undo_4 : decode cX12_undo 4 = .ok (.ifCond .ne 5, 3) := by decide +kernel
theorem dX12_undo_7 : decode cX12_undo 7 = .ok (.iconst 0, 1) := by decide +kernel
theorem dX12_undo_8 : decode cX12_undo 8 = .ok (.ireturn, 1) := by decide +kernel
theorem dX12_undo_9 : decode cX12_undo 9 = .ok (.aload_n 0, 1) := by decide +kernel
theorem dX12_undo_10 : decode cX12_undo 10 = .ok (.dup, 1) := by decide +kernel
theorem dX12_undo_11 : decode cX12_undo 11 = .ok (.getfield 454, 3) := by decide +kernel
theorem dX12_undo_14 : decode cX12_undo 14 = .ok (.iconst 1, 1) := by decide +kernel
theorem dX12_undo_15 : decode cX12_undo 15 = .ok (.isub, 1) := by decide +kernel
theorem dX12_undo_16 : decode cX12_undo 16 = .ok (.putfield 454, 3) := by decide +kernel
theorem dX12_undo_19 : decode cX12_undo 19 = .ok (.aload_n 0, 1) := by decide +kernel
theorem dX12_undo_20 : decode cX12_undo 20 = .ok (.dup, 1) := by decide +kernel
theorem dX12_undo_21 : decode cX12_undo 21 = .ok (.getfield 457, 3) := by decide +kernel
theorem dX12_undo_24 : decode cX12_undo 24 = .ok (.iconst 1, 1) := by decide +kernel
theorem dX12_undo_25 : decode cX12_undo 25 = .ok (.iadd, 1) := by decide +kernel
theorem dX12_undo_26 : decode cX12_undo 26 = .ok (.putfield 457, 3) := by decide +kernel
theorem dX12_undo_29 : decode cX12_undo 29 = .ok (.aload_n 0, 1) := by decide +kernel
theorem dX12_undo_30 : decode cX12_undo 30 = .ok (.invokevirtual 481, 3) := by decide +kernel
theorem dX12_undo_33 : decode cX12_undo 33 = .ok (.iconst 1, 1) := by decide +kernel
theorem dX12_undo_34 : decode cX12_undo 34 = .ok (.ireturn, 1) := by decide +kernel
theorem dX12_redo_0 : decode cX12_redo 0 = .ok (.aload_n 0, 1) := by decide +kernel
theorem dX12_redo_1 : decode cX12_redo 1 = .ok (.getfield 457, 3) := by decide +kernel
theorem dX12_redo_4 : decode cX12_redo 4 = .ok (.ifCond .ne 5, 3) := by decide +kernel
theorem dX12_redo_7 : decode cX12_redo 7 = .ok (.iconst 0, 1) := by decide +kernel
theorem dX12_redo_8 : decode cX12_redo 8 = .ok (.ireturn, 1) := by decide +kernel
theorem dX12_redo_9 : decode cX12_redo 9 = .ok (.aload_n 0, 1) := by decide +kernel
theorem dX12_redo_10 : decode cX12_redo 10 = .ok (.invokevirtual 481, 3) := by decide +kernel
theorem dX12_redo_13 : decode cX12_redo 13 = .ok (.aload_n 0, 1) := by decide +kernel
theorem dX12_redo_14 : decode cX12_redo 14 = .ok (.dup, 1) := by decide +kernel
theorem dX12_redo_15 : decode cX12_redo 15 = .ok (.getfield 454, 3) := by decide +kernel
theorem dX12_redo_18 : decode cX12_redo 18 = .ok (.iconst 1, 1) := by decide +kernel
theorem dX12_redo_19 : decode cX12_redo 19 = .ok (.iadd, 1) := by decide +kernel
theorem dX12_redo_20 : decode cX12_redo 20 = .ok (.putfield 454, 3) := by decide +kernel
theorem dX12_redo_23 : decode cX12_redo 23 = .ok (.aload_n 0, 1) := by decide +kernel
theorem dX12_redo_24 : decode cX12_redo 24 = .ok (.dup, 1) := by decide +kernel
theorem dX12_redo_25 : decode cX12_redo 25 = .ok (.getfield 457, 3) := by decide +kernel
theorem dX12_redo_28 : decode cX12_redo 28 = .ok (.iconst 1, 1) := by decide +kernel
theorem dX12_redo_29 : decode cX12_redo 29 = .ok (.isub, 1) := by decide +kernel
theorem dX12_redo_30 : decode cX12_redo 30 = .ok (.putfield 457, 3) := by decide +kernel
theorem dX12_redo_33 : decode cX12_redo 33 = .ok (.iconst 1, 1) := by decide +kernel
theorem dX12_redo_34 : decode cX12_redo 34 = .ok (.ireturn, 1) := by decide +kernel
theorem dX12_lies_0 : decode cX12_lies 0 = .ok (.iload_n 1, 1) := by decide +kernel
theorem dX12_lies_1 : decode cX12_lies 1 = .ok (.iconst 0, 1) := by decide +kernel
theorem dX12_lies_2 : decode cX12_lies 2 = .ok (.aload_n 0, 1) := by decide +kernel
theorem dX12_lies_3 : decode cX12_lies 3 = .ok (.getfield 466, 3) := by decide +kernel
theorem dX12_lies_6 : decode cX12_lies 6 = .ok (.iconst 1, 1) := by decide +kernel
theorem dX12_lies_7 : decode cX12_lies 7 = .ok (.isub, 1) := by decide +kernel
theorem dX12_lies_8 : decode cX12_lies 8 = .ok (.invokestatic 400, 3) := by decide +kernel
theorem dX12_lies_11 : decode cX12_lies 11 = .ok (.ifCond .eq 12, 3) := by decide +kernel
theorem dX12_lies_14 : decode cX12_lies 14 = .ok (.aload_n 0, 1) := by decide +kernel
theorem dX12_lies_15 : decode cX12_lies 15 = .ok (.getfield 122, 3) := by decide +kernel
theorem dX12_lies_18 : decode cX12_lies 18 = .ok (.iload_n 1, 1) := by decide +kernel
theorem dX12_lies_19 : decode cX12_lies 19 = .ok (.iaload, 1) := by decide +kernel
theorem dX12_lies_20 : decode cX12_lies 20 = .ok (.goto 4, 3) := by decide +kernel
theorem dX12_lies_23 : decode cX12_lies 23 = .ok (.iconst (-1), 1) := by decide +kernel
theorem dX12_lies_24 : decode cX12_lies 24 = .ok (.ireturn, 1) := by decide +kernel
theorem dX12_start_0 : decode cX12_start 0 = .ok (.aload_n 0, 1) := by decide +kernel
theorem dX12_start_1 : decode cX12_start 1 = .ok (.iload_n 1, 1) := by decide +kernel
theorem dX12_start_2 : decode cX12_start 2 = .ok (.invokevirtual 469, 3) := by decide +kernel
theorem dX12_start_5 : decode cX12_start 5 = .ok (.ifCond .ne 5, 3) := by decide +kernel
theorem dX12_start_8 : decode cX12_start 8 = .ok (.iconst (-1), 1) := by decide +kernel
theorem dX12_start_9 : decode cX12_start 9 = .ok (.ireturn, 1) := by decide +kernel
theorem dX12_start_10 : decode cX12_start 10 = .ok (.aload_n 0, 1) := by decide +kernel
theorem dX12_start_11 : decode cX12_start 11 = .ok (.iload_n 1, 1) := by decide +kernel
theorem dX12_start_12 : decode cX12_start 12 = .ok (.putfield 125, 3) := by decide +kernel
theorem dX12_start_15 : decode cX12_start 15 = .ok (.aload_n 0, 1) := by decide +kernel
theorem dX12_start_16 : decode cX12_start 16 = .ok (.iconst 0, 1) := by decide +kernel
theorem dX12_start_17 : decode cX12_start 17 = .ok (.putfield 460, 3) := by decide +kernel
theorem dX12_start_20 : decode cX12_start 20 = .ok (.iconst 1, 1) := by decide +kernel
theorem dX12_start_21 : decode cX12_start 21 = .ok (.ireturn, 1) := by decide +kernel
theorem dX12_routeEnd_0 : decode cX12_routeEnd 0 = .ok (.aload_n 0, 1) := by decide +kernel
theorem dX12_routeEnd_1 : decode cX12_routeEnd 1 = .ok (.getfield 125, 3) := by decide +kernel
theorem dX12_routeEnd_4 : decode cX12_routeEnd 4 = .ok (.istore_n 1, 1) := by decide +kernel
theorem dX12_routeEnd_5 : decode cX12_routeEnd 5 = .ok (.iconst 0, 1) := by decide +kernel
theorem dX12_routeEnd_6 : decode cX12_routeEnd 6 = .ok (.istore_n 2, 1) := by decide +kernel
theorem dX12_routeEnd_7 : decode cX12_routeEnd 7 = .ok (.iload_n 2, 1) := by decide +kernel
theorem dX12_routeEnd_8 : decode cX12_routeEnd 8 = .ok (.aload_n 0, 1) := by decide +kernel
theorem dX12_routeEnd_9 : decode cX12_routeEnd 9 = .ok (.getfield 460, 3) := by decide +kernel
theorem dX12_routeEnd_12 : decode cX12_routeEnd 12 = .ok (.if_icmp .ge 21, 3) := by decide +kernel
theorem dX12_routeEnd_15 : decode cX12_routeEnd 15 = .ok (.aload_n 0, 1) := by decide +kernel
theorem dX12_routeEnd_16 : decode cX12_routeEnd 16 = .ok (.aload_n 0, 1) := by decide +kernel
theorem dX12_routeEnd_17 : decode cX12_routeEnd 17 = .ok (.getfield 119, 3) := by decide +kernel
theorem dX12_routeEnd_20 : decode cX12_routeEnd 20 = .ok (.iload_n 2, 1) := by decide +kernel
theorem dX12_routeEnd_21 : decode cX12_routeEnd 21 = .ok (.iaload, 1) := by decide +kernel
theorem dX12_routeEnd_22 : decode cX12_routeEnd 22 = .ok (.iload_n 1, 1) := by decide +kernel
theorem dX12_routeEnd_23 : decode cX12_routeEnd 23 = .ok (.invokevirtual 478, 3) := by decide +kernel
theorem dX12_routeEnd_26 : decode cX12_routeEnd 26 = .ok (.istore_n 1, 1) := by decide +kernel
theorem dX12_routeEnd_27 : decode cX12_routeEnd 27 = .ok (.iinc 2 1, 3) := by decide +kernel
theorem dX12_routeEnd_30 : decode cX12_routeEnd 30 = .ok (.goto (-23), 3) := by decide +kernel
theorem dX12_routeEnd_33 : decode cX12_routeEnd 33 = .ok (.iload_n 1, 1) := by decide +kernel
theorem dX12_routeEnd_34 : decode cX12_routeEnd 34 = .ok (.ireturn, 1) := by decide +kernel
theorem dX12_step_0 : decode cX12_step 0 = .ok (.aload_n 0, 1) := by decide +kernel
theorem dX12_step_1 : decode cX12_step 1 = .ok (.getfield 125, 3) := by decide +kernel
theorem dX12_step_4 : decode cX12_step 4 = .ok (.ifCond .lt 32, 3) := by decide +kernel
theorem dX12_step_7 : decode cX12_step 7 = .ok (.aload_n 0, 1) := by decide +kernel
theorem dX12_step_8 : decode cX12_step 8 = .ok (.iload_n 1, 1) := by decide +kernel
theorem dX12_step_9 : decode cX12_step 9 = .ok (.invokevirtual 442, 3) := by decide +kernel
theorem dX12_step_12 : decode cX12_step 12 = .ok (.ifCond .eq 24, 3) := by decide +kernel
theorem dX12_step_15 : decode cX12_step 15 = .ok (.aload_n 0, 1) := by decide +kernel
theorem dX12_step_16 : decode cX12_step 16 = .ok (.getfield 460, 3) := by decide +kernel
theorem dX12_step_19 : decode cX12_step 19 = .ok (.bipush 12, 2) := by decide +kernel
theorem dX12_step_21 : decode cX12_step 21 = .ok (.if_icmp .eq 15, 3) := by decide +kernel
theorem dX12_step_24 : decode cX12_step 24 = .ok (.aload_n 0, 1) := by decide +kernel
theorem dX12_step_25 : decode cX12_step 25 = .ok (.iload_n 1, 1) := by decide +kernel
theorem dX12_step_26 : decode cX12_step 26 = .ok (.aload_n 0, 1) := by decide +kernel
theorem dX12_step_27 : decode cX12_step 27 = .ok (.invokevirtual 484, 3) := by decide +kernel
theorem dX12_step_30 : decode cX12_step 30 = .ok (.invokevirtual 478, 3) := by decide +kernel
theorem dX12_step_33 : decode cX12_step 33 = .ok (.ifCond .ge 5, 3) := by decide +kernel
theorem dX12_step_36 : decode cX12_step 36 = .ok (.iconst (-1), 1) := by decide +kernel
theorem dX12_step_37 : decode cX12_step 37 = .ok (.ireturn, 1) := by decide +kernel
theorem dX12_step_38 : decode cX12_step 38 = .ok (.aload_n 0, 1) := by decide +kernel
theorem dX12_step_39 : decode cX12_step 39 = .ok (.getfield 119, 3) := by decide +kernel
theorem dX12_step_42 : decode cX12_step 42 = .ok (.aload_n 0, 1) := by decide +kernel
theorem dX12_step_43 : decode cX12_step 43 = .ok (.getfield 460, 3) := by decide +kernel
theorem dX12_step_46 : decode cX12_step 46 = .ok (.iload_n 1, 1) := by decide +kernel
theorem dX12_step_47 : decode cX12_step 47 = .ok (.iastore, 1) := by decide +kernel
theorem dX12_step_48 : decode cX12_step 48 = .ok (.aload_n 0, 1) := by decide +kernel
theorem dX12_step_49 : decode cX12_step 49 = .ok (.dup, 1) := by decide +kernel
theorem dX12_step_50 : decode cX12_step 50 = .ok (.getfield 460, 3) := by decide +kernel
theorem dX12_step_53 : decode cX12_step 53 = .ok (.iconst 1, 1) := by decide +kernel
theorem dX12_step_54 : decode cX12_step 54 = .ok (.iadd, 1) := by decide +kernel
theorem dX12_step_55 : decode cX12_step 55 = .ok (.putfield 460, 3) := by decide +kernel
theorem dX12_step_58 : decode cX12_step 58 = .ok (.aload_n 0, 1) := by decide +kernel
theorem dX12_step_59 : decode cX12_step 59 = .ok (.getfield 460, 3) := by decide +kernel
theorem dX12_step_62 : decode cX12_step 62 = .ok (.ireturn, 1) := by decide +kernel
theorem dX12_along_0 : decode cX12_along 0 = .ok (.aload_n 0, 1) := by decide +kernel
theorem dX12_along_1 : decode cX12_along 1 = .ok (.iconst (-1), 1) := by decide +kernel
theorem dX12_along_2 : decode cX12_along 2 = .ok (.putfield 487, 3) := by decide +kernel
theorem dX12_along_5 : decode cX12_along 5 = .ok (.aload_n 0, 1) := by decide +kernel
theorem dX12_along_6 : decode cX12_along 6 = .ok (.iconst (-1), 1) := by decide +kernel
theorem dX12_along_7 : decode cX12_along 7 = .ok (.putfield 490, 3) := by decide +kernel
theorem dX12_along_10 : decode cX12_along 10 = .ok (.iload_n 3, 1) := by decide +kernel
theorem dX12_along_11 : decode cX12_along 11 = .ok (.istore 4, 2) := by decide +kernel
theorem dX12_along_13 : decode cX12_along 13 = .ok (.iconst 0, 1) := by decide +kernel
theorem dX12_along_14 : decode cX12_along 14 = .ok (.istore 5, 2) := by decide +kernel
theorem dX12_along_16 : decode cX12_along 16 = .ok (.iload 5, 2) := by decide +kernel
theorem dX12_along_18 : decode cX12_along 18 = .ok (.iload_n 2, 1) := by decide +kernel
theorem dX12_along_19 : decode cX12_along 19 = .ok (.if_icmp .ge 104, 3) := by decide +kernel
theorem dX12_along_22 : decode cX12_along 22 = .ok (.aload_n 0, 1) := by decide +kernel
theorem dX12_along_23 : decode cX12_along 23 = .ok (.aload_n 1, 1) := by decide +kernel
theorem dX12_along_24 : decode cX12_along 24 = .ok (.iload 5, 2) := by decide +kernel
theorem dX12_along_26 : decode cX12_along 26 = .ok (.iaload, 1) := by decide +kernel
theorem dX12_along_27 : decode cX12_along 27 = .ok (.iload 4, 2) := by decide +kernel
theorem dX12_along_29 : decode cX12_along 29 = .ok (.invokevirtual 478, 3) := by decide +kernel
theorem dX12_along_32 : decode cX12_along 32 = .ok (.istore 6, 2) := by decide +kernel
theorem dX12_along_34 : decode cX12_along 34 = .ok (.iconst 1, 1) := by decide +kernel
theorem dX12_along_35 : decode cX12_along 35 = .ok (.istore 7, 2) := by decide +kernel
theorem dX12_along_37 : decode cX12_along 37 = .ok (.iload 7, 2) := by decide +kernel
theorem dX12_along_39 : decode cX12_along 39 = .ok (.aload_n 0, 1) := by decide +kernel
theorem dX12_along_40 : decode cX12_along 40 = .ok (.aload_n 1, 1) := by decide +kernel
theorem dX12_along_41 : decode cX12_along 41 = .ok (.iload 5, 2) := by decide +kernel
theorem dX12_along_43 : decode cX12_along 43 = .ok (.iaload, 1) := by decide +kernel
theorem dX12_along_44 : decode cX12_along 44 = .ok (.invokevirtual 451, 3) := by decide +kernel
theorem dX12_along_47 : decode cX12_along 47 = .ok (.if_icmp .gt 66, 3) := by decide +kernel
theorem dX12_along_50 : decode cX12_along 50 = .ok (.aload_n 0, 1) := by decide +kernel
theorem dX12_along_51 : decode cX12_along 51 = .ok (.aload_n 0, 1) := by decide +kernel
theorem dX12_along_52 : decode cX12_along 52 = .ok (.getfield 113, 3) := by decide +kernel
theorem dX12_along_55 : decode cX12_along 55 = .ok (.aload_n 1, 1) := by decide +kernel
theorem dX12_along_56 : decode cX12_along 56 = .ok (.iload 5, 2) := by decide +kernel
theorem dX12_along_58 : decode cX12_along 58 = .ok (.iaload, 1) := by decide +kernel
theorem dX12_along_59 : decode cX12_along 59 = .ok (.iload 7, 2) := by decide +kernel
theorem dX12_along_61 : decode cX12_along 61 = .ok (.aload_n 0, 1) := by decide +kernel
theorem dX12_along_62 : decode cX12_along 62 = .ok (.aload_n 1, 1) := by decide +kernel
theorem dX12_along_63 : decode cX12_along 63 = .ok (.iload 5, 2) := by decide +kernel
theorem dX12_along_65 : decode cX12_along 65 = .ok (.iaload, 1) := by decide +kernel
theorem dX12_along_66 : decode cX12_along 66 = .ok (.invokevirtual 451, 3) := by decide +kernel
theorem dX12_along_69 : decode cX12_along 69 = .ok (.if_icmp .ne 8, 3) := by decide +kernel
theorem dX12_along_72 : decode cX12_along 72 = .ok (.iload 6, 2) := by decide +kernel
theorem dX12_along_74 : decode cX12_along 74 = .ok (.goto 4, 3) := by decide +kernel
theorem dX12_along_77 : decode cX12_along 77 = .ok (.iconst (-1), 1) := by decide +kernel
theorem dX12_along_78 : decode cX12_along 78 = .ok (.invokevirtual 428, 3) := by decide +kernel
theorem dX12_along_81 : decode cX12_along 81 = .ok (.aload_n 0, 1) := by decide +kernel
theorem dX12_along_82 : decode cX12_along 82 = .ok (.getfield 113, 3) := by decide +kernel
theorem dX12_along_85 : decode cX12_along 85 = .ok (.invokestatic 432, 3) := by decide +kernel
theorem dX12_along_88 : decode cX12_along 88 = .ok (.ifCond .ne 6, 3) := by decide +kernel
theorem dX12_along_91 : decode cX12_along 91 = .ok (.goto 16, 3) := by decide +kernel
theorem dX12_along_94 : decode cX12_along 94 = .ok (.aload_n 0, 1) := by decide +kernel
theorem dX12_along_95 : decode cX12_along 95 = .ok (.iload 5, 2) := by decide +kernel
theorem dX12_along_97 : decode cX12_along 97 = .ok (.putfield 487, 3) := by decide +kernel
theorem dX12_along_100 : decode cX12_along 100 = .ok (.aload_n 0, 1) := by decide +kernel
theorem dX12_along_101 : decode cX12_along 101 = .ok (.iload 7, 2) := by decide +kernel
theorem dX12_along_103 : decode cX12_along 103 = .ok (.putfield 490, 3) := by decide +kernel
theorem dX12_along_106 : decode cX12_along 106 = .ok (.return_, 1) := by decide +kernel
theorem dX12_along_107 : decode cX12_along 107 = .ok (.iinc 7 1, 3) := by decide +kernel
theorem dX12_along_110 : decode cX12_along 110 = .ok (.goto (-73), 3) := by decide +kernel
theorem dX12_along_113 : decode cX12_along 113 = .ok (.iload 6, 2) := by decide +kernel
theorem dX12_along_115 : decode cX12_along 115 = .ok (.istore 4, 2) := by decide +kernel
theorem dX12_along_117 : decode cX12_along 117 = .ok (.iinc 5 1, 3) := by decide +kernel
theorem dX12_along_120 : decode cX12_along 120 = .ok (.goto (-104), 3) := by decide +kernel
theorem dX12_along_123 : decode cX12_along 123 = .ok (.return_, 1) := by decide +kernel
theorem dX12_walked_0 : decode cX12_walked 0 = .ok (.aload_n 0, 1) := by decide +kernel
theorem dX12_walked_1 : decode cX12_walked 1 = .ok (.iload_n 1, 1) := by decide +kernel
theorem dX12_walked_2 : decode cX12_walked 2 = .ok (.iload_n 2, 1) := by decide +kernel
theorem dX12_walked_3 : decode cX12_walked 3 = .ok (.iload_n 3, 1) := by decide +kernel
theorem dX12_walked_4 : decode cX12_walked 4 = .ok (.invokevirtual 436, 3) := by decide +kernel
theorem dX12_walked_7 : decode cX12_walked 7 = .ok (.ifCond .eq 20, 3) := by decide +kernel
theorem dX12_walked_10 : decode cX12_walked 10 = .ok (.iload 4, 2) := by decide +kernel
theorem dX12_walked_12 : decode cX12_walked 12 = .ok (.iconst 0, 1) := by decide +kernel
theorem dX12_walked_13 : decode cX12_walked 13 = .ok (.iconst 3, 1) := by decide +kernel
theorem dX12_walked_14 : decode cX12_walked 14 = .ok (.invokestatic 400, 3) := by decide +kernel
theorem dX12_walked_17 : decode cX12_walked 17 = .ok (.ifCond .eq 10, 3) := by decide +kernel
theorem dX12_walked_20 : decode cX12_walked 20 = .ok (.aload_n 0, 1) := by decide +kernel
theorem dX12_walked_21 : decode cX12_walked 21 = .ok (.getfield 125, 3) := by decide +kernel
theorem dX12_walked_24 : decode cX12_walked 24 = .ok (.ifCond .ge 6, 3) := by decide +kernel
theorem dX12_walked_27 : decode cX12_walked 27 = .ok (.bipush (-2), 2) := by decide +kernel
theorem dX12_walked_29 : decode cX12_walked 29 = .ok (.ireturn, 1) := by decide +kernel
theorem dX12_walked_30 : decode cX12_walked 30 = .ok (.aload_n 0, 1) := by decide +kernel
theorem dX12_walked_31 : decode cX12_walked 31 = .ok (.aload_n 0, 1) := by decide +kernel
theorem dX12_walked_32 : decode cX12_walked 32 = .ok (.getfield 113, 3) := by decide +kernel
theorem dX12_walked_35 : decode cX12_walked 35 = .ok (.iload_n 1, 1) := by decide +kernel
theorem dX12_walked_36 : decode cX12_walked 36 = .ok (.iload_n 2, 1) := by decide +kernel
theorem dX12_walked_37 : decode cX12_walked 37 = .ok (.iload_n 3, 1) := by decide +kernel
theorem dX12_walked_38 : decode cX12_walked 38 = .ok (.invokevirtual 424, 3) := by decide +kernel
theorem dX12_walked_41 : decode cX12_walked 41 = .ok (.aload_n 0, 1) := by decide +kernel
theorem dX12_walked_42 : decode cX12_walked 42 = .ok (.aload_n 0, 1) := by decide +kernel
theorem dX12_walked_43 : decode cX12_walked 43 = .ok (.getfield 119, 3) := by decide +kernel
theorem dX12_walked_46 : decode cX12_walked 46 = .ok (.aload_n 0, 1) := by decide +kernel
theorem dX12_walked_47 : decode cX12_walked 47 = .ok (.getfield 460, 3) := by decide +kernel
theorem dX12_walked_50 : decode cX12_walked 50 = .ok (.aload_n 0, 1) := by decide +kernel
theorem dX12_walked_51 : decode cX12_walked 51 = .ok (.getfield 125, 3) := by decide +kernel
theorem dX12_walked_54 : decode cX12_walked 54 = .ok (.invokevirtual 493, 3) := by decide +kernel
theorem dX12_walked_57 : decode cX12_walked 57 = .ok (.iload 4, 2) := by decide +kernel
theorem dX12_walked_59 : decode cX12_walked 59 = .ok (.iconst 3, 1) := by decide +kernel
theorem dX12_walked_60 : decode cX12_walked 60 = .ok (.if_icmp .ne 11, 3) := by decide +kernel
theorem dX12_walked_63 : decode cX12_walked 63 = .ok (.aload_n 0, 1) := by decide +kernel
theorem dX12_walked_64 : decode cX12_walked 64 = .ok (.getfield 113, 3) := by decide +kernel
theorem dX12_walked_67 : decode cX12_walked 67 = .ok (.bipush 20, 2) := by decide +kernel
theorem dX12_walked_69 : decode cX12_walked 69 = .ok (.iaload, 1) := by decide +kernel
theorem dX12_walked_70 : decode cX12_walked 70 = .ok (.ireturn, 1) := by decide +kernel
theorem dX12_walked_71 : decode cX12_walked 71 = .ok (.aload_n 0, 1) := by decide +kernel
theorem dX12_walked_72 : decode cX12_walked 72 = .ok (.getfield 487, 3) := by decide +kernel
theorem dX12_walked_75 : decode cX12_walked 75 = .ok (.ifCond .ge 7, 3) := by decide +kernel
theorem dX12_walked_78 : decode cX12_walked 78 = .ok (.iconst (-1), 1) := by decide +kernel
theorem dX12_walked_79 : decode cX12_walked 79 = .ok (.goto 35, 3) := by decide +kernel
theorem dX12_walked_82 : decode cX12_walked 82 = .ok (.iload 4, 2) := by decide +kernel
theorem dX12_walked_84 : decode cX12_walked 84 = .ok (.ifCond .ne 13, 3) := by decide +kernel
theorem dX12_walked_87 : decode cX12_walked 87 = .ok (.aload_n 0, 1) := by decide +kernel
theorem dX12_walked_88 : decode cX12_walked 88 = .ok (.getfield 113, 3) := by decide +kernel
theorem dX12_walked_91 : decode cX12_walked 91 = .ok (.bipush 19, 2) := by decide +kernel
theorem dX12_walked_93 : decode cX12_walked 93 = .ok (.iaload, 1) := by decide +kernel
theorem dX12_walked_94 : decode cX12_walked 94 = .ok (.goto 20, 3) := by decide +kernel
theorem dX12_walked_97 : decode cX12_walked 97 = .ok (.iload 4, 2) := by decide +kernel
theorem dX12_walked_99 : decode cX12_walked 99 = .ok (.iconst 1, 1) := by decide +kernel
theorem dX12_walked_100 : decode cX12_walked 100 = .ok (.if_icmp .ne 10, 3) := by decide +kernel
theorem dX12_walked_103 : decode cX12_walked 103 = .ok (.aload_n 0, 1) := by decide +kernel
theorem dX12_walked_104 : decode cX12_walked 104 = .ok (.getfield 487, 3) := by decide +kernel
theorem dX12_walked_107 : decode cX12_walked 107 = .ok (.goto 7, 3) := by decide +kernel
theorem dX12_walked_110 : decode cX12_walked 110 = .ok (.aload_n 0, 1) := by decide +kernel
theorem dX12_walked_111 : decode cX12_walked 111 = .ok (.getfield 490, 3) := by decide +kernel
theorem dX12_walked_114 : decode cX12_walked 114 = .ok (.ireturn, 1) := by decide +kernel
theorem dX12_layFar_0 : decode cX12_layFar 0 = .ok (.iconst 0, 1) := by decide +kernel
theorem dX12_layFar_1 : decode cX12_layFar 1 = .ok (.istore_n 2, 1) := by decide +kernel
theorem dX12_layFar_2 : decode cX12_layFar 2 = .ok (.iload_n 2, 1) := by decide +kernel
theorem dX12_layFar_3 : decode cX12_layFar 3 = .ok (.bipush 8, 2) := by decide +kernel
theorem dX12_layFar_5 : decode cX12_layFar 5 = .ok (.if_icmp .ge 27, 3) := by decide +kernel
theorem dX12_layFar_8 : decode cX12_layFar 8 = .ok (.aload_n 0, 1) := by decide +kernel
theorem dX12_layFar_9 : decode cX12_layFar 9 = .ok (.getfield 128, 3) := by decide +kernel
theorem dX12_layFar_12 : decode cX12_layFar 12 = .ok (.iload_n 2, 1) := by decide +kernel
theorem dX12_layFar_13 : decode cX12_layFar 13 = .ok (.iload_n 2, 1) := by decide +kernel
theorem dX12_layFar_14 : decode cX12_layFar 14 = .ok (.iload_n 1, 1) := by decide +kernel
theorem dX12_layFar_15 : decode cX12_layFar 15 = .ok (.if_icmp .ne 7, 3) := by decide +kernel
theorem dX12_layFar_18 : decode cX12_layFar 18 = .ok (.iconst 0, 1) := by decide +kernel
theorem dX12_layFar_19 : decode cX12_layFar 19 = .ok (.goto 6, 3) := by decide +kernel
theorem dX12_layFar_22 : decode cX12_layFar 22 = .ok (.ldc_w 496, 3) := by decide +kernel
theorem dX12_layFar_25 : decode cX12_layFar 25 = .ok (.iastore, 1) := by decide +kernel
theorem dX12_layFar_26 : decode cX12_layFar 26 = .ok (.iinc 2 1, 3) := by decide +kernel
theorem dX12_layFar_29 : decode cX12_layFar 29 = .ok (.goto (-27), 3) := by decide +kernel
theorem dX12_layFar_32 : decode cX12_layFar 32 = .ok (.iconst 0, 1) := by decide +kernel
theorem dX12_layFar_33 : decode cX12_layFar 33 = .ok (.istore_n 2, 1) := by decide +kernel
theorem dX12_layFar_34 : decode cX12_layFar 34 = .ok (.iload_n 2, 1) := by decide +kernel
theorem dX12_layFar_35 : decode cX12_layFar 35 = .ok (.bipush 8, 2) := by decide +kernel
theorem dX12_layFar_37 : decode cX12_layFar 37 = .ok (.if_icmp .ge 140, 3) := by decide +kernel
theorem dX12_layFar_40 : decode cX12_layFar 40 = .ok (.iconst 0, 1) := by decide +kernel
theorem dX12_layFar_41 : decode cX12_layFar 41 = .ok (.istore_n 3, 1) := by decide +kernel
theorem dX12_layFar_42 : decode cX12_layFar 42 = .ok (.iload_n 3, 1) := by decide +kernel
theorem dX12_layFar_43 : decode cX12_layFar 43 = .ok (.aload_n 0, 1) := by decide +kernel
theorem dX12_layFar_44 : decode cX12_layFar 44 = .ok (.getfield 24, 3) := by decide +kernel
theorem dX12_layFar_47 : decode cX12_layFar 47 = .ok (.aload_n 0, 1) := by decide +kernel
theorem dX12_layFar_48 : decode cX12_layFar 48 = .ok (.getfield 295, 3) := by decide +kernel
theorem dX12_layFar_51 : decode cX12_layFar 51 = .ok (.iaload, 1) := by decide +kernel
theorem dX12_layFar_52 : decode cX12_layFar 52 = .ok (.if_icmp .ge 119, 3) := by decide +kernel
theorem dX12_layFar_55 : decode cX12_layFar 55 = .ok (.aload_n 0, 1) := by decide +kernel
theorem dX12_layFar_56 : decode cX12_layFar 56 = .ok (.getfield 128, 3) := by decide +kernel
theorem dX12_layFar_59 : decode cX12_layFar 59 = .ok (.aload_n 0, 1) := by decide +kernel
theorem dX12_layFar_60 : decode cX12_layFar 60 = .ok (.iload_n 3, 1) := by decide +kernel
theorem dX12_layFar_61 : decode cX12_layFar 61 = .ok (.invokevirtual 448, 3) := by decide +kernel
theorem dX12_layFar_64 : decode cX12_layFar 64 = .ok (.iaload, 1) := by decide +kernel
theorem dX12_layFar_65 : decode cX12_layFar 65 = .ok (.aload_n 0, 1) := by decide +kernel
theorem dX12_layFar_66 : decode cX12_layFar 66 = .ok (.iload_n 3, 1) := by decide +kernel
theorem dX12_layFar_67 : decode cX12_layFar 67 = .ok (.invokevirtual 451, 3) := by decide +kernel
theorem dX12_layFar_70 : decode cX12_layFar 70 = .ok (.iadd, 1) := by decide +kernel
theorem dX12_layFar_71 : decode cX12_layFar 71 = .ok (.aload_n 0, 1) := by decide +kernel
theorem dX12_layFar_72 : decode cX12_layFar 72 = .ok (.getfield 128, 3) := by decide +kernel
theorem dX12_layFar_75 : decode cX12_layFar 75 = .ok (.aload_n 0, 1) := by decide +kernel
theorem dX12_layFar_76 : decode cX12_layFar 76 = .ok (.iload_n 3, 1) := by decide +kernel
theorem dX12_layFar_77 : decode cX12_layFar 77 = .ok (.invokevirtual 445, 3) := by decide +kernel
theorem dX12_layFar_80 : decode cX12_layFar 80 = .ok (.iaload, 1) := by decide +kernel
theorem dX12_layFar_81 : decode cX12_layFar 81 = .ok (.if_icmp .ge 29, 3) := by decide +kernel
theorem dX12_layFar_84 : decode cX12_layFar 84 = .ok (.aload_n 0, 1) := by decide +kernel
theorem dX12_layFar_85 : decode cX12_layFar 85 = .ok (.getfield 128, 3) := by decide +kernel
theorem dX12_layFar_88 : decode cX12_layFar 88 = .ok (.aload_n 0, 1) := by decide +kernel
theorem dX12_layFar_89 : decode cX12_layFar 89 = .ok (.iload_n 3, 1) := by decide +kernel
theorem dX12_layFar_90 : decode cX12_layFar 90 = .ok (.invokevirtual 445, 3) := by decide +kernel
theorem dX12_layFar_93 : decode cX12_layFar 93 = .ok (.aload_n 0, 1) := by decide +kernel
theorem dX12_layFar_94 : decode cX12_layFar 94 = .ok (.getfield 128, 3) := by decide +kernel
theorem dX12_layFar_97 : decode cX12_layFar 97 = .ok (.aload_n 0, 1) := by decide +kernel
theorem dX12_layFar_98 : decode cX12_layFar 98 = .ok (.iload_n 3, 1) := by decide +kernel
theorem dX12_layFar_99 : decode cX12_layFar 99 = .ok (.invokevirtual 448, 3) := by decide +kernel
theorem dX12_layFar_102 : decode cX12_layFar 102 = .ok (.iaload, 1) := by decide +kernel
theorem dX12_layFar_103 : decode cX12_layFar 103 = .ok (.aload_n 0, 1) := by decide +kernel
theorem dX12_layFar_104 : decode cX12_layFar 104 = .ok (.iload_n 3, 1) := by decide +kernel
theorem dX12_layFar_105 : decode cX12_layFar 105 = .ok (.invokevirtual 451, 3) := by decide +kernel
theorem dX12_layFar_108 : decode cX12_layFar 108 = .ok (.iadd, 1) := by decide +kernel
theorem dX12_layFar_109 : decode cX12_layFar 109 = .ok (.iastore, 1) := by decide +kernel
theorem dX12_layFar_110 : decode cX12_layFar 110 = .ok (.aload_n 0, 1) := by decide +kernel
theorem dX12_layFar_111 : decode cX12_layFar 111 = .ok (.getfield 128, 3) := by decide +kernel
theorem dX12_layFar_114 : decode cX12_layFar 114 = .ok (.aload_n 0, 1) := by decide +kernel
theorem dX12_layFar_115 : decode cX12_layFar 115 = .ok (.iload_n 3, 1) := by decide +kernel
theorem dX12_layFar_116 : decode cX12_layFar 116 = .ok (.invokevirtual 445, 3) := by decide +kernel
theorem dX12_layFar_119 : decode cX12_layFar 119 = .ok (.iaload, 1) := by decide +kernel
theorem dX12_layFar_120 : decode cX12_layFar 120 = .ok (.aload_n 0, 1) := by decide +kernel
theorem dX12_layFar_121 : decode cX12_layFar 121 = .ok (.iload_n 3, 1) := by decide +kernel
theorem dX12_layFar_122 : decode cX12_layFar 122 = .ok (.invokevirtual 451, 3) := by decide +kernel
theorem dX12_layFar_125 : decode cX12_layFar 125 = .ok (.iadd, 1) := by decide +kernel
theorem dX12_layFar_126 : decode cX12_layFar 126 = .ok (.aload_n 0, 1) := by decide +kernel
theorem dX12_layFar_127 : decode cX12_layFar 127 = .ok (.getfield 128, 3) := by decide +kernel
theorem dX12_layFar_130 : decode cX12_layFar 130 = .ok (.aload_n 0, 1) := by decide +kernel
theorem dX12_layFar_131 : decode cX12_layFar 131 = .ok (.iload_n 3, 1) := by decide +kernel
theorem dX12_layFar_132 : decode cX12_layFar 132 = .ok (.invokevirtual 448, 3) := by decide +kernel
theorem dX12_layFar_135 : decode cX12_layFar 135 = .ok (.iaload, 1) := by decide +kernel
theorem dX12_layFar_136 : decode cX12_layFar 136 = .ok (.if_icmp .ge 29, 3) := by decide +kernel
theorem dX12_layFar_139 : decode cX12_layFar 139 = .ok (.aload_n 0, 1) := by decide +kernel
theorem dX12_layFar_140 : decode cX12_layFar 140 = .ok (.getfield 128, 3) := by decide +kernel
theorem dX12_layFar_143 : decode cX12_layFar 143 = .ok (.aload_n 0, 1) := by decide +kernel
theorem dX12_layFar_144 : decode cX12_layFar 144 = .ok (.iload_n 3, 1) := by decide +kernel
theorem dX12_layFar_145 : decode cX12_layFar 145 = .ok (.invokevirtual 448, 3) := by decide +kernel
theorem dX12_layFar_148 : decode cX12_layFar 148 = .ok (.aload_n 0, 1) := by decide +kernel
theorem dX12_layFar_149 : decode cX12_layFar 149 = .ok (.getfield 128, 3) := by decide +kernel
theorem dX12_layFar_152 : decode cX12_layFar 152 = .ok (.aload_n 0, 1) := by decide +kernel
theorem dX12_layFar_153 : decode cX12_layFar 153 = .ok (.iload_n 3, 1) := by decide +kernel
theorem dX12_layFar_154 : decode cX12_layFar 154 = .ok (.invokevirtual 445, 3) := by decide +kernel
theorem dX12_layFar_157 : decode cX12_layFar 157 = .ok (.iaload, 1) := by decide +kernel
theorem dX12_layFar_158 : decode cX12_layFar 158 = .ok (.aload_n 0, 1) := by decide +kernel
theorem dX12_layFar_159 : decode cX12_layFar 159 = .ok (.iload_n 3, 1) := by decide +kernel
theorem dX12_layFar_160 : decode cX12_layFar 160 = .ok (.invokevirtual 451, 3) := by decide +kernel
theorem dX12_layFar_163 : decode cX12_layFar 163 = .ok (.iadd, 1) := by decide +kernel
theorem dX12_layFar_164 : decode cX12_layFar 164 = .ok (.iastore, 1) := by decide +kernel
theorem dX12_layFar_165 : decode cX12_layFar 165 = .ok (.iinc 3 1, 3) := by decide +kernel
theorem dX12_layFar_168 : decode cX12_layFar 168 = .ok (.goto (-126), 3) := by decide +kernel
theorem dX12_layFar_171 : decode cX12_layFar 171 = .ok (.iinc 2 1, 3) := by decide +kernel
theorem dX12_layFar_174 : decode cX12_layFar 174 = .ok (.goto (-140), 3) := by decide +kernel
theorem dX12_layFar_177 : decode cX12_layFar 177 = .ok (.return_, 1) := by decide +kernel
theorem dX12_layShortest_0 : decode cX12_layShortest 0 = .ok (.aload_n 0, 1) := by decide +kernel
theorem dX12_layShortest_1 : decode cX12_layShortest 1 = .ok (.iload_n 2, 1) := by decide +kernel
theorem dX12_layShortest_2 : decode cX12_layShortest 2 = .ok (.invokevirtual 497, 3) := by decide +kernel
theorem dX12_layShortest_5 : decode cX12_layShortest 5 = .ok (.aload_n 0, 1) := by decide +kernel
theorem dX12_layShortest_6 : decode cX12_layShortest 6 = .ok (.iconst 0, 1) := by decide +kernel
theorem dX12_layShortest_7 : decode cX12_layShortest 7 = .ok (.putfield 500, 3) := by decide +kernel
theorem dX12_layShortest_10 : decode cX12_layShortest 10 = .ok (.aload_n 0, 1) := by decide +kernel
theorem dX12_layShortest_11 : decode cX12_layShortest 11 = .ok (.getfield 128, 3) := by decide +kernel
theorem dX12_layShortest_14 : decode cX12_layShortest 14 = .ok (.iload_n 1, 1) := by decide +kernel
theorem dX12_layShortest_15 : decode cX12_layShortest 15 = .ok (.iaload, 1) := by decide +kernel
theorem dX12_layShortest_16 : decode cX12_layShortest 16 = .ok (.ldc_w 496, 3) := by decide +kernel
theorem dX12_layShortest_19 : decode cX12_layShortest 19 = .ok (.if_icmp .lt 5, 3) := by decide +kernel
theorem dX12_layShortest_22 : decode cX12_layShortest 22 = .ok (.iconst (-1), 1) := by decide +kernel
theorem dX12_layShortest_23 : decode cX12_layShortest 23 = .ok (.ireturn, 1) := by decide +kernel
theorem dX12_layShortest_24 : decode cX12_layShortest 24 = .ok (.iload_n 1, 1) := by decide +kernel
theorem dX12_layShortest_25 : decode cX12_layShortest 25 = .ok (.istore_n 3, 1) := by decide +kernel
theorem dX12_layShortest_26 : decode cX12_layShortest 26 = .ok (.iload_n 3, 1) := by decide +kernel
theorem dX12_layShortest_27 : decode cX12_layShortest 27 = .ok (.iload_n 2, 1) := by decide +kernel
theorem dX12_layShortest_28 : decode cX12_layShortest 28 = .ok (.if_icmp .eq 82, 3) := by decide +kernel
theorem dX12_layShortest_31 : decode cX12_layShortest 31 = .ok (.iconst 0, 1) := by decide +kernel
theorem dX12_layShortest_32 : decode cX12_layShortest 32 = .ok (.istore 4, 2) := by decide +kernel
theorem dX12_layShortest_34 : decode cX12_layShortest 34 = .ok (.aload_n 0, 1) := by decide +kernel
theorem dX12_layShortest_35 : decode cX12_layShortest 35 = .ok (.iload 4, 2) := by decide +kernel
theorem dX12_layShortest_37 : decode cX12_layShortest 37 = .ok (.iload_n 3, 1) := by decide +kernel
theorem dX12_layShortest_38 : decode cX12_layShortest 38 = .ok (.invokevirtual 478, 3) := by decide +kernel
theorem dX12_layShortest_41 : decode cX12_layShortest 41 = .ok (.ifCond .lt 31, 3) := by decide +kernel
theorem dX12_layShortest_44 : decode cX12_layShortest 44 = .ok (.aload_n 0, 1) := by decide +kernel
theorem dX12_layShortest_45 : decode cX12_layShortest 45 = .ok (.getfield 128, 3) := by decide +kernel
theorem dX12_layShortest_48 : decode cX12_layShortest 48 = .ok (.aload_n 0, 1) := by decide +kernel
theorem dX12_layShortest_49 : decode cX12_layShortest 49 = .ok (.iload 4, 2) := by decide +kernel
theorem dX12_layShortest_51 : decode cX12_layShortest 51 = .ok (.iload_n 3, 1) := by decide +kernel
theorem dX12_layShortest_52 : decode cX12_layShortest 52 = .ok (.invokevirtual 478, 3) := by decide +kernel
theorem dX12_layShortest_55 : decode cX12_layShortest 55 = .ok (.iaload, 1) := by decide +kernel
theorem dX12_layShortest_56 : decode cX12_layShortest 56 = .ok (.aload_n 0, 1) := by decide +kernel
theorem dX12_layShortest_57 : decode cX12_layShortest 57 = .ok (.iload 4, 2) := by decide +kernel
theorem dX12_layShortest_59 : decode cX12_layShortest 59 = .ok (.invokevirtual 451, 3) := by decide +kernel
theorem dX12_layShortest_62 : decode cX12_layShortest 62 = .ok (.iadd, 1) := by decide +kernel
theorem dX12_layShortest_63 : decode cX12_layShortest 63 = .ok (.aload_n 0, 1) := by decide +kernel
theorem dX12_layShortest_64 : decode cX12_layShortest 64 = .ok (.getfield 128, 3) := by decide +kernel
theorem dX12_layShortest_67 : decode cX12_layShortest 67 = .ok (.iload_n 3, 1) := by decide +kernel
theorem dX12_layShortest_68 : decode cX12_layShortest 68 = .ok (.iaload, 1) := by decide +kernel
theorem dX12_layShortest_69 : decode cX12_layShortest 69 = .ok (.if_icmp .eq 9, 3) := by decide +kernel
theorem dX12_layShortest_72 : decode cX12_layShortest 72 = .ok (.iinc 4 1, 3) := by decide +kernel
theorem dX12_layShortest_75 : decode cX12_layShortest 75 = .ok (.goto (-41), 3) := by decide +kernel
theorem dX12_layShortest_78 : decode cX12_layShortest 78 = .ok (.aload_n 0, 1) := by decide +kernel
theorem dX12_layShortest_79 : decode cX12_layShortest 79 = .ok (.getfield 131, 3) := by decide +kernel
theorem dX12_layShortest_82 : decode cX12_layShortest 82 = .ok (.aload_n 0, 1) := by decide +kernel
theorem dX12_layShortest_83 : decode cX12_layShortest 83 = .ok (.getfield 500, 3) := by decide +kernel
theorem dX12_layShortest_86 : decode cX12_layShortest 86 = .ok (.iload 4, 2) := by decide +kernel
theorem dX12_layShortest_88 : decode cX12_layShortest 88 = .ok (.iastore, 1) := by decide +kernel
theorem dX12_layShortest_89 : decode cX12_layShortest 89 = .ok (.aload_n 0, 1) := by decide +kernel
theorem dX12_layShortest_90 : decode cX12_layShortest 90 = .ok (.dup, 1) := by decide +kernel
theorem dX12_layShortest_91 : decode cX12_layShortest 91 = .ok (.getfield 500, 3) := by decide +kernel
theorem dX12_layShortest_94 : decode cX12_layShortest 94 = .ok (.iconst 1, 1) := by decide +kernel
theorem dX12_layShortest_95 : decode cX12_layShortest 95 = .ok (.iadd, 1) := by decide +kernel
theorem dX12_layShortest_96 : decode cX12_layShortest 96 = .ok (.putfield 500, 3) := by decide +kernel
theorem dX12_layShortest_99 : decode cX12_layShortest 99 = .ok (.aload_n 0, 1) := by decide +kernel
theorem dX12_layShortest_100 : decode cX12_layShortest 100 = .ok (.iload 4, 2) := by decide +kernel
theorem dX12_layShortest_102 : decode cX12_layShortest 102 = .ok (.iload_n 3, 1) := by decide +kernel
theorem dX12_layShortest_103 : decode cX12_layShortest 103 = .ok (.invokevirtual 478, 3) := by decide +kernel
theorem dX12_layShortest_106 : decode cX12_layShortest 106 = .ok (.istore_n 3, 1) := by decide +kernel
theorem dX12_layShortest_107 : decode cX12_layShortest 107 = .ok (.goto (-81), 3) := by decide +kernel
theorem dX12_layShortest_110 : decode cX12_layShortest 110 = .ok (.aload_n 0, 1) := by decide +kernel
theorem dX12_layShortest_111 : decode cX12_layShortest 111 = .ok (.getfield 128, 3) := by decide +kernel
theorem dX12_layShortest_114 : decode cX12_layShortest 114 = .ok (.iload_n 1, 1) := by decide +kernel
theorem dX12_layShortest_115 : decode cX12_layShortest 115 = .ok (.iaload, 1) := by decide +kernel
theorem dX12_layShortest_116 : decode cX12_layShortest 116 = .ok (.ireturn, 1) := by decide +kernel
theorem dX12_shortest_0 : decode cX12_shortest 0 = .ok (.aload_n 0, 1) := by decide +kernel
theorem dX12_shortest_1 : decode cX12_shortest 1 = .ok (.iconst 0, 1) := by decide +kernel
theorem dX12_shortest_2 : decode cX12_shortest 2 = .ok (.putfield 466, 3) := by decide +kernel
theorem dX12_shortest_5 : decode cX12_shortest 5 = .ok (.aload_n 0, 1) := by decide +kernel
theorem dX12_shortest_6 : decode cX12_shortest 6 = .ok (.iload_n 1, 1) := by decide +kernel
theorem dX12_shortest_7 : decode cX12_shortest 7 = .ok (.invokevirtual 469, 3) := by decide +kernel
theorem dX12_shortest_10 : decode cX12_shortest 10 = .ok (.ifCond .eq 11, 3) := by decide +kernel
theorem dX12_shortest_13 : decode cX12_shortest 13 = .ok (.aload_n 0, 1) := by decide +kernel
theorem dX12_shortest_14 : decode cX12_shortest 14 = .ok (.iload_n 2, 1) := by decide +kernel
theorem dX12_shortest_15 : decode cX12_shortest 15 = .ok (.invokevirtual 469, 3) := by decide +kernel
theorem dX12_shortest_18 : decode cX12_shortest 18 = .ok (.ifCond .ne 5, 3) := by decide +kernel
theorem dX12_shortest_21 : decode cX12_shortest 21 = .ok (.iconst (-1), 1) := by decide +kernel
theorem dX12_shortest_22 : decode cX12_shortest 22 = .ok (.ireturn, 1) := by decide +kernel
theorem dX12_shortest_23 : decode cX12_shortest 23 = .ok (.aload_n 0, 1) := by decide +kernel
theorem dX12_shortest_24 : decode cX12_shortest 24 = .ok (.iload_n 1, 1) := by decide +kernel
theorem dX12_shortest_25 : decode cX12_shortest 25 = .ok (.iload_n 2, 1) := by decide +kernel
theorem dX12_shortest_26 : decode cX12_shortest 26 = .ok (.invokevirtual 503, 3) := by decide +kernel
theorem dX12_shortest_29 : decode cX12_shortest 29 = .ok (.istore_n 3, 1) := by decide +kernel
theorem dX12_shortest_30 : decode cX12_shortest 30 = .ok (.iconst 0, 1) := by decide +kernel
theorem dX12_shortest_31 : decode cX12_shortest 31 = .ok (.istore 4, 2) := by decide +kernel
theorem dX12_shortest_33 : decode cX12_shortest 33 = .ok (.iload 4, 2) := by decide +kernel
theorem dX12_shortest_35 : decode cX12_shortest 35 = .ok (.aload_n 0, 1) := by decide +kernel
theorem dX12_shortest_36 : decode cX12_shortest 36 = .ok (.getfield 500, 3) := by decide +kernel
theorem dX12_shortest_39 : decode cX12_shortest 39 = .ok (.if_icmp .ge 23, 3) := by decide +kernel
theorem dX12_shortest_42 : decode cX12_shortest 42 = .ok (.aload_n 0, 1) := by decide +kernel
theorem dX12_shortest_43 : decode cX12_shortest 43 = .ok (.getfield 122, 3) := by decide +kernel
theorem dX12_shortest_46 : decode cX12_shortest 46 = .ok (.iload 4, 2) := by decide +kernel
theorem dX12_shortest_48 : decode cX12_shortest 48 = .ok (.aload_n 0, 1) := by decide +kernel
theorem dX12_shortest_49 : decode cX12_shortest 49 = .ok (.getfield 131, 3) := by decide +kernel
theorem dX12_shortest_52 : decode cX12_shortest 52 = .ok (.iload 4, 2) := by decide +kernel
theorem dX12_shortest_54 : decode cX12_shortest 54 = .ok (.iaload, 1) := by decide +kernel
theorem dX12_shortest_55 : decode cX12_shortest 55 = .ok (.iastore, 1) := by decide +kernel
theorem dX12_shortest_56 : decode cX12_shortest 56 = .ok (.iinc 4 1, 3) := by decide +kernel
theorem dX12_shortest_59 : decode cX12_shortest 59 = .ok (.goto (-26), 3) := by decide +kernel
theorem dX12_shortest_62 : decode cX12_shortest 62 = .ok (.aload_n 0, 1) := by decide +kernel
theorem dX12_shortest_63 : decode cX12_shortest 63 = .ok (.aload_n 0, 1) := by decide +kernel
theorem dX12_shortest_64 : decode cX12_shortest 64 = .ok (.getfield 500, 3) := by decide +kernel
theorem dX12_shortest_67 : decode cX12_shortest 67 = .ok (.putfield 466, 3) := by decide +kernel
theorem dX12_shortest_70 : decode cX12_shortest 70 = .ok (.iload_n 3, 1) := by decide +kernel
theorem dX12_shortest_71 : decode cX12_shortest 71 = .ok (.ireturn, 1) := by decide +kernel
theorem dX12_coupleMany_0 : decode cX12_coupleMany 0 = .ok (.sipush 216, 3) := by decide +kernel
theorem dX12_coupleMany_3 : decode cX12_coupleMany 3 = .ok (.ireturn, 1) := by decide +kernel
theorem dX12_firstOf_0 : decode cX12_firstOf 0 = .ok (.iload_n 0, 1) := by decide +kernel
theorem dX12_firstOf_1 : decode cX12_firstOf 1 = .ok (.bipush 36, 2) := by decide +kernel
theorem dX12_firstOf_3 : decode cX12_firstOf 3 = .ok (.idiv, 1) := by decide +kernel
theorem dX12_firstOf_4 : decode cX12_firstOf 4 = .ok (.ireturn, 1) := by decide +kernel
theorem dX12_otherOf_0 : decode cX12_otherOf 0 = .ok (.iload_n 0, 1) := by decide +kernel
theorem dX12_otherOf_1 : decode cX12_otherOf 1 = .ok (.bipush 6, 2) := by decide +kernel
theorem dX12_otherOf_3 : decode cX12_otherOf 3 = .ok (.idiv, 1) := by decide +kernel
theorem dX12_otherOf_4 : decode cX12_otherOf 4 = .ok (.bipush 6, 2) := by decide +kernel
theorem dX12_otherOf_6 : decode cX12_otherOf 6 = .ok (.irem, 1) := by decide +kernel
theorem dX12_otherOf_7 : decode cX12_otherOf 7 = .ok (.ireturn, 1) := by decide +kernel
theorem dX12_matterOf_0 : decode cX12_matterOf 0 = .ok (.iload_n 0, 1) := by decide +kernel
theorem dX12_matterOf_1 : decode cX12_matterOf 1 = .ok (.bipush 6, 2) := by decide +kernel
theorem dX12_matterOf_3 : decode cX12_matterOf 3 = .ok (.irem, 1) := by decide +kernel
theorem dX12_matterOf_4 : decode cX12_matterOf 4 = .ok (.ireturn, 1) := by decide +kernel
theorem dX12_canBe_0 : decode cX12_canBe 0 = .ok (.aload_n 0, 1) := by decide +kernel
theorem dX12_canBe_1 : decode cX12_canBe 1 = .ok (.iload_n 1, 1) := by decide +kernel
theorem dX12_canBe_2 : decode cX12_canBe 2 = .ok (.invokestatic 506, 3) := by decide +kernel
theorem dX12_canBe_5 : decode cX12_canBe 5 = .ok (.iload_n 1, 1) := by decide +kernel
theorem dX12_canBe_6 : decode cX12_canBe 6 = .ok (.invokestatic 509, 3) := by decide +kernel
theorem dX12_canBe_9 : decode cX12_canBe 9 = .ok (.iload_n 1, 1) := by decide +kernel
theorem dX12_canBe_10 : decode cX12_canBe 10 = .ok (.invokestatic 512, 3) := by decide +kernel
theorem dX12_canBe_13 : decode cX12_canBe 13 = .ok (.invokevirtual 436, 3) := by decide +kernel
theorem dX12_canBe_16 : decode cX12_canBe 16 = .ok (.ireturn, 1) := by decide +kernel
theorem dX12_beginBy_0 : decode cX12_beginBy 0 = .ok (.aload_n 0, 1) := by decide +kernel
theorem dX12_beginBy_1 : decode cX12_beginBy 1 = .ok (.aload_n 0, 1) := by decide +kernel
theorem dX12_beginBy_2 : decode cX12_beginBy 2 = .ok (.getfield 113, 3) := by decide +kernel
theorem dX12_beginBy_5 : decode cX12_beginBy 5 = .ok (.iload_n 1, 1) := by decide +kernel
theorem dX12_beginBy_6 : decode cX12_beginBy 6 = .ok (.invokestatic 506, 3) := by decide +kernel
theorem dX12_beginBy_9 : decode cX12_beginBy 9 = .ok (.iload_n 1, 1) := by decide +kernel
theorem dX12_beginBy_10 : decode cX12_beginBy 10 = .ok (.invokestatic 509, 3) := by decide +kernel
theorem dX12_beginBy_13 : decode cX12_beginBy 13 = .ok (.iload_n 1, 1) := by decide +kernel
theorem dX12_beginBy_14 : decode cX12_beginBy 14 = .ok (.invokestatic 512, 3) := by decide +kernel
theorem dX12_beginBy_17 : decode cX12_beginBy 17 = .ok (.invokevirtual 424, 3) := by decide +kernel
theorem dX12_beginBy_20 : decode cX12_beginBy 20 = .ok (.return_, 1) := by decide +kernel
theorem dX12_send_0 : decode cX12_send 0 = .ok (.aload_n 0, 1) := by decide +kernel
theorem dX12_send_1 : decode cX12_send 1 = .ok (.iconst 0, 1) := by decide +kernel
theorem dX12_send_2 : decode cX12_send 2 = .ok (.putfield 466, 3) := by decide +kernel
theorem dX12_send_5 : decode cX12_send 5 = .ok (.aload_n 0, 1) := by decide +kernel
theorem dX12_send_6 : decode cX12_send 6 = .ok (.iload_n 1, 1) := by decide +kernel
theorem dX12_send_7 : decode cX12_send 7 = .ok (.invokevirtual 469, 3) := by decide +kernel
theorem dX12_send_10 : decode cX12_send 10 = .ok (.ifCond .eq 20, 3) := by decide +kernel
theorem dX12_send_13 : decode cX12_send 13 = .ok (.aload_n 0, 1) := by decide +kernel
theorem dX12_send_14 : decode cX12_send 14 = .ok (.iload_n 2, 1) := by decide +kernel
theorem dX12_send_15 : decode cX12_send 15 = .ok (.invokevirtual 469, 3) := by decide +kernel
theorem dX12_send_18 : decode cX12_send 18 = .ok (.ifCond .eq 12, 3) := by decide +kernel
theorem dX12_send_21 : decode cX12_send 21 = .ok (.aload_n 0, 1) := by decide +kernel
theorem dX12_send_22 : decode cX12_send 22 = .ok (.iload_n 1, 1) := by decide +kernel
theorem dX12_send_23 : decode cX12_send 23 = .ok (.iload_n 2, 1) := by decide +kernel
theorem dX12_send_24 : decode cX12_send 24 = .ok (.invokevirtual 503, 3) := by decide +kernel
theorem dX12_send_27 : decode cX12_send 27 = .ok (.ifCond .ge 5, 3) := by decide +kernel
theorem dX12_send_30 : decode cX12_send 30 = .ok (.iconst (-1), 1) := by decide +kernel
theorem dX12_send_31 : decode cX12_send 31 = .ok (.ireturn, 1) := by decide +kernel
theorem dX12_send_32 : decode cX12_send 32 = .ok (.iconst 0, 1) := by decide +kernel
theorem dX12_send_33 : decode cX12_send 33 = .ok (.istore_n 3, 1) := by decide +kernel
theorem dX12_send_34 : decode cX12_send 34 = .ok (.iconst 0, 1) := by decide +kernel
theorem dX12_send_35 : decode cX12_send 35 = .ok (.istore 4, 2) := by decide +kernel
theorem dX12_send_37 : decode cX12_send 37 = .ok (.iload 4, 2) := by decide +kernel
theorem dX12_send_39 : decode cX12_send 39 = .ok (.aload_n 0, 1) := by decide +kernel
theorem dX12_send_40 : decode cX12_send 40 = .ok (.invokevirtual 515, 3) := by decide +kernel
theorem dX12_send_43 : decode cX12_send 43 = .ok (.if_icmp .ge 128, 3) := by decide +kernel
theorem dX12_send_46 : decode cX12_send 46 = .ok (.aload_n 0, 1) := by decide +kernel
theorem dX12_send_47 : decode cX12_send 47 = .ok (.iload 4, 2) := by decide +kernel
theorem dX12_send_49 : decode cX12_send 49 = .ok (.invokevirtual 518, 3) := by decide +kernel
theorem dX12_send_52 : decode cX12_send 52 = .ok (.ifCond .ne 6, 3) := by decide +kernel
theorem dX12_send_55 : decode cX12_send 55 = .ok (.goto 110, 3) := by decide +kernel
theorem dX12_send_58 : decode cX12_send 58 = .ok (.aload_n 0, 1) := by decide +kernel
theorem dX12_send_59 : decode cX12_send 59 = .ok (.iload 4, 2) := by decide +kernel
theorem dX12_send_61 : decode cX12_send 61 = .ok (.invokevirtual 521, 3) := by decide +kernel
theorem dX12_send_64 : decode cX12_send 64 = .ok (.aload_n 0, 1) := by decide +kernel
theorem dX12_send_65 : decode cX12_send 65 = .ok (.aload_n 0, 1) := by decide +kernel
theorem dX12_send_66 : decode cX12_send 66 = .ok (.getfield 131, 3) := by decide +kernel
theorem dX12_send_69 : decode cX12_send 69 = .ok (.aload_n 0, 1) := by decide +kernel
theorem dX12_send_70 : decode cX12_send 70 = .ok (.getfield 500, 3) := by decide +kernel
theorem dX12_send_73 : decode cX12_send 73 = .ok (.iload_n 1, 1) := by decide +kernel
theorem dX12_send_74 : decode cX12_send 74 = .ok (.invokevirtual 493, 3) := by decide +kernel
theorem dX12_send_77 : decode cX12_send 77 = .ok (.aload_n 0, 1) := by decide +kernel
theorem dX12_send_78 : decode cX12_send 78 = .ok (.getfield 487, 3) := by decide +kernel
theorem dX12_send_81 : decode cX12_send 81 = .ok (.ifCond .lt 84, 3) := by decide +kernel
theorem dX12_send_84 : decode cX12_send 84 = .ok (.aload_n 0, 1) := by decide +kernel
theorem dX12_send_85 : decode cX12_send 85 = .ok (.getfield 487, 3) := by decide +kernel
theorem dX12_send_88 : decode cX12_send 88 = .ok (.aload_n 0, 1) := by decide +kernel
theorem dX12_send_89 : decode cX12_send 89 = .ok (.getfield 500, 3) := by decide +kernel
theorem dX12_send_92 : decode cX12_send 92 = .ok (.iconst 1, 1) := by decide +kernel
theorem dX12_send_93 : decode cX12_send 93 = .ok (.isub, 1) := by decide +kernel
theorem dX12_send_94 : decode cX12_send 94 = .ok (.if_icmp .lt 71, 3) := by decide +kernel
theorem dX12_send_97 : decode cX12_send 97 = .ok (.aload_n 0, 1) := by decide +kernel
theorem dX12_send_98 : decode cX12_send 98 = .ok (.getfield 490, 3) := by decide +kernel
theorem dX12_send_101 : decode cX12_send 101 = .ok (.aload_n 0, 1) := by decide +kernel
theorem dX12_send_102 : decode cX12_send 102 = .ok (.aload_n 0, 1) := by decide +kernel
theorem dX12_send_103 : decode cX12_send 103 = .ok (.getfield 131, 3) := by decide +kernel
theorem dX12_send_106 : decode cX12_send 106 = .ok (.aload_n 0, 1) := by decide +kernel
theorem dX12_send_107 : decode cX12_send 107 = .ok (.getfield 487, 3) := by decide +kernel
theorem dX12_send_110 : decode cX12_send 110 = .ok (.iaload, 1) := by decide +kernel
theorem dX12_send_111 : decode cX12_send 111 = .ok (.invokevirtual 451, 3) := by decide +kernel
theorem dX12_send_114 : decode cX12_send 114 = .ok (.if_icmp .ge 6, 3) := by decide +kernel
theorem dX12_send_117 : decode cX12_send 117 = .ok (.goto 48, 3) := by decide +kernel
theorem dX12_send_120 : decode cX12_send 120 = .ok (.iload_n 3, 1) := by decide +kernel
theorem dX12_send_121 : decode cX12_send 121 = .ok (.ifCond .ne 41, 3) := by decide +kernel
theorem dX12_send_124 : decode cX12_send 124 = .ok (.aload_n 0, 1) := by decide +kernel
theorem dX12_send_125 : decode cX12_send 125 = .ok (.getfield 122, 3) := by decide +kernel
theorem dX12_send_128 : decode cX12_send 128 = .ok (.iconst 0, 1) := by decide +kernel
theorem dX12_send_129 : decode cX12_send 129 = .ok (.iload 4, 2) := by decide +kernel
theorem dX12_send_131 : decode cX12_send 131 = .ok (.invokestatic 506, 3) := by decide +kernel
theorem dX12_send_134 : decode cX12_send 134 = .ok (.iastore, 1) := by decide +kernel
theorem dX12_send_135 : decode cX12_send 135 = .ok (.aload_n 0, 1) := by decide +kernel
theorem dX12_send_136 : decode cX12_send 136 = .ok (.getfield 122, 3) := by decide +kernel
theorem dX12_send_139 : decode cX12_send 139 = .ok (.iconst 1, 1) := by decide +kernel
theorem dX12_send_140 : decode cX12_send 140 = .ok (.iload 4, 2) := by decide +kernel
theorem dX12_send_142 : decode cX12_send 142 = .ok (.invokestatic 509, 3) := by decide +kernel
theorem dX12_send_145 : decode cX12_send 145 = .ok (.iastore, 1) := by decide +kernel
theorem dX12_send_146 : decode cX12_send 146 = .ok (.aload_n 0, 1) := by decide +kernel
theorem dX12_send_147 : decode cX12_send 147 = .ok (.getfield 122, 3) := by decide +kernel
theorem dX12_send_150 : decode cX12_send 150 = .ok (.iconst 2, 1) := by decide +kernel
theorem dX12_send_151 : decode cX12_send 151 = .ok (.iload 4, 2) := by decide +kernel
theorem dX12_send_153 : decode cX12_send 153 = .ok (.invokestatic 512, 3) := by decide +kernel
theorem dX12_send_156 : decode cX12_send 156 = .ok (.iastore, 1) := by decide +kernel
theorem dX12_send_157 : decode cX12_send 157 = .ok (.aload_n 0, 1) := by decide +kernel
theorem dX12_send_158 : decode cX12_send 158 = .ok (.iconst 3, 1) := by decide +kernel
theorem dX12_send_159 : decode cX12_send 159 = .ok (.putfield 466, 3) := by decide +kernel
theorem dX12_send_162 : decode cX12_send 162 = .ok (.iinc 3 1, 3) := by decide +kernel
theorem dX12_send_165 : decode cX12_send 165 = .ok (.iinc 4 1, 3) := by decide +kernel
theorem dX12_send_168 : decode cX12_send 168 = .ok (.goto (-131), 3) := by decide +kernel
theorem dX12_send_171 : decode cX12_send 171 = .ok (.iload_n 3, 1) := by decide +kernel
theorem dX12_send_172 : decode cX12_send 172 = .ok (.ireturn, 1) := by decide +kernel
theorem dX12_measured_0 : decode cX12_measured 0 = .ok (.iload 4, 2) := by decide +kernel
theorem dX12_measured_2 : decode cX12_measured 2 = .ok (.istore 5, 2) := by decide +kernel
theorem dX12_measured_4 : decode cX12_measured 4 = .ok (.aload_n 0, 1) := by decide +kernel
theorem dX12_measured_5 : decode cX12_measured 5 = .ok (.iload_n 2, 1) := by decide +kernel
theorem dX12_measured_6 : decode cX12_measured 6 = .ok (.iload_n 3, 1) := by decide +kernel
theorem dX12_measured_7 : decode cX12_measured 7 = .ok (.invokevirtual 478, 3) := by decide +kernel
theorem dX12_measured_10 : decode cX12_measured 10 = .ok (.istore 6, 2) := by decide +kernel
theorem dX12_measured_12 : decode cX12_measured 12 = .ok (.iconst 1, 1) := by decide +kernel
theorem dX12_measured_13 : decode cX12_measured 13 = .ok (.istore 7, 2) := by decide +kernel
theorem dX12_measured_15 : decode cX12_measured 15 = .ok (.iload 7, 2) := by decide +kernel
theorem dX12_measured_17 : decode cX12_measured 17 = .ok (.aload_n 0, 1) := by decide +kernel
theorem dX12_measured_18 : decode cX12_measured 18 = .ok (.iload_n 2, 1) := by decide +kernel
theorem dX12_measured_19 : decode cX12_measured 19 = .ok (.invokevirtual 451, 3) := by decide +kernel
theorem dX12_measured_22 : decode cX12_measured 22 = .ok (.if_icmp .gt 71, 3) := by decide +kernel
theorem dX12_measured_25 : decode cX12_measured 25 = .ok (.iload 5, 2) := by decide +kernel
theorem dX12_measured_27 : decode cX12_measured 27 = .ok (.ifCond .ne 18, 3) := by decide +kernel
theorem dX12_measured_30 : decode cX12_measured 30 = .ok (.aload_n 0, 1) := by decide +kernel
theorem dX12_measured_31 : decode cX12_measured 31 = .ok (.iload_n 1, 1) := by decide +kernel
theorem dX12_measured_32 : decode cX12_measured 32 = .ok (.invokevirtual 521, 3) := by decide +kernel
theorem dX12_measured_35 : decode cX12_measured 35 = .ok (.aload_n 0, 1) := by decide +kernel
theorem dX12_measured_36 : decode cX12_measured 36 = .ok (.dup, 1) := by decide +kernel
theorem dX12_measured_37 : decode cX12_measured 37 = .ok (.getfield 524, 3) := by decide +kernel
theorem dX12_measured_40 : decode cX12_measured 40 = .ok (.iconst 1, 1) := by decide +kernel
theorem dX12_measured_41 : decode cX12_measured 41 = .ok (.iadd, 1) := by decide +kernel
theorem dX12_measured_42 : decode cX12_measured 42 = .ok (.putfield 524, 3) := by decide +kernel
theorem dX12_measured_45 : decode cX12_measured 45 = .ok (.aload_n 0, 1) := by decide +kernel
theorem dX12_measured_46 : decode cX12_measured 46 = .ok (.aload_n 0, 1) := by decide +kernel
theorem dX12_measured_47 : decode cX12_measured 47 = .ok (.getfield 113, 3) := by decide +kernel
theorem dX12_measured_50 : decode cX12_measured 50 = .ok (.iload_n 2, 1) := by decide +kernel
theorem dX12_measured_51 : decode cX12_measured 51 = .ok (.iload 7, 2) := by decide +kernel
theorem dX12_measured_53 : decode cX12_measured 53 = .ok (.aload_n 0, 1) := by decide +kernel
theorem dX12_measured_54 : decode cX12_measured 54 = .ok (.iload_n 2, 1) := by decide +kernel
theorem dX12_measured_55 : decode cX12_measured 55 = .ok (.invokevirtual 451, 3) := by decide +kernel
theorem dX12_measured_58 : decode cX12_measured 58 = .ok (.if_icmp .ne 8, 3) := by decide +kernel
theorem dX12_measured_61 : decode cX12_measured 61 = .ok (.iload 6, 2) := by decide +kernel
theorem dX12_measured_63 : decode cX12_measured 63 = .ok (.goto 4, 3) := by decide +kernel
theorem dX12_measured_66 : decode cX12_measured 66 = .ok (.iconst (-1), 1) := by decide +kernel
theorem dX12_measured_67 : decode cX12_measured 67 = .ok (.invokevirtual 428, 3) := by decide +kernel
theorem dX12_measured_70 : decode cX12_measured 70 = .ok (.aload_n 0, 1) := by decide +kernel
theorem dX12_measured_71 : decode cX12_measured 71 = .ok (.getfield 113, 3) := by decide +kernel
theorem dX12_measured_74 : decode cX12_measured 74 = .ok (.invokestatic 432, 3) := by decide +kernel
theorem dX12_measured_77 : decode cX12_measured 77 = .ok (.ifCond .ne 7, 3) := by decide +kernel
theorem dX12_measured_80 : decode cX12_measured 80 = .ok (.iconst 1, 1) := by decide +kernel
theorem dX12_measured_81 : decode cX12_measured 81 = .ok (.goto 4, 3) := by decide +kernel
theorem dX12_measured_84 : decode cX12_measured 84 = .ok (.iconst 0, 1) := by decide +kernel
theorem dX12_measured_85 : decode cX12_measured 85 = .ok (.istore 5, 2) := by decide +kernel
theorem dX12_measured_87 : decode cX12_measured 87 = .ok (.iinc 7 1, 3) := by decide +kernel
theorem dX12_measured_90 : decode cX12_measured 90 = .ok (.goto (-75), 3) := by decide +kernel
theorem dX12_measured_93 : decode cX12_measured 93 = .ok (.iload 5, 2) := by decide +kernel
theorem dX12_measured_95 : decode cX12_measured 95 = .ok (.ireturn, 1) := by decide +kernel
theorem dX12_measureBy_0 : decode cX12_measureBy 0 = .ok (.aload_n 0, 1) := by decide +kernel
theorem dX12_measureBy_1 : decode cX12_measureBy 1 = .ok (.iconst 0, 1) := by decide +kernel
theorem dX12_measureBy_2 : decode cX12_measureBy 2 = .ok (.putfield 524, 3) := by decide +kernel
theorem dX12_measureBy_5 : decode cX12_measureBy 5 = .ok (.aload_n 0, 1) := by decide +kernel
theorem dX12_measureBy_6 : decode cX12_measureBy 6 = .ok (.iload_n 1, 1) := by decide +kernel
theorem dX12_measureBy_7 : decode cX12_measureBy 7 = .ok (.iload_n 2, 1) := by decide +kernel
theorem dX12_measureBy_8 : decode cX12_measureBy 8 = .ok (.iload_n 3, 1) := by decide +kernel
theorem dX12_measureBy_9 : decode cX12_measureBy 9 = .ok (.ifCond .eq 11, 3) := by decide +kernel
theorem dX12_measureBy_12 : decode cX12_measureBy 12 = .ok (.aload_n 0, 1) := by decide +kernel
theorem dX12_measureBy_13 : decode cX12_measureBy 13 = .ok (.iload_n 2, 1) := by decide +kernel
theorem dX12_measureBy_14 : decode cX12_measureBy 14 = .ok (.invokevirtual 448, 3) := by decide +kernel
theorem dX12_measureBy_17 : decode cX12_measureBy 17 = .ok (.goto 8, 3) := by decide +kernel
theorem dX12_measureBy_20 : decode cX12_measureBy 20 = .ok (.aload_n 0, 1) := by decide +kernel
theorem dX12_measureBy_21 : decode cX12_measureBy 21 = .ok (.iload_n 2, 1) := by decide +kernel
theorem dX12_measureBy_22 : decode cX12_measureBy 22 = .ok (.invokevirtual 445, 3) := by decide +kernel
theorem dX12_measureBy_25 : decode cX12_measureBy 25 = .ok (.iconst 0, 1) := by decide +kernel
theorem dX12_measureBy_26 : decode cX12_measureBy 26 = .ok (.invokevirtual 527, 3) := by decide +kernel
theorem dX12_measureBy_29 : decode cX12_measureBy 29 = .ok (.pop, 1) := by decide +kernel
theorem dX12_measureBy_30 : decode cX12_measureBy 30 = .ok (.aload_n 0, 1) := by decide +kernel
theorem dX12_measureBy_31 : decode cX12_measureBy 31 = .ok (.getfield 524, 3) := by decide +kernel
theorem dX12_measureBy_34 : decode cX12_measureBy 34 = .ok (.ireturn, 1) := by decide +kernel
theorem dX12_measure_0 : decode cX12_measure 0 = .ok (.aload_n 0, 1) := by decide +kernel
theorem dX12_measure_1 : decode cX12_measure 1 = .ok (.iload_n 1, 1) := by decide +kernel
theorem dX12_measure_2 : decode cX12_measure 2 = .ok (.iload_n 2, 1) := by decide +kernel
theorem dX12_measure_3 : decode cX12_measure 3 = .ok (.iload_n 3, 1) := by decide +kernel
theorem dX12_measure_4 : decode cX12_measure 4 = .ok (.invokevirtual 436, 3) := by decide +kernel
theorem dX12_measure_7 : decode cX12_measure 7 = .ok (.ifCond .eq 34, 3) := by decide +kernel
theorem dX12_measure_10 : decode cX12_measure 10 = .ok (.aload_n 0, 1) := by decide +kernel
theorem dX12_measure_11 : decode cX12_measure 11 = .ok (.iload 4, 2) := by decide +kernel
theorem dX12_measure_13 : decode cX12_measure 13 = .ok (.invokevirtual 442, 3) := by decide +kernel
theorem dX12_measure_16 : decode cX12_measure 16 = .ok (.ifCond .eq 25, 3) := by decide +kernel
theorem dX12_measure_19 : decode cX12_measure 19 = .ok (.aload_n 0, 1) := by decide +kernel
theorem dX12_measure_20 : decode cX12_measure 20 = .ok (.bipush 6, 2) := by decide +kernel
theorem dX12_measure_22 : decode cX12_measure 22 = .ok (.iload_n 1, 1) := by decide +kernel
theorem dX12_measure_23 : decode cX12_measure 23 = .ok (.imul, 1) := by decide +kernel
theorem dX12_measure_24 : decode cX12_measure 24 = .ok (.iload_n 2, 1) := by decide +kernel
theorem dX12_measure_25 : decode cX12_measure 25 = .ok (.iadd, 1) := by decide +kernel
theorem dX12_measure_26 : decode cX12_measure 26 = .ok (.bipush 6, 2) := by decide +kernel
theorem dX12_measure_28 : decode cX12_measure 28 = .ok (.imul, 1) := by decide +kernel
theorem dX12_measure_29 : decode cX12_measure 29 = .ok (.iload_n 3, 1) := by decide +kernel
theorem dX12_measure_30 : decode cX12_measure 30 = .ok (.iadd, 1) := by decide +kernel
theorem dX12_measure_31 : decode cX12_measure 31 = .ok (.iload 4, 2) := by decide +kernel
theorem dX12_measure_33 : decode cX12_measure 33 = .ok (.iload 5, 2) := by decide +kernel
theorem dX12_measure_35 : decode cX12_measure 35 = .ok (.invokevirtual 531, 3) := by decide +kernel
theorem dX12_measure_38 : decode cX12_measure 38 = .ok (.goto 4, 3) := by decide +kernel
theorem dX12_measure_41 : decode cX12_measure 41 = .ok (.iconst (-1), 1) := by decide +kernel
theorem dX12_measure_42 : decode cX12_measure 42 = .ok (.ireturn, 1) := by decide +kernel
theorem dX12_adds_0 : decode cX12_adds 0 = .ok (.aload_n 0, 1) := by decide +kernel
theorem dX12_adds_1 : decode cX12_adds 1 = .ok (.iload_n 1, 1) := by decide +kernel
theorem dX12_adds_2 : decode cX12_adds 2 = .ok (.invokevirtual 442, 3) := by decide +kernel
theorem dX12_adds_5 : decode cX12_adds 5 = .ok (.ifCond .eq 24, 3) := by decide +kernel
theorem dX12_adds_8 : decode cX12_adds 8 = .ok (.aload_n 0, 1) := by decide +kernel
theorem dX12_adds_9 : decode cX12_adds 9 = .ok (.iload_n 2, 1) := by decide +kernel
theorem dX12_adds_10 : decode cX12_adds 10 = .ok (.invokevirtual 442, 3) := by decide +kernel
theorem dX12_adds_13 : decode cX12_adds 13 = .ok (.ifCond .eq 16, 3) := by decide +kernel
theorem dX12_adds_16 : decode cX12_adds 16 = .ok (.aload_n 0, 1) := by decide +kernel
theorem dX12_adds_17 : decode cX12_adds 17 = .ok (.iload_n 1, 1) := by decide +kernel
theorem dX12_adds_18 : decode cX12_adds 18 = .ok (.invokevirtual 448, 3) := by decide +kernel
theorem dX12_adds_21 : decode cX12_adds 21 = .ok (.aload_n 0, 1) := by decide +kernel
theorem dX12_adds_22 : decode cX12_adds 22 = .ok (.iload_n 2, 1) := by decide +kernel
theorem dX12_adds_23 : decode cX12_adds 23 = .ok (.invokevirtual 445, 3) := by decide +kernel
theorem dX12_adds_26 : decode cX12_adds 26 = .ok (.if_icmp .eq 5, 3) := by decide +kernel
theorem dX12_adds_29 : decode cX12_adds 29 = .ok (.iconst (-1), 1) := by decide +kernel
theorem dX12_adds_30 : decode cX12_adds 30 = .ok (.ireturn, 1) := by decide +kernel
theorem dX12_adds_31 : decode cX12_adds 31 = .ok (.iconst 0, 1) := by decide +kernel
theorem dX12_adds_32 : decode cX12_adds 32 = .ok (.istore_n 3, 1) := by decide +kernel
theorem dX12_adds_33 : decode cX12_adds 33 = .ok (.iconst 0, 1) := by decide +kernel
theorem dX12_adds_34 : decode cX12_adds 34 = .ok (.istore 4, 2) := by decide +kernel
theorem dX12_adds_36 : decode cX12_adds 36 = .ok (.iload 4, 2) := by decide +kernel
theorem dX12_adds_38 : decode cX12_adds 38 = .ok (.aload_n 0, 1) := by decide +kernel
theorem dX12_adds_39 : decode cX12_adds 39 = .ok (.invokevirtual 515, 3) := by decide +kernel
theorem dX12_adds_42 : decode cX12_adds 42 = .ok (.if_icmp .ge 92, 3) := by decide +kernel
theorem dX12_adds_45 : decode cX12_adds 45 = .ok (.aload_n 0, 1) := by decide +kernel
theorem dX12_adds_46 : decode cX12_adds 46 = .ok (.iload 4, 2) := by decide +kernel
theorem dX12_adds_48 : decode cX12_adds 48 = .ok (.invokevirtual 518, 3) := by decide +kernel
theorem dX12_adds_51 : decode cX12_adds 51 = .ok (.ifCond .ne 6, 3) := by decide +kernel
theorem dX12_adds_54 : decode cX12_adds 54 = .ok (.goto 74, 3) := by decide +kernel
theorem dX12_adds_57 : decode cX12_adds 57 = .ok (.aload_n 0, 1) := by decide +kernel
theorem dX12_adds_58 : decode cX12_adds 58 = .ok (.iload 4, 2) := by decide +kernel
theorem dX12_adds_60 : decode cX12_adds 60 = .ok (.iload_n 1, 1) := by decide +kernel
theorem dX12_adds_61 : decode cX12_adds 61 = .ok (.iconst 0, 1) := by decide +kernel
theorem dX12_adds_62 : decode cX12_adds 62 = .ok (.invokevirtual 531, 3) := by decide +kernel
theorem dX12_adds_65 : decode cX12_adds 65 = .ok (.aload_n 0, 1) := by decide +kernel
theorem dX12_adds_66 : decode cX12_adds 66 = .ok (.iload 4, 2) := by decide +kernel
theorem dX12_adds_68 : decode cX12_adds 68 = .ok (.iload_n 2, 1) := by decide +kernel
theorem dX12_adds_69 : decode cX12_adds 69 = .ok (.iconst 0, 1) := by decide +kernel
theorem dX12_adds_70 : decode cX12_adds 70 = .ok (.invokevirtual 531, 3) := by decide +kernel
theorem dX12_adds_73 : decode cX12_adds 73 = .ok (.iadd, 1) := by decide +kernel
theorem dX12_adds_74 : decode cX12_adds 74 = .ok (.istore 5, 2) := by decide +kernel
theorem dX12_adds_76 : decode cX12_adds 76 = .ok (.aload_n 0, 1) := by decide +kernel
theorem dX12_adds_77 : decode cX12_adds 77 = .ok (.iconst 0, 1) := by decide +kernel
theorem dX12_adds_78 : decode cX12_adds 78 = .ok (.putfield 524, 3) := by decide +kernel
theorem dX12_adds_81 : decode cX12_adds 81 = .ok (.aload_n 0, 1) := by decide +kernel
theorem dX12_adds_82 : decode cX12_adds 82 = .ok (.iload 4, 2) := by decide +kernel
theorem dX12_adds_84 : decode cX12_adds 84 = .ok (.iload_n 1, 1) := by decide +kernel
theorem dX12_adds_85 : decode cX12_adds 85 = .ok (.aload_n 0, 1) := by decide +kernel
theorem dX12_adds_86 : decode cX12_adds 86 = .ok (.iload_n 1, 1) := by decide +kernel
theorem dX12_adds_87 : decode cX12_adds 87 = .ok (.invokevirtual 445, 3) := by decide +kernel
theorem dX12_adds_90 : decode cX12_adds 90 = .ok (.iconst 0, 1) := by decide +kernel
theorem dX12_adds_91 : decode cX12_adds 91 = .ok (.invokevirtual 527, 3) := by decide +kernel
theorem dX12_adds_94 : decode cX12_adds 94 = .ok (.istore 6, 2) := by decide +kernel
theorem dX12_adds_96 : decode cX12_adds 96 = .ok (.aload_n 0, 1) := by decide +kernel
theorem dX12_adds_97 : decode cX12_adds 97 = .ok (.iload 4, 2) := by decide +kernel
theorem dX12_adds_99 : decode cX12_adds 99 = .ok (.iload_n 2, 1) := by decide +kernel
theorem dX12_adds_100 : decode cX12_adds 100 = .ok (.aload_n 0, 1) := by decide +kernel
theorem dX12_adds_101 : decode cX12_adds 101 = .ok (.iload_n 2, 1) := by decide +kernel
theorem dX12_adds_102 : decode cX12_adds 102 = .ok (.invokevirtual 445, 3) := by decide +kernel
theorem dX12_adds_105 : decode cX12_adds 105 = .ok (.iload 6, 2) := by decide +kernel
theorem dX12_adds_107 : decode cX12_adds 107 = .ok (.invokevirtual 527, 3) := by decide +kernel
theorem dX12_adds_110 : decode cX12_adds 110 = .ok (.pop, 1) := by decide +kernel
theorem dX12_adds_111 : decode cX12_adds 111 = .ok (.iload_n 3, 1) := by decide +kernel
theorem dX12_adds_112 : decode cX12_adds 112 = .ok (.aload_n 0, 1) := by decide +kernel
theorem dX12_adds_113 : decode cX12_adds 113 = .ok (.getfield 524, 3) := by decide +kernel
theorem dX12_adds_116 : decode cX12_adds 116 = .ok (.iload 5, 2) := by decide +kernel
theorem dX12_adds_118 : decode cX12_adds 118 = .ok (.if_icmp .ne 7, 3) := by decide +kernel
theorem dX12_adds_121 : decode cX12_adds 121 = .ok (.iconst 1, 1) := by decide +kernel
theorem dX12_adds_122 : decode cX12_adds 122 = .ok (.goto 4, 3) := by decide +kernel
theorem dX12_adds_125 : decode cX12_adds 125 = .ok (.iconst 0, 1) := by decide +kernel
theorem dX12_adds_126 : decode cX12_adds 126 = .ok (.iadd, 1) := by decide +kernel
theorem dX12_adds_127 : decode cX12_adds 127 = .ok (.istore_n 3, 1) := by decide +kernel
theorem dX12_adds_128 : decode cX12_adds 128 = .ok (.iinc 4 1, 3) := by decide +kernel
theorem dX12_adds_131 : decode cX12_adds 131 = .ok (.goto (-95), 3) := by decide +kernel
theorem dX12_adds_134 : decode cX12_adds 134 = .ok (.iload_n 3, 1) := by decide +kernel
theorem dX12_adds_135 : decode cX12_adds 135 = .ok (.ireturn, 1) := by decide +kernel
theorem dX12_isFair_0 : decode cX12_isFair 0 = .ok (.iconst 0, 1) := by decide +kernel
theorem dX12_isFair_1 : decode cX12_isFair 1 = .ok (.istore_n 2, 1) := by decide +kernel
theorem dX12_isFair_2 : decode cX12_isFair 2 = .ok (.iload_n 2, 1) := by decide +kernel
theorem dX12_isFair_3 : decode cX12_isFair 3 = .ok (.aload_n 0, 1) := by decide +kernel
theorem dX12_isFair_4 : decode cX12_isFair 4 = .ok (.getfield 24, 3) := by decide +kernel
theorem dX12_isFair_7 : decode cX12_isFair 7 = .ok (.aload_n 0, 1) := by decide +kernel
theorem dX12_isFair_8 : decode cX12_isFair 8 = .ok (.getfield 295, 3) := by decide +kernel
theorem dX12_isFair_11 : decode cX12_isFair 11 = .ok (.iaload, 1) := by decide +kernel
theorem dX12_isFair_12 : decode cX12_isFair 12 = .ok (.if_icmp .ge 28, 3) := by decide +kernel
theorem dX12_isFair_15 : decode cX12_isFair 15 = .ok (.aload_n 0, 1) := by decide +kernel
theorem dX12_isFair_16 : decode cX12_isFair 16 = .ok (.iload_n 1, 1) := by decide +kernel
theorem dX12_isFair_17 : decode cX12_isFair 17 = .ok (.iload_n 2, 1) := by decide +kernel
theorem dX12_isFair_18 : decode cX12_isFair 18 = .ok (.iconst 0, 1) := by decide +kernel
theorem dX12_isFair_19 : decode cX12_isFair 19 = .ok (.invokevirtual 531, 3) := by decide +kernel
theorem dX12_isFair_22 : decode cX12_isFair 22 = .ok (.aload_n 0, 1) := by decide +kernel
theorem dX12_isFair_23 : decode cX12_isFair 23 = .ok (.iload_n 1, 1) := by decide +kernel
theorem dX12_isFair_24 : decode cX12_isFair 24 = .ok (.iload_n 2, 1) := by decide +kernel
theorem dX12_isFair_25 : decode cX12_isFair 25 = .ok (.iconst 1, 1) := by decide +kernel
theorem dX12_isFair_26 : decode cX12_isFair 26 = .ok (.invokevirtual 531, 3) := by decide +kernel
theorem dX12_isFair_29 : decode cX12_isFair 29 = .ok (.if_icmp .eq 5, 3) := by decide +kernel
theorem dX12_isFair_32 : decode cX12_isFair 32 = .ok (.iconst 0, 1) := by decide +kernel
theorem dX12_isFair_33 : decode cX12_isFair 33 = .ok (.ireturn, 1) := by decide +kernel
theorem dX12_isFair_34 : decode cX12_isFair 34 = .ok (.iinc 2 1, 3) := by decide +kernel
theorem dX12_isFair_37 : decode cX12_isFair 37 = .ok (.goto (-35), 3) := by decide +kernel
theorem dX12_isFair_40 : decode cX12_isFair 40 = .ok (.iconst 1, 1) := by decide +kernel
theorem dX12_isFair_41 : decode cX12_isFair 41 = .ok (.ireturn, 1) := by decide +kernel
theorem dX12_fair_0 : decode cX12_fair 0 = .ok (.iconst 0, 1) := by decide +kernel
theorem dX12_fair_1 : decode cX12_fair 1 = .ok (.istore_n 1, 1) := by decide +kernel
theorem dX12_fair_2 : decode cX12_fair 2 = .ok (.iconst 0, 1) := by decide +kernel
theorem dX12_fair_3 : decode cX12_fair 3 = .ok (.istore_n 2, 1) := by decide +kernel
theorem dX12_fair_4 : decode cX12_fair 4 = .ok (.iload_n 2, 1) := by decide +kernel
theorem dX12_fair_5 : decode cX12_fair 5 = .ok (.aload_n 0, 1) := by decide +kernel
theorem dX12_fair_6 : decode cX12_fair 6 = .ok (.invokevirtual 515, 3) := by decide +kernel
theorem dX12_fair_9 : decode cX12_fair 9 = .ok (.if_icmp .ge 33, 3) := by decide +kernel
theorem dX12_fair_12 : decode cX12_fair 12 = .ok (.iload_n 1, 1) := by decide +kernel
theorem dX12_fair_13 : decode cX12_fair 13 = .ok (.aload_n 0, 1) := by decide +kernel
theorem dX12_fair_14 : decode cX12_fair 14 = .ok (.iload_n 2, 1) := by decide +kernel
theorem dX12_fair_15 : decode cX12_fair 15 = .ok (.invokevirtual 518, 3) := by decide +kernel
theorem dX12_fair_18 : decode cX12_fair 18 = .ok (.ifCond .eq 15, 3) := by decide +kernel
theorem dX12_fair_21 : decode cX12_fair 21 = .ok (.aload_n 0, 1) := by decide +kernel
theorem dX12_fair_22 : decode cX12_fair 22 = .ok (.iload_n 2, 1) := by decide +kernel
theorem dX12_fair_23 : decode cX12_fair 23 = .ok (.invokevirtual 535, 3) := by decide +kernel
theorem dX12_fair_26 : decode cX12_fair 26 = .ok (.ifCond .eq 7, 3) := by decide +kernel
theorem dX12_fair_29 : decode cX12_fair 29 = .ok (.iconst 1, 1) := by decide +kernel
theorem dX12_fair_30 : decode cX12_fair 30 = .ok (.goto 4, 3) := by decide +kernel
theorem dX12_fair_33 : decode cX12_fair 33 = .ok (.iconst 0, 1) := by decide +kernel
theorem dX12_fair_34 : decode cX12_fair 34 = .ok (.iadd, 1) := by decide +kernel
theorem dX12_fair_35 : decode cX12_fair 35 = .ok (.istore_n 1, 1) := by decide +kernel
theorem dX12_fair_36 : decode cX12_fair 36 = .ok (.iinc 2 1, 3) := by decide +kernel
theorem dX12_fair_39 : decode cX12_fair 39 = .ok (.goto (-35), 3) := by decide +kernel
theorem dX12_fair_42 : decode cX12_fair 42 = .ok (.iload_n 1, 1) := by decide +kernel
theorem dX12_fair_43 : decode cX12_fair 43 = .ok (.ireturn, 1) := by decide +kernel
theorem dX12_layJust_0 : decode cX12_layJust 0 = .ok (.iconst 0, 1) := by decide +kernel
theorem dX12_layJust_1 : decode cX12_layJust 1 = .ok (.istore_n 1, 1) := by decide +kernel
theorem dX12_layJust_2 : decode cX12_layJust 2 = .ok (.iload_n 1, 1) := by decide +kernel
theorem dX12_layJust_3 : decode cX12_layJust 3 = .ok (.aload_n 0, 1) := by decide +kernel
theorem dX12_layJust_4 : decode cX12_layJust 4 = .ok (.invokevirtual 515, 3) := by decide +kernel
theorem dX12_layJust_7 : decode cX12_layJust 7 = .ok (.if_icmp .ge 102, 3) := by decide +kernel
theorem dX12_layJust_10 : decode cX12_layJust 10 = .ok (.aload_n 0, 1) := by decide +kernel
theorem dX12_layJust_11 : decode cX12_layJust 11 = .ok (.getfield 134, 3) := by decide +kernel
theorem dX12_layJust_14 : decode cX12_layJust 14 = .ok (.iload_n 1, 1) := by decide +kernel
theorem dX12_layJust_15 : decode cX12_layJust 15 = .ok (.iconst 0, 1) := by decide +kernel
theorem dX12_layJust_16 : decode cX12_layJust 16 = .ok (.iastore, 1) := by decide +kernel
theorem dX12_layJust_17 : decode cX12_layJust 17 = .ok (.iconst 0, 1) := by decide +kernel
theorem dX12_layJust_18 : decode cX12_layJust 18 = .ok (.istore_n 2, 1) := by decide +kernel
theorem dX12_layJust_19 : decode cX12_layJust 19 = .ok (.iload_n 2, 1) := by decide +kernel
theorem dX12_layJust_20 : decode cX12_layJust 20 = .ok (.aload_n 0, 1) := by decide +kernel
theorem dX12_layJust_21 : decode cX12_layJust 21 = .ok (.getfield 24, 3) := by decide +kernel
theorem dX12_layJust_24 : decode cX12_layJust 24 = .ok (.aload_n 0, 1) := by decide +kernel
theorem dX12_layJust_25 : decode cX12_layJust 25 = .ok (.getfield 295, 3) := by decide +kernel
theorem dX12_layJust_28 : decode cX12_layJust 28 = .ok (.iaload, 1) := by decide +kernel
theorem dX12_layJust_29 : decode cX12_layJust 29 = .ok (.if_icmp .ge 74, 3) := by decide +kernel
theorem dX12_layJust_32 : decode cX12_layJust 32 = .ok (.aload_n 0, 1) := by decide +kernel
theorem dX12_layJust_33 : decode cX12_layJust 33 = .ok (.iload_n 1, 1) := by decide +kernel
theorem dX12_layJust_34 : decode cX12_layJust 34 = .ok (.invokevirtual 518, 3) := by decide +kernel
theorem dX12_layJust_37 : decode cX12_layJust 37 = .ok (.ifCond .eq 66, 3) := by decide +kernel
theorem dX12_layJust_40 : decode cX12_layJust 40 = .ok (.aload_n 0, 1) := by decide +kernel
theorem dX12_layJust_41 : decode cX12_layJust 41 = .ok (.iload_n 1, 1) := by decide +kernel
theorem dX12_layJust_42 : decode cX12_layJust 42 = .ok (.invokevirtual 521, 3) := by decide +kernel
theorem dX12_layJust_45 : decode cX12_layJust 45 = .ok (.aload_n 0, 1) := by decide +kernel
theorem dX12_layJust_46 : decode cX12_layJust 46 = .ok (.getfield 137, 3) := by decide +kernel
theorem dX12_layJust_49 : decode cX12_layJust 49 = .ok (.iconst 0, 1) := by decide +kernel
theorem dX12_layJust_50 : decode cX12_layJust 50 = .ok (.iload_n 2, 1) := by decide +kernel
theorem dX12_layJust_51 : decode cX12_layJust 51 = .ok (.iastore, 1) := by decide +kernel
theorem dX12_layJust_52 : decode cX12_layJust 52 = .ok (.aload_n 0, 1) := by decide +kernel
theorem dX12_layJust_53 : decode cX12_layJust 53 = .ok (.aload_n 0, 1) := by decide +kernel
theorem dX12_layJust_54 : decode cX12_layJust 54 = .ok (.getfield 137, 3) := by decide +kernel
theorem dX12_layJust_57 : decode cX12_layJust 57 = .ok (.iconst 1, 1) := by decide +kernel
theorem dX12_layJust_58 : decode cX12_layJust 58 = .ok (.aload_n 0, 1) := by decide +kernel
theorem dX12_layJust_59 : decode cX12_layJust 59 = .ok (.iload_n 2, 1) := by decide +kernel
theorem dX12_layJust_60 : decode cX12_layJust 60 = .ok (.invokevirtual 445, 3) := by decide +kernel
theorem dX12_layJust_63 : decode cX12_layJust 63 = .ok (.invokevirtual 493, 3) := by decide +kernel
theorem dX12_layJust_66 : decode cX12_layJust 66 = .ok (.aload_n 0, 1) := by decide +kernel
theorem dX12_layJust_67 : decode cX12_layJust 67 = .ok (.getfield 487, 3) := by decide +kernel
theorem dX12_layJust_70 : decode cX12_layJust 70 = .ok (.ifCond .ne 27, 3) := by decide +kernel
theorem dX12_layJust_73 : decode cX12_layJust 73 = .ok (.aload_n 0, 1) := by decide +kernel
theorem dX12_layJust_74 : decode cX12_layJust 74 = .ok (.getfield 490, 3) := by decide +kernel
theorem dX12_layJust_77 : decode cX12_layJust 77 = .ok (.aload_n 0, 1) := by decide +kernel
theorem dX12_layJust_78 : decode cX12_layJust 78 = .ok (.iload_n 2, 1) := by decide +kernel
theorem dX12_layJust_79 : decode cX12_layJust 79 = .ok (.invokevirtual 451, 3) := by decide +kernel
theorem dX12_layJust_82 : decode cX12_layJust 82 = .ok (.if_icmp .ne 15, 3) := by decide +kernel
theorem dX12_layJust_85 : decode cX12_layJust 85 = .ok (.aload_n 0, 1) := by decide +kernel
theorem dX12_layJust_86 : decode cX12_layJust 86 = .ok (.getfield 134, 3) := by decide +kernel
theorem dX12_layJust_89 : decode cX12_layJust 89 = .ok (.iload_n 1, 1) := by decide +kernel
theorem dX12_layJust_90 : decode cX12_layJust 90 = .ok (.dup2, 1) := by decide +kernel
theorem dX12_layJust_91 : decode cX12_layJust 91 = .ok (.iaload, 1) := by decide +kernel
theorem dX12_layJust_92 : decode cX12_layJust 92 = .ok (.iconst 1, 1) := by decide +kernel
theorem dX12_layJust_93 : decode cX12_layJust 93 = .ok (.iload_n 2, 1) := by decide +kernel
theorem dX12_layJust_94 : decode cX12_layJust 94 = .ok (.ishl, 1) := by decide +kernel
theorem dX12_layJust_95 : decode cX12_layJust 95 = .ok (.ior, 1) := by decide +kernel
theorem dX12_layJust_96 : decode cX12_layJust 96 = .ok (.iastore, 1) := by decide +kernel
theorem dX12_layJust_97 : decode cX12_layJust 97 = .ok (.iinc 2 1, 3) := by decide +kernel
theorem dX12_layJust_100 : decode cX12_layJust 100 = .ok (.goto (-81), 3) := by decide +kernel
theorem dX12_layJust_103 : decode cX12_layJust 103 = .ok (.iinc 1 1, 3) := by decide +kernel
theorem dX12_layJust_106 : decode cX12_layJust 106 = .ok (.goto (-104), 3) := by decide +kernel
theorem dX12_layJust_109 : decode cX12_layJust 109 = .ok (.return_, 1) := by decide +kernel
theorem dX12_layCouple_0 : decode cX12_layCouple 0 = .ok (.aload_n 0, 1) := by decide +kernel
theorem dX12_layCouple_1 : decode cX12_layCouple 1 = .ok (.getfield 122, 3) := by decide +kernel
theorem dX12_layCouple_4 : decode cX12_layCouple 4 = .ok (.iload_n 1, 1) := by decide +kernel
theorem dX12_layCouple_5 : decode cX12_layCouple 5 = .ok (.bipush 100, 2) := by decide +kernel
theorem dX12_layCouple_7 : decode cX12_layCouple 7 = .ok (.iload_n 2, 1) := by decide +kernel
theorem dX12_layCouple_8 : decode cX12_layCouple 8 = .ok (.invokestatic 506, 3) := by decide +kernel
theorem dX12_layCouple_11 : decode cX12_layCouple 11 = .ok (.imul, 1) := by decide +kernel
theorem dX12_layCouple_12 : decode cX12_layCouple 12 = .ok (.bipush 10, 2) := by decide +kernel
theorem dX12_layCouple_14 : decode cX12_layCouple 14 = .ok (.iload_n 2, 1) := by decide +kernel
theorem dX12_layCouple_15 : decode cX12_layCouple 15 = .ok (.invokestatic 509, 3) := by decide +kernel
theorem dX12_layCouple_18 : decode cX12_layCouple 18 = .ok (.imul, 1) := by decide +kernel
theorem dX12_layCouple_19 : decode cX12_layCouple 19 = .ok (.iadd, 1) := by decide +kernel
theorem dX12_layCouple_20 : decode cX12_layCouple 20 = .ok (.iload_n 2, 1) := by decide +kernel
theorem dX12_layCouple_21 : decode cX12_layCouple 21 = .ok (.invokestatic 512, 3) := by decide +kernel
theorem dX12_layCouple_24 : decode cX12_layCouple 24 = .ok (.iadd, 1) := by decide +kernel
theorem dX12_layCouple_25 : decode cX12_layCouple 25 = .ok (.iastore, 1) := by decide +kernel
theorem dX12_layCouple_26 : decode cX12_layCouple 26 = .ok (.return_, 1) := by decide +kernel
theorem dX12_cover_0 : decode cX12_cover 0 = .ok (.aload_n 0, 1) := by decide +kernel
theorem dX12_cover_1 : decode cX12_cover 1 = .ok (.iconst 0, 1) := by decide +kernel
theorem dX12_cover_2 : decode cX12_cover 2 = .ok (.putfield 466, 3) := by decide +kernel
theorem dX12_cover_5 : decode cX12_cover 5 = .ok (.iconst 1, 1) := by decide +kernel
theorem dX12_cover_6 : decode cX12_cover 6 = .ok (.aload_n 0, 1) := by decide +kernel
theorem dX12_cover_7 : decode cX12_cover 7 = .ok (.getfield 24, 3) := by decide +kernel
theorem dX12_cover_10 : decode cX12_cover 10 = .ok (.aload_n 0, 1) := by decide +kernel
theorem dX12_cover_11 : decode cX12_cover 11 = .ok (.getfield 295, 3) := by decide +kernel
theorem dX12_cover_14 : decode cX12_cover 14 = .ok (.iaload, 1) := by decide +kernel
theorem dX12_cover_15 : decode cX12_cover 15 = .ok (.ishl, 1) := by decide +kernel
theorem dX12_cover_16 : decode cX12_cover 16 = .ok (.iconst 1, 1) := by decide +kernel
theorem dX12_cover_17 : decode cX12_cover 17 = .ok (.isub, 1) := by decide +kernel
theorem dX12_cover_18 : decode cX12_cover 18 = .ok (.istore_n 1, 1) := by decide +kernel
theorem dX12_cover_19 : decode cX12_cover 19 = .ok (.iload_n 1, 1) := by decide +kernel
theorem dX12_cover_20 : decode cX12_cover 20 = .ok (.ifCond .ne 5, 3) := by decide +kernel
theorem dX12_cover_23 : decode cX12_cover 23 = .ok (.iconst 0, 1) := by decide +kernel
theorem dX12_cover_24 : decode cX12_cover 24 = .ok (.ireturn, 1) := by decide +kernel
theorem dX12_cover_25 : decode cX12_cover 25 = .ok (.aload_n 0, 1) := by decide +kernel
theorem dX12_cover_26 : decode cX12_cover 26 = .ok (.invokevirtual 538, 3) := by decide +kernel
theorem dX12_cover_29 : decode cX12_cover 29 = .ok (.aload_n 0, 1) := by decide +kernel
theorem dX12_cover_30 : decode cX12_cover 30 = .ok (.invokevirtual 515, 3) := by decide +kernel
theorem dX12_cover_33 : decode cX12_cover 33 = .ok (.istore_n 2, 1) := by decide +kernel
theorem dX12_cover_34 : decode cX12_cover 34 = .ok (.iconst 0, 1) := by decide +kernel
theorem dX12_cover_35 : decode cX12_cover 35 = .ok (.istore_n 3, 1) := by decide +kernel
theorem dX12_cover_36 : decode cX12_cover 36 = .ok (.iload_n 3, 1) := by decide +kernel
theorem dX12_cover_37 : decode cX12_cover 37 = .ok (.iload_n 2, 1) := by decide +kernel
theorem dX12_cover_38 : decode cX12_cover 38 = .ok (.if_icmp .ge 35, 3) := by decide +kernel
theorem dX12_cover_41 : decode cX12_cover 41 = .ok (.aload_n 0, 1) := by decide +kernel
theorem dX12_cover_42 : decode cX12_cover 42 = .ok (.getfield 134, 3) := by decide +kernel
theorem dX12_cover_45 : decode cX12_cover 45 = .ok (.iload_n 3, 1) := by decide +kernel
theorem dX12_cover_46 : decode cX12_cover 46 = .ok (.iaload, 1) := by decide +kernel
theorem dX12_cover_47 : decode cX12_cover 47 = .ok (.iload_n 1, 1) := by decide +kernel
theorem dX12_cover_48 : decode cX12_cover 48 = .ok (.if_icmp .eq 6, 3) := by decide +kernel
theorem dX12_cover_51 : decode cX12_cover 51 = .ok (.goto 16, 3) := by decide +kernel
theorem dX12_cover_54 : decode cX12_cover 54 = .ok (.aload_n 0, 1) := by decide +kernel
theorem dX12_cover_55 : decode cX12_cover 55 = .ok (.iconst 0, 1) := by decide +kernel
theorem dX12_cover_56 : decode cX12_cover 56 = .ok (.iload_n 3, 1) := by decide +kernel
theorem dX12_cover_57 : decode cX12_cover 57 = .ok (.invokevirtual 541, 3) := by decide +kernel
theorem dX12_cover_60 : decode cX12_cover 60 = .ok (.aload_n 0, 1) := by decide +kernel
theorem dX12_cover_61 : decode cX12_cover 61 = .ok (.iconst 1, 1) := by decide +kernel
theorem dX12_cover_62 : decode cX12_cover 62 = .ok (.putfield 466, 3) := by decide +kernel
theorem dX12_cover_65 : decode cX12_cover 65 = .ok (.iconst 1, 1) := by decide +kernel
theorem dX12_cover_66 : decode cX12_cover 66 = .ok (.ireturn, 1) := by decide +kernel
theorem dX12_cover_67 : decode cX12_cover 67 = .ok (.iinc 3 1, 3) := by decide +kernel
theorem dX12_cover_70 : decode cX12_cover 70 = .ok (.goto (-34), 3) := by decide +kernel
theorem dX12_cover_73 : decode cX12_cover 73 = .ok (.iconst 0, 1) := by decide +kernel
theorem dX12_cover_74 : decode cX12_cover 74 = .ok (.istore_n 3, 1) := by decide +kernel
theorem dX12_cover_75 : decode cX12_cover 75 = .ok (.iload_n 3, 1) := by decide +kernel
theorem dX12_cover_76 : decode cX12_cover 76 = .ok (.iload_n 2, 1) := by decide +kernel
theorem dX12_cover_77 : decode cX12_cover 77 = .ok (.if_icmp .ge 76, 3) := by decide +kernel
theorem dX12_cover_80 : decode cX12_cover 80 = .ok (.iload_n 3, 1) := by decide +kernel
theorem dX12_cover_81 : decode cX12_cover 81 = .ok (.iconst 1, 1) := by decide +kernel
theorem dX12_cover_82 : decode cX12_cover 82 = .ok (.iadd, 1) := by decide +kernel
theorem dX12_cover_83 : decode cX12_cover 83 = .ok (.istore 4, 2) := by decide +kernel
theorem dX12_cover_85 : decode cX12_cover 85 = .ok (.iload 4, 2) := by decide +kernel
theorem dX12_cover_87 : decode cX12_cover 87 = .ok (.iload_n 2, 1) := by decide +kernel
theorem dX12_cover_88 : decode cX12_cover 88 = .ok (.if_icmp .ge 59, 3) := by decide +kernel
theorem dX12_cover_91 : decode cX12_cover 91 = .ok (.aload_n 0, 1) := by decide +kernel
theorem dX12_cover_92 : decode cX12_cover 92 = .ok (.getfield 134, 3) := by decide +kernel
theorem dX12_cover_95 : decode cX12_cover 95 = .ok (.iload_n 3, 1) := by decide +kernel
theorem dX12_cover_96 : decode cX12_cover 96 = .ok (.iaload, 1) := by decide +kernel
theorem dX12_cover_97 : decode cX12_cover 97 = .ok (.ifCond .le 50, 3) := by decide +kernel
theorem dX12_cover_100 : decode cX12_cover 100 = .ok (.aload_n 0, 1) := by decide +kernel
theorem dX12_cover_101 : decode cX12_cover 101 = .ok (.getfield 134, 3) := by decide +kernel
theorem dX12_cover_104 : decode cX12_cover 104 = .ok (.iload_n 3, 1) := by decide +kernel
theorem dX12_cover_105 : decode cX12_cover 105 = .ok (.iaload, 1) := by decide +kernel
theorem dX12_cover_106 : decode cX12_cover 106 = .ok (.aload_n 0, 1) := by decide +kernel
theorem dX12_cover_107 : decode cX12_cover 107 = .ok (.getfield 134, 3) := by decide +kernel
theorem dX12_cover_110 : decode cX12_cover 110 = .ok (.iload 4, 2) := by decide +kernel
theorem dX12_cover_112 : decode cX12_cover 112 = .ok (.iaload, 1) := by decide +kernel
theorem dX12_cover_113 : decode cX12_cover 113 = .ok (.ior, 1) := by decide +kernel
theorem dX12_cover_114 : decode cX12_cover 114 = .ok (.iload_n 1, 1) := by decide +kernel
theorem dX12_cover_115 : decode cX12_cover 115 = .ok (.if_icmp .eq 6, 3) := by decide +kernel
theorem dX12_cover_118 : decode cX12_cover 118 = .ok (.goto 23, 3) := by decide +kernel
theorem dX12_cover_121 : decode cX12_cover 121 = .ok (.aload_n 0, 1) := by decide +kernel
theorem dX12_cover_122 : decode cX12_cover 122 = .ok (.iconst 0, 1) := by decide +kernel
theorem dX12_cover_123 : decode cX12_cover 123 = .ok (.iload_n 3, 1) := by decide +kernel
theorem dX12_cover_124 : decode cX12_cover 124 = .ok (.invokevirtual 541, 3) := by decide +kernel
theorem dX12_cover_127 : decode cX12_cover 127 = .ok (.aload_n 0, 1) := by decide +kernel
theorem dX12_cover_128 : decode cX12_cover 128 = .ok (.iconst 1, 1) := by decide +kernel
theorem dX12_cover_129 : decode cX12_cover 129 = .ok (.iload 4, 2) := by decide +kernel
theorem dX12_cover_131 : decode cX12_cover 131 = .ok (.invokevirtual 541, 3) := by decide +kernel
theorem dX12_cover_134 : decode cX12_cover 134 = .ok (.aload_n 0, 1) := by decide +kernel
theorem dX12_cover_135 : decode cX12_cover 135 = .ok (.iconst 2, 1) := by decide +kernel
theorem dX12_cover_136 : decode cX12_cover 136 = .ok (.putfield 466, 3) := by decide +kernel
theorem dX12_cover_139 : decode cX12_cover 139 = .ok (.iconst 2, 1) := by decide +kernel
theorem dX12_cover_140 : decode cX12_cover 140 = .ok (.ireturn, 1) := by decide +kernel
theorem dX12_cover_141 : decode cX12_cover 141 = .ok (.iinc 4 1, 3) := by decide +kernel
theorem dX12_cover_144 : decode cX12_cover 144 = .ok (.goto (-59), 3) := by decide +kernel
theorem dX12_cover_147 : decode cX12_cover 147 = .ok (.iinc 3 1, 3) := by decide +kernel
theorem dX12_cover_150 : decode cX12_cover 150 = .ok (.goto (-75), 3) := by decide +kernel
theorem dX12_cover_153 : decode cX12_cover 153 = .ok (.aload_n 0, 1) := by decide +kernel
theorem dX12_cover_154 : decode cX12_cover 154 = .ok (.iload_n 2, 1) := by decide +kernel
theorem dX12_cover_155 : decode cX12_cover 155 = .ok (.iload_n 1, 1) := by decide +kernel
theorem dX12_cover_156 : decode cX12_cover 156 = .ok (.invokevirtual 544, 3) := by decide +kernel
theorem dX12_cover_159 : decode cX12_cover 159 = .ok (.ireturn, 1) := by decide +kernel
theorem dX12_coverByThree_0 : decode cX12_coverByThree 0 = .ok (.iconst 0, 1) := by decide +kernel
theorem dX12_coverByThree_1 : decode cX12_coverByThree 1 = .ok (.istore_n 3, 1) := by decide +kernel
theorem dX12_coverByThree_2 : decode cX12_coverByThree 2 = .ok (.iload_n 3, 1) := by decide +kernel
theorem dX12_coverByThree_3 : decode cX12_coverByThree 3 = .ok (.iload_n 1, 1) := by decide +kernel
theorem dX12_coverByThree_4 : decode cX12_coverByThree 4 = .ok (.if_icmp .ge 119, 3) := by decide +kernel
theorem dX12_coverByThree_7 : decode cX12_coverByThree 7 = .ok (.iload_n 3, 1) := by decide +kernel
theorem dX12_coverByThree_8 : decode cX12_coverByThree 8 = .ok (.iconst 1, 1) := by decide +kernel
theorem dX12_coverByThree_9 : decode cX12_coverByThree 9 = .ok (.iadd, 1) := by decide +kernel
theorem dX12_coverByThree_10 : decode cX12_coverByThree 10 = .ok (.istore 4, 2) := by decide +kernel
theorem dX12_coverByThree_12 : decode cX12_coverByThree 12 = .ok (.iload 4, 2) := by decide +kernel
theorem dX12_coverByThree_14 : decode cX12_coverByThree 14 = .ok (.iload_n 1, 1) := by decide +kernel
theorem dX12_coverByThree_15 : decode cX12_coverByThree 15 = .ok (.if_icmp .ge 102, 3) := by decide +kernel
theorem dX12_coverByThree_18 : decode cX12_coverByThree 18 = .ok (.aload_n 0, 1) := by decide +kernel
theorem dX12_coverByThree_19 : decode cX12_coverByThree 19 = .ok (.getfield 134, 3) := by decide +kernel
theorem dX12_coverByThree_22 : decode cX12_coverByThree 22 = .ok (.iload_n 3, 1) := by decide +kernel
theorem dX12_coverByThree_23 : decode cX12_coverByThree 23 = .ok (.iaload, 1) := by decide +kernel
theorem dX12_coverByThree_24 : decode cX12_coverByThree 24 = .ok (.ifCond .le 93, 3) := by decide +kernel
theorem dX12_coverByThree_27 : decode cX12_coverByThree 27 = .ok (.iload 4, 2) := by decide +kernel
theorem dX12_coverByThree_29 : decode cX12_coverByThree 29 = .ok (.iconst 1, 1) := by decide +kernel
theorem dX12_coverByThree_30 : decode cX12_coverByThree 30 = .ok (.iadd, 1) := by decide +kernel
theorem dX12_coverByThree_31 : decode cX12_coverByThree 31 = .ok (.istore 5, 2) := by decide +kernel
theorem dX12_coverByThree_33 : decode cX12_coverByThree 33 = .ok (.iload 5, 2) := by decide +kernel
theorem dX12_coverByThree_35 : decode cX12_coverByThree 35 = .ok (.iload_n 1, 1) := by decide +kernel
theorem dX12_coverByThree_36 : decode cX12_coverByThree 36 = .ok (.if_icmp .ge 75, 3) := by decide +kernel
theorem dX12_coverByThree_39 : decode cX12_coverByThree 39 = .ok (.aload_n 0, 1) := by decide +kernel
theorem dX12_coverByThree_40 : decode cX12_coverByThree 40 = .ok (.getfield 134, 3) := by decide +kernel
theorem dX12_coverByThree_43 : decode cX12_coverByThree 43 = .ok (.iload 4, 2) := by decide +kernel
theorem dX12_coverByThree_45 : decode cX12_coverByThree 45 = .ok (.iaload, 1) := by decide +kernel
theorem dX12_coverByThree_46 : decode cX12_coverByThree 46 = .ok (.ifCond .le 65, 3) := by decide +kernel
theorem dX12_coverByThree_49 : decode cX12_coverByThree 49 = .ok (.aload_n 0, 1) := by decide +kernel
theorem dX12_coverByThree_50 : decode cX12_coverByThree 50 = .ok (.getfield 134, 3) := by decide +kernel
theorem dX12_coverByThree_53 : decode cX12_coverByThree 53 = .ok (.iload_n 3, 1) := by decide +kernel
theorem dX12_coverByThree_54 : decode cX12_coverByThree 54 = .ok (.iaload, 1) := by decide +kernel
theorem dX12_coverByThree_55 : decode cX12_coverByThree 55 = .ok (.aload_n 0, 1) := by decide +kernel
theorem dX12_coverByThree_56 : decode cX12_coverByThree 56 = .ok (.getfield 134, 3) := by decide +kernel
theorem dX12_coverByThree_59 : decode cX12_coverByThree 59 = .ok (.iload 4, 2) := by decide +kernel
theorem dX12_coverByThree_61 : decode cX12_coverByThree 61 = .ok (.iaload, 1) := by decide +kernel
theorem dX12_coverByThree_62 : decode cX12_coverByThree 62 = .ok (.ior, 1) := by decide +kernel
theorem dX12_coverByThree_63 : decode cX12_coverByThree 63 = .ok (.aload_n 0, 1) := by decide +kernel
theorem dX12_coverByThree_64 : decode cX12_coverByThree 64 = .ok (.getfield 134, 3) := by decide +kernel
theorem dX12_coverByThree_67 : decode cX12_coverByThree 67 = .ok (.iload 5, 2) := by decide +kernel
theorem dX12_coverByThree_69 : decode cX12_coverByThree 69 = .ok (.iaload, 1) := by decide +kernel
theorem dX12_coverByThree_70 : decode cX12_coverByThree 70 = .ok (.ior, 1) := by decide +kernel
theorem dX12_coverByThree_71 : decode cX12_coverByThree 71 = .ok (.iload_n 2, 1) := by decide +kernel
theorem dX12_coverByThree_72 : decode cX12_coverByThree 72 = .ok (.if_icmp .eq 6, 3) := by decide +kernel
theorem dX12_coverByThree_75 : decode cX12_coverByThree 75 = .ok (.goto 30, 3) := by decide +kernel
theorem dX12_coverByThree_78 : decode cX12_coverByThree 78 = .ok (.aload_n 0, 1) := by decide +kernel
theorem dX12_coverByThree_79 : decode cX12_coverByThree 79 = .ok (.iconst 0, 1) := by decide +kernel
theorem dX12_coverByThree_80 : decode cX12_coverByThree 80 = .ok (.iload_n 3, 1) := by decide +kernel
theorem dX12_coverByThree_81 : decode cX12_coverByThree 81 = .ok (.invokevirtual 541, 3) := by decide +kernel
theorem dX12_coverByThree_84 : decode cX12_coverByThree 84 = .ok (.aload_n 0, 1) := by decide +kernel
theorem dX12_coverByThree_85 : decode cX12_coverByThree 85 = .ok (.iconst 1, 1) := by decide +kernel
theorem dX12_coverByThree_86 : decode cX12_coverByThree 86 = .ok (.iload 4, 2) := by decide +kernel
theorem dX12_coverByThree_88 : decode cX12_coverByThree 88 = .ok (.invokevirtual 541, 3) := by decide +kernel
theorem dX12_coverByThree_91 : decode cX12_coverByThree 91 = .ok (.aload_n 0, 1) := by decide +kernel
theorem dX12_coverByThree_92 : decode cX12_coverByThree 92 = .ok (.iconst 2, 1) := by decide +kernel
theorem dX12_coverByThree_93 : decode cX12_coverByThree 93 = .ok (.iload 5, 2) := by decide +kernel
theorem dX12_coverByThree_95 : decode cX12_coverByThree 95 = .ok (.invokevirtual 541, 3) := by decide +kernel
theorem dX12_coverByThree_98 : decode cX12_coverByThree 98 = .ok (.aload_n 0, 1) := by decide +kernel
theorem dX12_coverByThree_99 : decode cX12_coverByThree 99 = .ok (.iconst 3, 1) := by decide +kernel
theorem dX12_coverByThree_100 : decode cX12_coverByThree 100 = .ok (.putfield 466, 3) := by decide +kernel
theorem dX12_coverByThree_103 : decode cX12_coverByThree 103 = .ok (.iconst 3, 1) := by decide +kernel
theorem dX12_coverByThree_104 : decode cX12_coverByThree 104 = .ok (.ireturn, 1) := by decide +kernel
theorem dX12_coverByThree_105 : decode cX12_coverByThree 105 = .ok (.iinc 5 1, 3) := by decide +kernel
theorem dX12_coverByThree_108 : decode cX12_coverByThree 108 = .ok (.goto (-75), 3) := by decide +kernel
theorem dX12_coverByThree_111 : decode cX12_coverByThree 111 = .ok (.iinc 4 1, 3) := by decide +kernel
theorem dX12_coverByThree_114 : decode cX12_coverByThree 114 = .ok (.goto (-102), 3) := by decide +kernel
theorem dX12_coverByThree_117 : decode cX12_coverByThree 117 = .ok (.iinc 3 1, 3) := by decide +kernel
theorem dX12_coverByThree_120 : decode cX12_coverByThree 120 = .ok (.goto (-118), 3) := by decide +kernel
theorem dX12_coverByThree_123 : decode cX12_coverByThree 123 = .ok (.iconst (-1), 1) := by decide +kernel
theorem dX12_coverByThree_124 : decode cX12_coverByThree 124 = .ok (.ireturn, 1) := by decide +kernel
theorem dX12_turned_0 : decode cX12_turned 0 = .ok (.iconst 0, 1) := by decide +kernel
theorem dX12_turned_1 : decode cX12_turned 1 = .ok (.istore_n 1, 1) := by decide +kernel
theorem dX12_turned_2 : decode cX12_turned 2 = .ok (.iconst 0, 1) := by decide +kernel
theorem dX12_turned_3 : decode cX12_turned 3 = .ok (.istore_n 2, 1) := by decide +kernel
theorem dX12_turned_4 : decode cX12_turned 4 = .ok (.iload_n 2, 1) := by decide +kernel
theorem dX12_turned_5 : decode cX12_turned 5 = .ok (.aload_n 0, 1) := by decide +kernel
theorem dX12_turned_6 : decode cX12_turned 6 = .ok (.invokevirtual 404, 3) := by decide +kernel
theorem dX12_turned_9 : decode cX12_turned 9 = .ok (.if_icmp .ge 77, 3) := by decide +kernel
theorem dX12_turned_12 : decode cX12_turned 12 = .ok (.iload_n 2, 1) := by decide +kernel
theorem dX12_turned_13 : decode cX12_turned 13 = .ok (.iconst 1, 1) := by decide +kernel
theorem dX12_turned_14 : decode cX12_turned 14 = .ok (.iadd, 1) := by decide +kernel
theorem dX12_turned_15 : decode cX12_turned 15 = .ok (.istore_n 3, 1) := by decide +kernel
theorem dX12_turned_16 : decode cX12_turned 16 = .ok (.iload_n 3, 1) := by decide +kernel
theorem dX12_turned_17 : decode cX12_turned 17 = .ok (.aload_n 0, 1) := by decide +kernel
theorem dX12_turned_18 : decode cX12_turned 18 = .ok (.invokevirtual 404, 3) := by decide +kernel
theorem dX12_turned_21 : decode cX12_turned 21 = .ok (.if_icmp .ge 59, 3) := by decide +kernel
theorem dX12_turned_24 : decode cX12_turned 24 = .ok (.iconst 0, 1) := by decide +kernel
theorem dX12_turned_25 : decode cX12_turned 25 = .ok (.istore 4, 2) := by decide +kernel
theorem dX12_turned_27 : decode cX12_turned 27 = .ok (.iload 4, 2) := by decide +kernel
theorem dX12_turned_29 : decode cX12_turned 29 = .ok (.aload_n 0, 1) := by decide +kernel
theorem dX12_turned_30 : decode cX12_turned 30 = .ok (.getfield 30, 3) := by decide +kernel
theorem dX12_turned_33 : decode cX12_turned 33 = .ok (.aload_n 0, 1) := by decide +kernel
theorem dX12_turned_34 : decode cX12_turned 34 = .ok (.getfield 295, 3) := by decide +kernel
theorem dX12_turned_37 : decode cX12_turned 37 = .ok (.iaload, 1) := by decide +kernel
theorem dX12_turned_38 : decode cX12_turned 38 = .ok (.if_icmp .ge 36, 3) := by decide +kernel
theorem dX12_turned_41 : decode cX12_turned 41 = .ok (.iload_n 1, 1) := by decide +kernel
theorem dX12_turned_42 : decode cX12_turned 42 = .ok (.aload_n 0, 1) := by decide +kernel
theorem dX12_turned_43 : decode cX12_turned 43 = .ok (.iload_n 2, 1) := by decide +kernel
theorem dX12_turned_44 : decode cX12_turned 44 = .ok (.iload_n 3, 1) := by decide +kernel
theorem dX12_turned_45 : decode cX12_turned 45 = .ok (.iload 4, 2) := by decide +kernel
theorem dX12_turned_47 : decode cX12_turned 47 = .ok (.invokevirtual 439, 3) := by decide +kernel
theorem dX12_turned_50 : decode cX12_turned 50 = .ok (.aload_n 0, 1) := by decide +kernel
theorem dX12_turned_51 : decode cX12_turned 51 = .ok (.iload_n 3, 1) := by decide +kernel
theorem dX12_turned_52 : decode cX12_turned 52 = .ok (.iload_n 2, 1) := by decide +kernel
theorem dX12_turned_53 : decode cX12_turned 53 = .ok (.iload 4, 2) := by decide +kernel
theorem dX12_turned_55 : decode cX12_turned 55 = .ok (.invokevirtual 439, 3) := by decide +kernel
theorem dX12_turned_58 : decode cX12_turned 58 = .ok (.if_icmp .ne 7, 3) := by decide +kernel
theorem dX12_turned_61 : decode cX12_turned 61 = .ok (.iconst 1, 1) := by decide +kernel
theorem dX12_turned_62 : decode cX12_turned 62 = .ok (.goto 4, 3) := by decide +kernel
theorem dX12_turned_65 : decode cX12_turned 65 = .ok (.iconst 0, 1) := by decide +kernel
theorem dX12_turned_66 : decode cX12_turned 66 = .ok (.iadd, 1) := by decide +kernel
theorem dX12_turned_67 : decode cX12_turned 67 = .ok (.istore_n 1, 1) := by decide +kernel
theorem dX12_turned_68 : decode cX12_turned 68 = .ok (.iinc 4 1, 3) := by decide +kernel
theorem dX12_turned_71 : decode cX12_turned 71 = .ok (.goto (-44), 3) := by decide +kernel
theorem dX12_turned_74 : decode cX12_turned 74 = .ok (.iinc 3 1, 3) := by decide +kernel
theorem dX12_turned_77 : decode cX12_turned 77 = .ok (.goto (-61), 3) := by decide +kernel
theorem dX12_turned_80 : decode cX12_turned 80 = .ok (.iinc 2 1, 3) := by decide +kernel
theorem dX12_turned_83 : decode cX12_turned 83 = .ok (.goto (-79), 3) := by decide +kernel
theorem dX12_turned_86 : decode cX12_turned 86 = .ok (.iload_n 1, 1) := by decide +kernel
theorem dX12_turned_87 : decode cX12_turned 87 = .ok (.ireturn, 1) := by decide +kernel
theorem dX12_loud_0 : decode cX12_loud 0 = .ok (.aload_n 0, 1) := by decide +kernel
theorem dX12_loud_1 : decode cX12_loud 1 = .ok (.iload_n 1, 1) := by decide +kernel
theorem dX12_loud_2 : decode cX12_loud 2 = .ok (.iload_n 2, 1) := by decide +kernel
theorem dX12_loud_3 : decode cX12_loud 3 = .ok (.iload_n 3, 1) := by decide +kernel
theorem dX12_loud_4 : decode cX12_loud 4 = .ok (.invokevirtual 436, 3) := by decide +kernel
theorem dX12_loud_7 : decode cX12_loud 7 = .ok (.ifCond .eq 13, 3) := by decide +kernel
theorem dX12_loud_10 : decode cX12_loud 10 = .ok (.iload 4, 2) := by decide +kernel
theorem dX12_loud_12 : decode cX12_loud 12 = .ok (.iconst 0, 1) := by decide +kernel
theorem dX12_loud_13 : decode cX12_loud 13 = .ok (.iconst 1, 1) := by decide +kernel
theorem dX12_loud_14 : decode cX12_loud 14 = .ok (.invokestatic 400, 3) := by decide +kernel
theorem dX12_loud_17 : decode cX12_loud 17 = .ok (.ifCond .ne 6, 3) := by decide +kernel
theorem dX12_loud_20 : decode cX12_loud 20 = .ok (.bipush (-2), 2) := by decide +kernel
theorem dX12_loud_22 : decode cX12_loud 22 = .ok (.ireturn, 1) := by decide +kernel
theorem dX12_loud_23 : decode cX12_loud 23 = .ok (.aload_n 0, 1) := by decide +kernel
theorem dX12_loud_24 : decode cX12_loud 24 = .ok (.aload_n 0, 1) := by decide +kernel
theorem dX12_loud_25 : decode cX12_loud 25 = .ok (.getfield 113, 3) := by decide +kernel
theorem dX12_loud_28 : decode cX12_loud 28 = .ok (.iload_n 1, 1) := by decide +kernel
theorem dX12_loud_29 : decode cX12_loud 29 = .ok (.iload_n 2, 1) := by decide +kernel
theorem dX12_loud_30 : decode cX12_loud 30 = .ok (.iload_n 3, 1) := by decide +kernel
theorem dX12_loud_31 : decode cX12_loud 31 = .ok (.invokevirtual 424, 3) := by decide +kernel
theorem dX12_loud_34 : decode cX12_loud 34 = .ok (.iconst (-1), 1) := by decide +kernel
theorem dX12_loud_35 : decode cX12_loud 35 = .ok (.istore 5, 2) := by decide +kernel
theorem dX12_loud_37 : decode cX12_loud 37 = .ok (.iconst 0, 1) := by decide +kernel
theorem dX12_loud_38 : decode cX12_loud 38 = .ok (.istore 6, 2) := by decide +kernel
theorem dX12_loud_40 : decode cX12_loud 40 = .ok (.aload_n 0, 1) := by decide +kernel
theorem dX12_loud_41 : decode cX12_loud 41 = .ok (.getfield 113, 3) := by decide +kernel
theorem dX12_loud_44 : decode cX12_loud 44 = .ok (.bipush 19, 2) := by decide +kernel
theorem dX12_loud_46 : decode cX12_loud 46 = .ok (.iaload, 1) := by decide +kernel
theorem dX12_loud_47 : decode cX12_loud 47 = .ok (.sipush 200, 3) := by decide +kernel
theorem dX12_loud_50 : decode cX12_loud 50 = .ok (.if_icmp .ge 69, 3) := by decide +kernel
theorem dX12_loud_53 : decode cX12_loud 53 = .ok (.aload_n 0, 1) := by decide +kernel
theorem dX12_loud_54 : decode cX12_loud 54 = .ok (.getfield 113, 3) := by decide +kernel
theorem dX12_loud_57 : decode cX12_loud 57 = .ok (.bipush 19, 2) := by decide +kernel
theorem dX12_loud_59 : decode cX12_loud 59 = .ok (.iaload, 1) := by decide +kernel
theorem dX12_loud_60 : decode cX12_loud 60 = .ok (.ifCond .eq 13, 3) := by decide +kernel
theorem dX12_loud_63 : decode cX12_loud 63 = .ok (.aload_n 0, 1) := by decide +kernel
theorem dX12_loud_64 : decode cX12_loud 64 = .ok (.getfield 113, 3) := by decide +kernel
theorem dX12_loud_67 : decode cX12_loud 67 = .ok (.invokestatic 432, 3) := by decide +kernel
theorem dX12_loud_70 : decode cX12_loud 70 = .ok (.ifCond .ne 49, 3) := by decide +kernel
theorem dX12_loud_73 : decode cX12_loud 73 = .ok (.aload_n 0, 1) := by decide +kernel
theorem dX12_loud_74 : decode cX12_loud 74 = .ok (.aload_n 0, 1) := by decide +kernel
theorem dX12_loud_75 : decode cX12_loud 75 = .ok (.getfield 113, 3) := by decide +kernel
theorem dX12_loud_78 : decode cX12_loud 78 = .ok (.iconst (-1), 1) := by decide +kernel
theorem dX12_loud_79 : decode cX12_loud 79 = .ok (.iconst (-1), 1) := by decide +kernel
theorem dX12_loud_80 : decode cX12_loud 80 = .ok (.invokevirtual 428, 3) := by decide +kernel
theorem dX12_loud_83 : decode cX12_loud 83 = .ok (.aload_n 0, 1) := by decide +kernel
theorem dX12_loud_84 : decode cX12_loud 84 = .ok (.getfield 113, 3) := by decide +kernel
theorem dX12_loud_87 : decode cX12_loud 87 = .ok (.bipush 20, 2) := by decide +kernel
theorem dX12_loud_89 : decode cX12_loud 89 = .ok (.iaload, 1) := by decide +kernel
theorem dX12_loud_90 : decode cX12_loud 90 = .ok (.iload 5, 2) := by decide +kernel
theorem dX12_loud_92 : decode cX12_loud 92 = .ok (.if_icmp .gt 6, 3) := by decide +kernel
theorem dX12_loud_95 : decode cX12_loud 95 = .ok (.goto (-55), 3) := by decide +kernel
theorem dX12_loud_98 : decode cX12_loud 98 = .ok (.aload_n 0, 1) := by decide +kernel
theorem dX12_loud_99 : decode cX12_loud 99 = .ok (.getfield 113, 3) := by decide +kernel
theorem dX12_loud_102 : decode cX12_loud 102 = .ok (.bipush 20, 2) := by decide +kernel
theorem dX12_loud_104 : decode cX12_loud 104 = .ok (.iaload, 1) := by decide +kernel
theorem dX12_loud_105 : decode cX12_loud 105 = .ok (.istore 5, 2) := by decide +kernel
theorem dX12_loud_107 : decode cX12_loud 107 = .ok (.aload_n 0, 1) := by decide +kernel
theorem dX12_loud_108 : decode cX12_loud 108 = .ok (.getfield 113, 3) := by decide +kernel
theorem dX12_loud_111 : decode cX12_loud 111 = .ok (.bipush 19, 2) := by decide +kernel
theorem dX12_loud_113 : decode cX12_loud 113 = .ok (.iaload, 1) := by decide +kernel
theorem dX12_loud_114 : decode cX12_loud 114 = .ok (.istore 6, 2) := by decide +kernel
theorem dX12_loud_116 : decode cX12_loud 116 = .ok (.goto (-76), 3) := by decide +kernel
theorem dX12_loud_119 : decode cX12_loud 119 = .ok (.iload 4, 2) := by decide +kernel
theorem dX12_loud_121 : decode cX12_loud 121 = .ok (.ifCond .ne 8, 3) := by decide +kernel
theorem dX12_loud_124 : decode cX12_loud 124 = .ok (.iload 5, 2) := by decide +kernel
theorem dX12_loud_126 : decode cX12_loud 126 = .ok (.goto 5, 3) := by decide +kernel
theorem dX12_loud_129 : decode cX12_loud 129 = .ok (.iload 6, 2) := by decide +kernel
theorem dX12_loud_131 : decode cX12_loud 131 = .ok (.ireturn, 1) := by decide +kernel
theorem dX12_doesLead_0 : decode cX12_doesLead 0 = .ok (.iload_n 1, 1) := by decide +kernel
theorem dX12_doesLead_1 : decode cX12_doesLead 1 = .ok (.istore 5, 2) := by decide +kernel
theorem dX12_doesLead_3 : decode cX12_doesLead 3 = .ok (.iload_n 2, 1) := by decide +kernel
theorem dX12_doesLead_4 : decode cX12_doesLead 4 = .ok (.iconst 1, 1) := by decide +kernel
theorem dX12_doesLead_5 : decode cX12_doesLead 5 = .ok (.isub, 1) := by decide +kernel
theorem dX12_doesLead_6 : decode cX12_doesLead 6 = .ok (.istore 6, 2) := by decide +kernel
theorem dX12_doesLead_8 : decode cX12_doesLead 8 = .ok (.iload 6, 2) := by decide +kernel
theorem dX12_doesLead_10 : decode cX12_doesLead 10 = .ok (.ifCond .lt 42, 3) := by decide +kernel
theorem dX12_doesLead_13 : decode cX12_doesLead 13 = .ok (.aload_n 0, 1) := by decide +kernel
theorem dX12_doesLead_14 : decode cX12_doesLead 14 = .ok (.getfield 140, 3) := by decide +kernel
theorem dX12_doesLead_17 : decode cX12_doesLead 17 = .ok (.iload 6, 2) := by decide +kernel
theorem dX12_doesLead_19 : decode cX12_doesLead 19 = .ok (.iload 5, 2) := by decide +kernel
theorem dX12_doesLead_21 : decode cX12_doesLead 21 = .ok (.aload_n 0, 1) := by decide +kernel
theorem dX12_doesLead_22 : decode cX12_doesLead 22 = .ok (.getfield 24, 3) := by decide +kernel
theorem dX12_doesLead_25 : decode cX12_doesLead 25 = .ok (.aload_n 0, 1) := by decide +kernel
theorem dX12_doesLead_26 : decode cX12_doesLead 26 = .ok (.getfield 295, 3) := by decide +kernel
theorem dX12_doesLead_29 : decode cX12_doesLead 29 = .ok (.iaload, 1) := by decide +kernel
theorem dX12_doesLead_30 : decode cX12_doesLead 30 = .ok (.irem, 1) := by decide +kernel
theorem dX12_doesLead_31 : decode cX12_doesLead 31 = .ok (.iastore, 1) := by decide +kernel
theorem dX12_doesLead_32 : decode cX12_doesLead 32 = .ok (.iload 5, 2) := by decide +kernel
theorem dX12_doesLead_34 : decode cX12_doesLead 34 = .ok (.aload_n 0, 1) := by decide +kernel
theorem dX12_doesLead_35 : decode cX12_doesLead 35 = .ok (.getfield 24, 3) := by decide +kernel
theorem dX12_doesLead_38 : decode cX12_doesLead 38 = .ok (.aload_n 0, 1) := by decide +kernel
theorem dX12_doesLead_39 : decode cX12_doesLead 39 = .ok (.getfield 295, 3) := by decide +kernel
theorem dX12_doesLead_42 : decode cX12_doesLead 42 = .ok (.iaload, 1) := by decide +kernel
theorem dX12_doesLead_43 : decode cX12_doesLead 43 = .ok (.idiv, 1) := by decide +kernel
theorem dX12_doesLead_44 : decode cX12_doesLead 44 = .ok (.istore 5, 2) := by decide +kernel
theorem dX12_doesLead_46 : decode cX12_doesLead 46 = .ok (.iinc 6 (-1), 3) := by decide +kernel
theorem dX12_doesLead_49 : decode cX12_doesLead 49 = .ok (.goto (-41), 3) := by decide +kernel
theorem dX12_doesLead_52 : decode cX12_doesLead 52 = .ok (.iload_n 3, 1) := by decide +kernel
theorem dX12_doesLead_53 : decode cX12_doesLead 53 = .ok (.istore 6, 2) := by decide +kernel
theorem dX12_doesLead_55 : decode cX12_doesLead 55 = .ok (.iconst 0, 1) := by decide +kernel
theorem dX12_doesLead_56 : decode cX12_doesLead 56 = .ok (.istore 7, 2) := by decide +kernel
theorem dX12_doesLead_58 : decode cX12_doesLead 58 = .ok (.iload 7, 2) := by decide +kernel
theorem dX12_doesLead_60 : decode cX12_doesLead 60 = .ok (.iload_n 2, 1) := by decide +kernel
theorem dX12_doesLead_61 : decode cX12_doesLead 61 = .ok (.if_icmp .ge 29, 3) := by decide +kernel
theorem dX12_doesLead_64 : decode cX12_doesLead 64 = .ok (.iload 6, 2) := by decide +kernel
theorem dX12_doesLead_66 : decode cX12_doesLead 66 = .ok (.ifCond .lt 24, 3) := by decide +kernel
theorem dX12_doesLead_69 : decode cX12_doesLead 69 = .ok (.aload_n 0, 1) := by decide +kernel
theorem dX12_doesLead_70 : decode cX12_doesLead 70 = .ok (.aload_n 0, 1) := by decide +kernel
theorem dX12_doesLead_71 : decode cX12_doesLead 71 = .ok (.getfield 140, 3) := by decide +kernel
theorem dX12_doesLead_74 : decode cX12_doesLead 74 = .ok (.iload 7, 2) := by decide +kernel
theorem dX12_doesLead_76 : decode cX12_doesLead 76 = .ok (.iaload, 1) := by decide +kernel
theorem dX12_doesLead_77 : decode cX12_doesLead 77 = .ok (.iload 6, 2) := by decide +kernel
theorem dX12_doesLead_79 : decode cX12_doesLead 79 = .ok (.invokevirtual 478, 3) := by decide +kernel
theorem dX12_doesLead_82 : decode cX12_doesLead 82 = .ok (.istore 6, 2) := by decide +kernel
theorem dX12_doesLead_84 : decode cX12_doesLead 84 = .ok (.iinc 7 1, 3) := by decide +kernel
theorem dX12_doesLead_87 : decode cX12_doesLead 87 = .ok (.goto (-29), 3) := by decide +kernel
theorem dX12_doesLead_90 : decode cX12_doesLead 90 = .ok (.iload 6, 2) := by decide +kernel
theorem dX12_doesLead_92 : decode cX12_doesLead 92 = .ok (.iload 4, 2) := by decide +kernel
theorem dX12_doesLead_94 : decode cX12_doesLead 94 = .ok (.if_icmp .ne 7, 3) := by decide +kernel
theorem dX12_doesLead_97 : decode cX12_doesLead 97 = .ok (.iconst 1, 1) := by decide +kernel
theorem dX12_doesLead_98 : decode cX12_doesLead 98 = .ok (.goto 4, 3) := by decide +kernel
theorem dX12_doesLead_101 : decode cX12_doesLead 101 = .ok (.iconst 0, 1) := by decide +kernel
theorem dX12_doesLead_102 : decode cX12_doesLead 102 = .ok (.ireturn, 1) := by decide +kernel
theorem dX12_endsJust_0 : decode cX12_endsJust 0 = .ok (.aload_n 0, 1) := by decide +kernel
theorem dX12_endsJust_1 : decode cX12_endsJust 1 = .ok (.iload_n 1, 1) := by decide +kernel
theorem dX12_endsJust_2 : decode cX12_endsJust 2 = .ok (.invokevirtual 521, 3) := by decide +kernel
theorem dX12_endsJust_5 : decode cX12_endsJust 5 = .ok (.aload_n 0, 1) := by decide +kernel
theorem dX12_endsJust_6 : decode cX12_endsJust 6 = .ok (.aload_n 0, 1) := by decide +kernel
theorem dX12_endsJust_7 : decode cX12_endsJust 7 = .ok (.getfield 140, 3) := by decide +kernel
theorem dX12_endsJust_10 : decode cX12_endsJust 10 = .ok (.iload_n 2, 1) := by decide +kernel
theorem dX12_endsJust_11 : decode cX12_endsJust 11 = .ok (.iload_n 3, 1) := by decide +kernel
theorem dX12_endsJust_12 : decode cX12_endsJust 12 = .ok (.invokevirtual 493, 3) := by decide +kernel
theorem dX12_endsJust_15 : decode cX12_endsJust 15 = .ok (.aload_n 0, 1) := by decide +kernel
theorem dX12_endsJust_16 : decode cX12_endsJust 16 = .ok (.getfield 487, 3) := by decide +kernel
theorem dX12_endsJust_19 : decode cX12_endsJust 19 = .ok (.iload_n 2, 1) := by decide +kernel
theorem dX12_endsJust_20 : decode cX12_endsJust 20 = .ok (.iconst 1, 1) := by decide +kernel
theorem dX12_endsJust_21 : decode cX12_endsJust 21 = .ok (.isub, 1) := by decide +kernel
theorem dX12_endsJust_22 : decode cX12_endsJust 22 = .ok (.if_icmp .ne 26, 3) := by decide +kernel
theorem dX12_endsJust_25 : decode cX12_endsJust 25 = .ok (.aload_n 0, 1) := by decide +kernel
theorem dX12_endsJust_26 : decode cX12_endsJust 26 = .ok (.getfield 490, 3) := by decide +kernel
theorem dX12_endsJust_29 : decode cX12_endsJust 29 = .ok (.aload_n 0, 1) := by decide +kernel
theorem dX12_endsJust_30 : decode cX12_endsJust 30 = .ok (.aload_n 0, 1) := by decide +kernel
theorem dX12_endsJust_31 : decode cX12_endsJust 31 = .ok (.getfield 140, 3) := by decide +kernel
theorem dX12_endsJust_34 : decode cX12_endsJust 34 = .ok (.iload_n 2, 1) := by decide +kernel
theorem dX12_endsJust_35 : decode cX12_endsJust 35 = .ok (.iconst 1, 1) := by decide +kernel
theorem dX12_endsJust_36 : decode cX12_endsJust 36 = .ok (.isub, 1) := by decide +kernel
theorem dX12_endsJust_37 : decode cX12_endsJust 37 = .ok (.iaload, 1) := by decide +kernel
theorem dX12_endsJust_38 : decode cX12_endsJust 38 = .ok (.invokevirtual 451, 3) := by decide +kernel
theorem dX12_endsJust_41 : decode cX12_endsJust 41 = .ok (.if_icmp .ne 7, 3) := by decide +kernel
theorem dX12_endsJust_44 : decode cX12_endsJust 44 = .ok (.iconst 1, 1) := by decide +kernel
theorem dX12_endsJust_45 : decode cX12_endsJust 45 = .ok (.goto 4, 3) := by decide +kernel
theorem dX12_endsJust_48 : decode cX12_endsJust 48 = .ok (.iconst 0, 1) := by decide +kernel
theorem dX12_endsJust_49 : decode cX12_endsJust 49 = .ok (.ireturn, 1) := by decide +kernel
theorem dX12_home_0 : decode cX12_home 0 = .ok (.aload_n 0, 1) := by decide +kernel
theorem dX12_home_1 : decode cX12_home 1 = .ok (.iconst 0, 1) := by decide +kernel
theorem dX12_home_2 : decode cX12_home 2 = .ok (.putfield 466, 3) := by decide +kernel
theorem dX12_home_5 : decode cX12_home 5 = .ok (.aload_n 0, 1) := by decide +kernel
theorem dX12_home_6 : decode cX12_home 6 = .ok (.iload_n 1, 1) := by decide +kernel
theorem dX12_home_7 : decode cX12_home 7 = .ok (.iload_n 2, 1) := by decide +kernel
theorem dX12_home_8 : decode cX12_home 8 = .ok (.iload_n 3, 1) := by decide +kernel
theorem dX12_home_9 : decode cX12_home 9 = .ok (.invokevirtual 436, 3) := by decide +kernel
theorem dX12_home_12 : decode cX12_home 12 = .ok (.ifCond .eq 31, 3) := by decide +kernel
theorem dX12_home_15 : decode cX12_home 15 = .ok (.aload_n 0, 1) := by decide +kernel
theorem dX12_home_16 : decode cX12_home 16 = .ok (.iload 4, 2) := by decide +kernel
theorem dX12_home_18 : decode cX12_home 18 = .ok (.invokevirtual 469, 3) := by decide +kernel
theorem dX12_home_21 : decode cX12_home 21 = .ok (.ifCond .eq 22, 3) := by decide +kernel
theorem dX12_home_24 : decode cX12_home 24 = .ok (.aload_n 0, 1) := by decide +kernel
theorem dX12_home_25 : decode cX12_home 25 = .ok (.iload 5, 2) := by decide +kernel
theorem dX12_home_27 : decode cX12_home 27 = .ok (.invokevirtual 469, 3) := by decide +kernel
theorem dX12_home_30 : decode cX12_home 30 = .ok (.ifCond .eq 13, 3) := by decide +kernel
theorem dX12_home_33 : decode cX12_home 33 = .ok (.iload 6, 2) := by decide +kernel
theorem dX12_home_35 : decode cX12_home 35 = .ok (.iconst 1, 1) := by decide +kernel
theorem dX12_home_36 : decode cX12_home 36 = .ok (.iconst 4, 1) := by decide +kernel
theorem dX12_home_37 : decode cX12_home 37 = .ok (.invokestatic 400, 3) := by decide +kernel
theorem dX12_home_40 : decode cX12_home 40 = .ok (.ifCond .ne 5, 3) := by decide +kernel
theorem dX12_home_43 : decode cX12_home 43 = .ok (.iconst (-1), 1) := by decide +kernel
theorem dX12_home_44 : decode cX12_home 44 = .ok (.ireturn, 1) := by decide +kernel
theorem dX12_home_45 : decode cX12_home 45 = .ok (.bipush 6, 2) := by decide +kernel
theorem dX12_home_47 : decode cX12_home 47 = .ok (.iload_n 1, 1) := by decide +kernel
theorem dX12_home_48 : decode cX12_home 48 = .ok (.imul, 1) := by decide +kernel
theorem dX12_home_49 : decode cX12_home 49 = .ok (.iload_n 2, 1) := by decide +kernel
theorem dX12_home_50 : decode cX12_home 50 = .ok (.iadd, 1) := by decide +kernel
theorem dX12_home_51 : decode cX12_home 51 = .ok (.bipush 6, 2) := by decide +kernel
theorem dX12_home_53 : decode cX12_home 53 = .ok (.imul, 1) := by decide +kernel
theorem dX12_home_54 : decode cX12_home 54 = .ok (.iload_n 3, 1) := by decide +kernel
theorem dX12_home_55 : decode cX12_home 55 = .ok (.iadd, 1) := by decide +kernel
theorem dX12_home_56 : decode cX12_home 56 = .ok (.istore 7, 2) := by decide +kernel
theorem dX12_home_58 : decode cX12_home 58 = .ok (.iconst 0, 1) := by decide +kernel
theorem dX12_home_59 : decode cX12_home 59 = .ok (.istore 8, 2) := by decide +kernel
theorem dX12_home_61 : decode cX12_home 61 = .ok (.iconst 1, 1) := by decide +kernel
theorem dX12_home_62 : decode cX12_home 62 = .ok (.istore 9, 2) := by decide +kernel
theorem dX12_home_64 : decode cX12_home 64 = .ok (.iconst 1, 1) := by decide +kernel
theorem dX12_home_65 : decode cX12_home 65 = .ok (.istore 10, 2) := by decide +kernel
theorem dX12_home_67 : decode cX12_home 67 = .ok (.iload 10, 2) := by decide +kernel
theorem dX12_home_69 : decode cX12_home 69 = .ok (.iload 6, 2) := by decide +kernel
theorem dX12_home_71 : decode cX12_home 71 = .ok (.if_icmp .gt 118, 3) := by decide +kernel
theorem dX12_home_74 : decode cX12_home 74 = .ok (.iload 9, 2) := by decide +kernel
theorem dX12_home_76 : decode cX12_home 76 = .ok (.aload_n 0, 1) := by decide +kernel
theorem dX12_home_77 : decode cX12_home 77 = .ok (.getfield 24, 3) := by decide +kernel
theorem dX12_home_80 : decode cX12_home 80 = .ok (.aload_n 0, 1) := by decide +kernel
theorem dX12_home_81 : decode cX12_home 81 = .ok (.getfield 295, 3) := by decide +kernel
theorem dX12_home_84 : decode cX12_home 84 = .ok (.iaload, 1) := by decide +kernel
theorem dX12_home_85 : decode cX12_home 85 = .ok (.imul, 1) := by decide +kernel
theorem dX12_home_86 : decode cX12_home 86 = .ok (.istore 9, 2) := by decide +kernel
theorem dX12_home_88 : decode cX12_home 88 = .ok (.iconst 0, 1) := by decide +kernel
theorem dX12_home_89 : decode cX12_home 89 = .ok (.istore 11, 2) := by decide +kernel
theorem dX12_home_91 : decode cX12_home 91 = .ok (.iload 11, 2) := by decide +kernel
theorem dX12_home_93 : decode cX12_home 93 = .ok (.iload 9, 2) := by decide +kernel
theorem dX12_home_95 : decode cX12_home 95 = .ok (.if_icmp .ge 88, 3) := by decide +kernel
theorem dX12_home_98 : decode cX12_home 98 = .ok (.aload_n 0, 1) := by decide +kernel
theorem dX12_home_99 : decode cX12_home 99 = .ok (.iload 11, 2) := by decide +kernel
theorem dX12_home_101 : decode cX12_home 101 = .ok (.iload 10, 2) := by decide +kernel
theorem dX12_home_103 : decode cX12_home 103 = .ok (.iload 4, 2) := by decide +kernel
theorem dX12_home_105 : decode cX12_home 105 = .ok (.iload 5, 2) := by decide +kernel
theorem dX12_home_107 : decode cX12_home 107 = .ok (.invokevirtual 547, 3) := by decide +kernel
theorem dX12_home_110 : decode cX12_home 110 = .ok (.ifCond .eq 67, 3) := by decide +kernel
theorem dX12_home_113 : decode cX12_home 113 = .ok (.aload_n 0, 1) := by decide +kernel
theorem dX12_home_114 : decode cX12_home 114 = .ok (.iload 7, 2) := by decide +kernel
theorem dX12_home_116 : decode cX12_home 116 = .ok (.iload 10, 2) := by decide +kernel
theorem dX12_home_118 : decode cX12_home 118 = .ok (.iload 4, 2) := by decide +kernel
theorem dX12_home_120 : decode cX12_home 120 = .ok (.invokevirtual 551, 3) := by decide +kernel
theorem dX12_home_123 : decode cX12_home 123 = .ok (.ifCond .ne 6, 3) := by decide +kernel
theorem dX12_home_126 : decode cX12_home 126 = .ok (.goto 51, 3) := by decide +kernel
theorem dX12_home_129 : decode cX12_home 129 = .ok (.iinc 8 1, 3) := by decide +kernel
theorem dX12_home_132 : decode cX12_home 132 = .ok (.iload 8, 2) := by decide +kernel
theorem dX12_home_134 : decode cX12_home 134 = .ok (.iconst 1, 1) := by decide +kernel
theorem dX12_home_135 : decode cX12_home 135 = .ok (.if_icmp .le 6, 3) := by decide +kernel
theorem dX12_home_138 : decode cX12_home 138 = .ok (.goto 39, 3) := by decide +kernel
theorem dX12_home_141 : decode cX12_home 141 = .ok (.iconst 0, 1) := by decide +kernel
theorem dX12_home_142 : decode cX12_home 142 = .ok (.istore 12, 2) := by decide +kernel
theorem dX12_home_144 : decode cX12_home 144 = .ok (.iload 12, 2) := by decide +kernel
theorem dX12_home_146 : decode cX12_home 146 = .ok (.iload 10, 2) := by decide +kernel
theorem dX12_home_148 : decode cX12_home 148 = .ok (.if_icmp .ge 23, 3) := by decide +kernel
theorem dX12_home_151 : decode cX12_home 151 = .ok (.aload_n 0, 1) := by decide +kernel
theorem dX12_home_152 : decode cX12_home 152 = .ok (.getfield 122, 3) := by decide +kernel
theorem dX12_home_155 : decode cX12_home 155 = .ok (.iload 12, 2) := by decide +kernel
theorem dX12_home_157 : decode cX12_home 157 = .ok (.aload_n 0, 1) := by decide +kernel
theorem dX12_home_158 : decode cX12_home 158 = .ok (.getfield 140, 3) := by decide +kernel
theorem dX12_home_161 : decode cX12_home 161 = .ok (.iload 12, 2) := by decide +kernel
theorem dX12_home_163 : decode cX12_home 163 = .ok (.iaload, 1) := by decide +kernel
theorem dX12_home_164 : decode cX12_home 164 = .ok (.iastore, 1) := by decide +kernel
theorem dX12_home_165 : decode cX12_home 165 = .ok (.iinc 12 1, 3) := by decide +kernel
theorem dX12_home_168 : decode cX12_home 168 = .ok (.goto (-24), 3) := by decide +kernel
theorem dX12_home_171 : decode cX12_home 171 = .ok (.aload_n 0, 1) := by decide +kernel
theorem dX12_home_172 : decode cX12_home 172 = .ok (.iload 10, 2) := by decide +kernel
theorem dX12_home_174 : decode cX12_home 174 = .ok (.putfield 466, 3) := by decide +kernel
theorem dX12_home_177 : decode cX12_home 177 = .ok (.iinc 11 1, 3) := by decide +kernel
theorem dX12_home_180 : decode cX12_home 180 = .ok (.goto (-89), 3) := by decide +kernel
theorem dX12_home_183 : decode cX12_home 183 = .ok (.iinc 10 1, 3) := by decide +kernel
theorem dX12_home_186 : decode cX12_home 186 = .ok (.goto (-119), 3) := by decide +kernel
theorem dX12_home_189 : decode cX12_home 189 = .ok (.iload 8, 2) := by decide +kernel
theorem dX12_home_191 : decode cX12_home 191 = .ok (.ireturn, 1) := by decide +kernel
theorem dX12_layTempers_0 : decode cX12_layTempers 0 = .ok (.aload_n 0, 1) := by decide +kernel
theorem dX12_layTempers_1 : decode cX12_layTempers 1 = .ok (.getfield 110, 3) := by decide +kernel
theorem dX12_layTempers_4 : decode cX12_layTempers 4 = .ok (.iconst 1, 1) := by decide +kernel
theorem dX12_layTempers_5 : decode cX12_layTempers 5 = .ok (.iconst 2, 1) := by decide +kernel
theorem dX12_layTempers_6 : decode cX12_layTempers 6 = .ok (.iload_n 1, 1) := by decide +kernel
theorem dX12_layTempers_7 : decode cX12_layTempers 7 = .ok (.imul, 1) := by decide +kernel
theorem dX12_layTempers_8 : decode cX12_layTempers 8 = .ok (.iadd, 1) := by decide +kernel
theorem dX12_layTempers_9 : decode cX12_layTempers 9 = .ok (.aload_n 3, 1) := by decide +kernel
theorem dX12_layTempers_10 : decode cX12_layTempers 10 = .ok (.iconst 0, 1) := by decide +kernel
theorem dX12_layTempers_11 : decode cX12_layTempers 11 = .ok (.iaload, 1) := by decide +kernel
theorem dX12_layTempers_12 : decode cX12_layTempers 12 = .ok (.iastore, 1) := by decide +kernel
theorem dX12_layTempers_13 : decode cX12_layTempers 13 = .ok (.aload_n 0, 1) := by decide +kernel
theorem dX12_layTempers_14 : decode cX12_layTempers 14 = .ok (.getfield 110, 3) := by decide +kernel
theorem dX12_layTempers_17 : decode cX12_layTempers 17 = .ok (.iconst 1, 1) := by decide +kernel
theorem dX12_layTempers_18 : decode cX12_layTempers 18 = .ok (.iconst 2, 1) := by decide +kernel
theorem dX12_layTempers_19 : decode cX12_layTempers 19 = .ok (.iload_n 1, 1) := by decide +kernel
theorem dX12_layTempers_20 : decode cX12_layTempers 20 = .ok (.imul, 1) := by decide +kernel
theorem dX12_layTempers_21 : decode cX12_layTempers 21 = .ok (.iadd, 1) := by decide +kernel
theorem dX12_layTempers_22 : decode cX12_layTempers 22 = .ok (.iconst 1, 1) := by decide +kernel
theorem dX12_layTempers_23 : decode cX12_layTempers 23 = .ok (.iadd, 1) := by decide +kernel
theorem dX12_layTempers_24 : decode cX12_layTempers 24 = .ok (.aload_n 3, 1) := by decide +kernel
theorem dX12_layTempers_25 : decode cX12_layTempers 25 = .ok (.iconst 1, 1) := by decide +kernel
theorem dX12_layTempers_26 : decode cX12_layTempers 26 = .ok (.iaload, 1) := by decide +kernel
theorem dX12_layTempers_27 : decode cX12_layTempers 27 = .ok (.iastore, 1) := by decide +kernel
theorem dX12_layTempers_28 : decode cX12_layTempers 28 = .ok (.aload_n 0, 1) := by decide +kernel
theorem dX12_layTempers_29 : decode cX12_layTempers 29 = .ok (.getfield 110, 3) := by decide +kernel
theorem dX12_layTempers_32 : decode cX12_layTempers 32 = .ok (.iconst 1, 1) := by decide +kernel
theorem dX12_layTempers_33 : decode cX12_layTempers 33 = .ok (.iconst 2, 1) := by decide +kernel
theorem dX12_layTempers_34 : decode cX12_layTempers 34 = .ok (.iload_n 2, 1) := by decide +kernel
theorem dX12_layTempers_35 : decode cX12_layTempers 35 = .ok (.imul, 1) := by decide +kernel
theorem dX12_layTempers_36 : decode cX12_layTempers 36 = .ok (.iadd, 1) := by decide +kernel
theorem dX12_layTempers_37 : decode cX12_layTempers 37 = .ok (.aload_n 3, 1) := by decide +kernel
theorem dX12_layTempers_38 : decode cX12_layTempers 38 = .ok (.iconst 2, 1) := by decide +kernel
theorem dX12_layTempers_39 : decode cX12_layTempers 39 = .ok (.iaload, 1) := by decide +kernel
theorem dX12_layTempers_40 : decode cX12_layTempers 40 = .ok (.iastore, 1) := by decide +kernel
theorem dX12_layTempers_41 : decode cX12_layTempers 41 = .ok (.aload_n 0, 1) := by decide +kernel
theorem dX12_layTempers_42 : decode cX12_layTempers 42 = .ok (.getfield 110, 3) := by decide +kernel
theorem dX12_layTempers_45 : decode cX12_layTempers 45 = .ok (.iconst 1, 1) := by decide +kernel
theorem dX12_layTempers_46 : decode cX12_layTempers 46 = .ok (.iconst 2, 1) := by decide +kernel
theorem dX12_layTempers_47 : decode cX12_layTempers 47 = .ok (.iload_n 2, 1) := by decide +kernel
theorem dX12_layTempers_48 : decode cX12_layTempers 48 = .ok (.imul, 1) := by decide +kernel
theorem dX12_layTempers_49 : decode cX12_layTempers 49 = .ok (.iadd, 1) := by decide +kernel
theorem dX12_layTempers_50 : decode cX12_layTempers 50 = .ok (.iconst 1, 1) := by decide +kernel
theorem dX12_layTempers_51 : decode cX12_layTempers 51 = .ok (.iadd, 1) := by decide +kernel
theorem dX12_layTempers_52 : decode cX12_layTempers 52 = .ok (.aload_n 3, 1) := by decide +kernel
theorem dX12_layTempers_53 : decode cX12_layTempers 53 = .ok (.iconst 3, 1) := by decide +kernel
theorem dX12_layTempers_54 : decode cX12_layTempers 54 = .ok (.iaload, 1) := by decide +kernel
theorem dX12_layTempers_55 : decode cX12_layTempers 55 = .ok (.iastore, 1) := by decide +kernel
theorem dX12_layTempers_56 : decode cX12_layTempers 56 = .ok (.return_, 1) := by decide +kernel
theorem dX12_apart_0 : decode cX12_apart 0 = .ok (.iload_n 0, 1) := by decide +kernel
theorem dX12_apart_1 : decode cX12_apart 1 = .ok (.iload_n 1, 1) := by decide +kernel
theorem dX12_apart_2 : decode cX12_apart 2 = .ok (.if_icmp .ge 9, 3) := by decide +kernel
theorem dX12_apart_5 : decode cX12_apart 5 = .ok (.iload_n 1, 1) := by decide +kernel
theorem dX12_apart_6 : decode cX12_apart 6 = .ok (.iload_n 0, 1) := by decide +kernel
theorem dX12_apart_7 : decode cX12_apart 7 = .ok (.isub, 1) := by decide +kernel
theorem dX12_apart_8 : decode cX12_apart 8 = .ok (.goto 6, 3) := by decide +kernel
theorem dX12_apart_11 : decode cX12_apart 11 = .ok (.iload_n 0, 1) := by decide +kernel
theorem dX12_apart_12 : decode cX12_apart 12 = .ok (.iload_n 1, 1) := by decide +kernel
theorem dX12_apart_13 : decode cX12_apart 13 = .ok (.isub, 1) := by decide +kernel
theorem dX12_apart_14 : decode cX12_apart 14 = .ok (.ireturn, 1) := by decide +kernel
theorem dX12_changes_0 : decode cX12_changes 0 = .ok (.iconst (-1), 1) := by decide +kernel
theorem dX12_changes_1 : decode cX12_changes 1 = .ok (.istore 5, 2) := by decide +kernel
theorem dX12_changes_3 : decode cX12_changes 3 = .ok (.iconst 0, 1) := by decide +kernel
theorem dX12_changes_4 : decode cX12_changes 4 = .ok (.istore 6, 2) := by decide +kernel
theorem dX12_changes_6 : decode cX12_changes 6 = .ok (.iload 6, 2) := by decide +kernel
theorem dX12_changes_8 : decode cX12_changes 8 = .ok (.sipush 10000, 3) := by decide +kernel
theorem dX12_changes_11 : decode cX12_changes 11 = .ok (.if_icmp .ge 144, 3) := by decide +kernel
theorem dX12_changes_14 : decode cX12_changes 14 = .ok (.iload 6, 2) := by decide +kernel
theorem dX12_changes_16 : decode cX12_changes 16 = .ok (.istore 7, 2) := by decide +kernel
theorem dX12_changes_18 : decode cX12_changes 18 = .ok (.iconst 0, 1) := by decide +kernel
theorem dX12_changes_19 : decode cX12_changes 19 = .ok (.istore 8, 2) := by decide +kernel
theorem dX12_changes_21 : decode cX12_changes 21 = .ok (.iconst 3, 1) := by decide +kernel
theorem dX12_changes_22 : decode cX12_changes 22 = .ok (.istore 9, 2) := by decide +kernel
theorem dX12_changes_24 : decode cX12_changes 24 = .ok (.iload 9, 2) := by decide +kernel
theorem dX12_changes_26 : decode cX12_changes 26 = .ok (.ifCond .lt 50, 3) := by decide +kernel
theorem dX12_changes_29 : decode cX12_changes 29 = .ok (.aload_n 0, 1) := by decide +kernel
theorem dX12_changes_30 : decode cX12_changes 30 = .ok (.getfield 149, 3) := by decide +kernel
theorem dX12_changes_33 : decode cX12_changes 33 = .ok (.iload 9, 2) := by decide +kernel
theorem dX12_changes_35 : decode cX12_changes 35 = .ok (.iload 7, 2) := by decide +kernel
theorem dX12_changes_37 : decode cX12_changes 37 = .ok (.bipush 10, 2) := by decide +kernel
theorem dX12_changes_39 : decode cX12_changes 39 = .ok (.irem, 1) := by decide +kernel
theorem dX12_changes_40 : decode cX12_changes 40 = .ok (.iastore, 1) := by decide +kernel
theorem dX12_changes_41 : decode cX12_changes 41 = .ok (.iload 7, 2) := by decide +kernel
theorem dX12_changes_43 : decode cX12_changes 43 = .ok (.bipush 10, 2) := by decide +kernel
theorem dX12_changes_45 : decode cX12_changes 45 = .ok (.idiv, 1) := by decide +kernel
theorem dX12_changes_46 : decode cX12_changes 46 = .ok (.istore 7, 2) := by decide +kernel
theorem dX12_changes_48 : decode cX12_changes 48 = .ok (.iload 8, 2) := by decide +kernel
theorem dX12_changes_50 : decode cX12_changes 50 = .ok (.aload_n 0, 1) := by decide +kernel
theorem dX12_changes_51 : decode cX12_changes 51 = .ok (.getfield 149, 3) := by decide +kernel
theorem dX12_changes_54 : decode cX12_changes 54 = .ok (.iload 9, 2) := by decide +kernel
theorem dX12_changes_56 : decode cX12_changes 56 = .ok (.iaload, 1) := by decide +kernel
theorem dX12_changes_57 : decode cX12_changes 57 = .ok (.aload_n 0, 1) := by decide +kernel
theorem dX12_changes_58 : decode cX12_changes 58 = .ok (.getfield 143, 3) := by decide +kernel
theorem dX12_changes_61 : decode cX12_changes 61 = .ok (.iload 9, 2) := by decide +kernel
theorem dX12_changes_63 : decode cX12_changes 63 = .ok (.iaload, 1) := by decide +kernel
theorem dX12_changes_64 : decode cX12_changes 64 = .ok (.invokestatic 554, 3) := by decide +kernel
theorem dX12_changes_67 : decode cX12_changes 67 = .ok (.iadd, 1) := by decide +kernel
theorem dX12_changes_68 : decode cX12_changes 68 = .ok (.istore 8, 2) := by decide +kernel
theorem dX12_changes_70 : decode cX12_changes 70 = .ok (.iinc 9 (-1), 3) := by decide +kernel
theorem dX12_changes_73 : decode cX12_changes 73 = .ok (.goto (-49), 3) := by decide +kernel
theorem dX12_changes_76 : decode cX12_changes 76 = .ok (.iload 5, 2) := by decide +kernel
theorem dX12_changes_78 : decode cX12_changes 78 = .ok (.ifCond .lt 13, 3) := by decide +kernel
theorem dX12_changes_81 : decode cX12_changes 81 = .ok (.iload 8, 2) := by decide +kernel
theorem dX12_changes_83 : decode cX12_changes 83 = .ok (.iload 5, 2) := by decide +kernel
theorem dX12_changes_85 : decode cX12_changes 85 = .ok (.if_icmp .lt 6, 3) := by decide +kernel
theorem dX12_changes_88 : decode cX12_changes 88 = .ok (.goto 61, 3) := by decide +kernel
theorem dX12_changes_91 : decode cX12_changes 91 = .ok (.aload_n 0, 1) := by decide +kernel
theorem dX12_changes_92 : decode cX12_changes 92 = .ok (.iload_n 1, 1) := by decide +kernel
theorem dX12_changes_93 : decode cX12_changes 93 = .ok (.iload_n 2, 1) := by decide +kernel
theorem dX12_changes_94 : decode cX12_changes 94 = .ok (.aload_n 0, 1) := by decide +kernel
theorem dX12_changes_95 : decode cX12_changes 95 = .ok (.getfield 149, 3) := by decide +kernel
theorem dX12_changes_98 : decode cX12_changes 98 = .ok (.invokevirtual 557, 3) := by decide +kernel
theorem dX12_changes_101 : decode cX12_changes 101 = .ok (.aload_n 0, 1) := by decide +kernel
theorem dX12_changes_102 : decode cX12_changes 102 = .ok (.iload_n 1, 1) := by decide +kernel
theorem dX12_changes_103 : decode cX12_changes 103 = .ok (.iload_n 2, 1) := by decide +kernel
theorem dX12_changes_104 : decode cX12_changes 104 = .ok (.iload_n 3, 1) := by decide +kernel
theorem dX12_changes_105 : decode cX12_changes 105 = .ok (.invokevirtual 439, 3) := by decide +kernel
theorem dX12_changes_108 : decode cX12_changes 108 = .ok (.iload 4, 2) := by decide +kernel
theorem dX12_changes_110 : decode cX12_changes 110 = .ok (.if_icmp .eq 6, 3) := by decide +kernel
theorem dX12_changes_113 : decode cX12_changes 113 = .ok (.goto 36, 3) := by decide +kernel
theorem dX12_changes_116 : decode cX12_changes 116 = .ok (.iload 8, 2) := by decide +kernel
theorem dX12_changes_118 : decode cX12_changes 118 = .ok (.istore 5, 2) := by decide +kernel
theorem dX12_changes_120 : decode cX12_changes 120 = .ok (.iconst 0, 1) := by decide +kernel
theorem dX12_changes_121 : decode cX12_changes 121 = .ok (.istore 9, 2) := by decide +kernel
theorem dX12_changes_123 : decode cX12_changes 123 = .ok (.iload 9, 2) := by decide +kernel
theorem dX12_changes_125 : decode cX12_changes 125 = .ok (.iconst 4, 1) := by decide +kernel
theorem dX12_changes_126 : decode cX12_changes 126 = .ok (.if_icmp .ge 23, 3) := by decide +kernel
theorem dX12_changes_129 : decode cX12_changes 129 = .ok (.aload_n 0, 1) := by decide +kernel
theorem dX12_changes_130 : decode cX12_changes 130 = .ok (.getfield 146, 3) := by decide +kernel
theorem dX12_changes_133 : decode cX12_changes 133 = .ok (.iload 9, 2) := by decide +kernel
theorem dX12_changes_135 : decode cX12_changes 135 = .ok (.aload_n 0, 1) := by decide +kernel
theorem dX12_changes_136 : decode cX12_changes 136 = .ok (.getfield 149, 3) := by decide +kernel
theorem dX12_changes_139 : decode cX12_changes 139 = .ok (.iload 9, 2) := by decide +kernel
theorem dX12_changes_141 : decode cX12_changes 141 = .ok (.iaload, 1) := by decide +kernel
theorem dX12_changes_142 : decode cX12_changes 142 = .ok (.iastore, 1) := by decide +kernel
theorem dX12_changes_143 : decode cX12_changes 143 = .ok (.iinc 9 1, 3) := by decide +kernel
theorem dX12_changes_146 : decode cX12_changes 146 = .ok (.goto (-23), 3) := by decide +kernel
theorem dX12_changes_149 : decode cX12_changes 149 = .ok (.iinc 6 1, 3) := by decide +kernel
theorem dX12_changes_152 : decode cX12_changes 152 = .ok (.goto (-146), 3) := by decide +kernel
theorem dX12_changes_155 : decode cX12_changes 155 = .ok (.iload 5, 2) := by decide +kernel
theorem dX12_changes_157 : decode cX12_changes 157 = .ok (.ireturn, 1) := by decide +kernel
theorem dX12_temper_0 : decode cX12_temper 0 = .ok (.aload_n 0, 1) := by decide +kernel
theorem dX12_temper_1 : decode cX12_temper 1 = .ok (.iconst 0, 1) := by decide +kernel
theorem dX12_temper_2 : decode cX12_temper 2 = .ok (.putfield 466, 3) := by decide +kernel
theorem dX12_temper_5 : decode cX12_temper 5 = .ok (.aload_n 0, 1) := by decide +kernel
theorem dX12_temper_6 : decode cX12_temper 6 = .ok (.iload_n 1, 1) := by decide +kernel
theorem dX12_temper_7 : decode cX12_temper 7 = .ok (.iload_n 2, 1) := by decide +kernel
theorem dX12_temper_8 : decode cX12_temper 8 = .ok (.iload_n 3, 1) := by decide +kernel
theorem dX12_temper_9 : decode cX12_temper 9 = .ok (.invokevirtual 436, 3) := by decide +kernel
theorem dX12_temper_12 : decode cX12_temper 12 = .ok (.ifCond .eq 14, 3) := by decide +kernel
theorem dX12_temper_15 : decode cX12_temper 15 = .ok (.iload 4, 2) := by decide +kernel
theorem dX12_temper_17 : decode cX12_temper 17 = .ok (.iconst 1, 1) := by decide +kernel
theorem dX12_temper_18 : decode cX12_temper 18 = .ok (.bipush 60, 2) := by decide +kernel
theorem dX12_temper_20 : decode cX12_temper 20 = .ok (.invokestatic 400, 3) := by decide +kernel
theorem dX12_temper_23 : decode cX12_temper 23 = .ok (.ifCond .ne 6, 3) := by decide +kernel
theorem dX12_temper_26 : decode cX12_temper 26 = .ok (.bipush (-2), 2) := by decide +kernel
theorem dX12_temper_28 : decode cX12_temper 28 = .ok (.ireturn, 1) := by decide +kernel
theorem dX12_temper_29 : decode cX12_temper 29 = .ok (.aload_n 0, 1) := by decide +kernel
theorem dX12_temper_30 : decode cX12_temper 30 = .ok (.getfield 143, 3) := by decide +kernel
theorem dX12_temper_33 : decode cX12_temper 33 = .ok (.iconst 0, 1) := by decide +kernel
theorem dX12_temper_34 : decode cX12_temper 34 = .ok (.aload_n 0, 1) := by decide +kernel
theorem dX12_temper_35 : decode cX12_temper 35 = .ok (.getfield 110, 3) := by decide +kernel
theorem dX12_temper_38 : decode cX12_temper 38 = .ok (.iconst 1, 1) := by decide +kernel
theorem dX12_temper_39 : decode cX12_temper 39 = .ok (.iconst 2, 1) := by decide +kernel
theorem dX12_temper_40 : decode cX12_temper 40 = .ok (.iload_n 1, 1) := by decide +kernel
theorem dX12_temper_41 : decode cX12_temper 41 = .ok (.imul, 1) := by decide +kernel
theorem dX12_temper_42 : decode cX12_temper 42 = .ok (.iadd, 1) := by decide +kernel
theorem dX12_temper_43 : decode cX12_temper 43 = .ok (.iaload, 1) := by decide +kernel
theorem dX12_temper_44 : decode cX12_temper 44 = .ok (.iastore, 1) := by decide +kernel
theorem dX12_temper_45 : decode cX12_temper 45 = .ok (.aload_n 0, 1) := by decide +kernel
theorem dX12_temper_46 : decode cX12_temper 46 = .ok (.getfield 143, 3) := by decide +kernel
theorem dX12_temper_49 : decode cX12_temper 49 = .ok (.iconst 1, 1) := by decide +kernel
theorem dX12_temper_50 : decode cX12_temper 50 = .ok (.aload_n 0, 1) := by decide +kernel
theorem dX12_temper_51 : decode cX12_temper 51 = .ok (.getfield 110, 3) := by decide +kernel
theorem dX12_temper_54 : decode cX12_temper 54 = .ok (.iconst 1, 1) := by decide +kernel
theorem dX12_temper_55 : decode cX12_temper 55 = .ok (.iconst 2, 1) := by decide +kernel
theorem dX12_temper_56 : decode cX12_temper 56 = .ok (.iload_n 1, 1) := by decide +kernel
theorem dX12_temper_57 : decode cX12_temper 57 = .ok (.imul, 1) := by decide +kernel
theorem dX12_temper_58 : decode cX12_temper 58 = .ok (.iadd, 1) := by decide +kernel
theorem dX12_temper_59 : decode cX12_temper 59 = .ok (.iconst 1, 1) := by decide +kernel
theorem dX12_temper_60 : decode cX12_temper 60 = .ok (.iadd, 1) := by decide +kernel
theorem dX12_temper_61 : decode cX12_temper 61 = .ok (.iaload, 1) := by decide +kernel
theorem dX12_temper_62 : decode cX12_temper 62 = .ok (.iastore, 1) := by decide +kernel
theorem dX12_temper_63 : decode cX12_temper 63 = .ok (.aload_n 0, 1) := by decide +kernel
theorem dX12_temper_64 : decode cX12_temper 64 = .ok (.getfield 143, 3) := by decide +kernel
theorem dX12_temper_67 : decode cX12_temper 67 = .ok (.iconst 2, 1) := by decide +kernel
theorem dX12_temper_68 : decode cX12_temper 68 = .ok (.aload_n 0, 1) := by decide +kernel
theorem dX12_temper_69 : decode cX12_temper 69 = .ok (.getfield 110, 3) := by decide +kernel
theorem dX12_temper_72 : decode cX12_temper 72 = .ok (.iconst 1, 1) := by decide +kernel
theorem dX12_temper_73 : decode cX12_temper 73 = .ok (.iconst 2, 1) := by decide +kernel
theorem dX12_temper_74 : decode cX12_temper 74 = .ok (.iload_n 2, 1) := by decide +kernel
theorem dX12_temper_75 : decode cX12_temper 75 = .ok (.imul, 1) := by decide +kernel
theorem dX12_temper_76 : decode cX12_temper 76 = .ok (.iadd, 1) := by decide +kernel
theorem dX12_temper_77 : decode cX12_temper 77 = .ok (.iaload, 1) := by decide +kernel
theorem dX12_temper_78 : decode cX12_temper 78 = .ok (.iastore, 1) := by decide +kernel
theorem dX12_temper_79 : decode cX12_temper 79 = .ok (.aload_n 0, 1) := by decide +kernel
theorem dX12_temper_80 : decode cX12_temper 80 = .ok (.getfield 143, 3) := by decide +kernel
theorem dX12_temper_83 : decode cX12_temper 83 = .ok (.iconst 3, 1) := by decide +kernel
theorem dX12_temper_84 : decode cX12_temper 84 = .ok (.aload_n 0, 1) := by decide +kernel
theorem dX12_temper_85 : decode cX12_temper 85 = .ok (.getfield 110, 3) := by decide +kernel
theorem dX12_temper_88 : decode cX12_temper 88 = .ok (.iconst 1, 1) := by decide +kernel
theorem dX12_temper_89 : decode cX12_temper 89 = .ok (.iconst 2, 1) := by decide +kernel
theorem dX12_temper_90 : decode cX12_temper 90 = .ok (.iload_n 2, 1) := by decide +kernel
theorem dX12_temper_91 : decode cX12_temper 91 = .ok (.imul, 1) := by decide +kernel
theorem dX12_temper_92 : decode cX12_temper 92 = .ok (.iadd, 1) := by decide +kernel
theorem dX12_temper_93 : decode cX12_temper 93 = .ok (.iconst 1, 1) := by decide +kernel
theorem dX12_temper_94 : decode cX12_temper 94 = .ok (.iadd, 1) := by decide +kernel
theorem dX12_temper_95 : decode cX12_temper 95 = .ok (.iaload, 1) := by decide +kernel
theorem dX12_temper_96 : decode cX12_temper 96 = .ok (.iastore, 1) := by decide +kernel
theorem dX12_temper_97 : decode cX12_temper 97 = .ok (.aload_n 0, 1) := by decide +kernel
theorem dX12_temper_98 : decode cX12_temper 98 = .ok (.iload_n 1, 1) := by decide +kernel
theorem dX12_temper_99 : decode cX12_temper 99 = .ok (.iload_n 2, 1) := by decide +kernel
theorem dX12_temper_100 : decode cX12_temper 100 = .ok (.iload_n 3, 1) := by decide +kernel
theorem dX12_temper_101 : decode cX12_temper 101 = .ok (.iload 4, 2) := by decide +kernel
theorem dX12_temper_103 : decode cX12_temper 103 = .ok (.invokevirtual 561, 3) := by decide +kernel
theorem dX12_temper_106 : decode cX12_temper 106 = .ok (.istore 5, 2) := by decide +kernel
theorem dX12_temper_108 : decode cX12_temper 108 = .ok (.aload_n 0, 1) := by decide +kernel
theorem dX12_temper_109 : decode cX12_temper 109 = .ok (.iload_n 1, 1) := by decide +kernel
theorem dX12_temper_110 : decode cX12_temper 110 = .ok (.iload_n 2, 1) := by decide +kernel
theorem dX12_temper_111 : decode cX12_temper 111 = .ok (.aload_n 0, 1) := by decide +kernel
theorem dX12_temper_112 : decode cX12_temper 112 = .ok (.getfield 143, 3) := by decide +kernel
theorem dX12_temper_115 : decode cX12_temper 115 = .ok (.invokevirtual 557, 3) := by decide +kernel
theorem dX12_temper_118 : decode cX12_temper 118 = .ok (.iload 5, 2) := by decide +kernel
theorem dX12_temper_120 : decode cX12_temper 120 = .ok (.ifCond .ge 5, 3) := by decide +kernel
theorem dX12_temper_123 : decode cX12_temper 123 = .ok (.iconst (-1), 1) := by decide +kernel
theorem dX12_temper_124 : decode cX12_temper 124 = .ok (.ireturn, 1) := by decide +kernel
theorem dX12_temper_125 : decode cX12_temper 125 = .ok (.iconst 0, 1) := by decide +kernel
theorem dX12_temper_126 : decode cX12_temper 126 = .ok (.istore 6, 2) := by decide +kernel
theorem dX12_temper_128 : decode cX12_temper 128 = .ok (.iload 6, 2) := by decide +kernel
theorem dX12_temper_130 : decode cX12_temper 130 = .ok (.iconst 4, 1) := by decide +kernel
theorem dX12_temper_131 : decode cX12_temper 131 = .ok (.if_icmp .ge 23, 3) := by decide +kernel
theorem dX12_temper_134 : decode cX12_temper 134 = .ok (.aload_n 0, 1) := by decide +kernel
theorem dX12_temper_135 : decode cX12_temper 135 = .ok (.getfield 122, 3) := by decide +kernel
theorem dX12_temper_138 : decode cX12_temper 138 = .ok (.iload 6, 2) := by decide +kernel
theorem dX12_temper_140 : decode cX12_temper 140 = .ok (.aload_n 0, 1) := by decide +kernel
theorem dX12_temper_141 : decode cX12_temper 141 = .ok (.getfield 146, 3) := by decide +kernel
theorem dX12_temper_144 : decode cX12_temper 144 = .ok (.iload 6, 2) := by decide +kernel
theorem dX12_temper_146 : decode cX12_temper 146 = .ok (.iaload, 1) := by decide +kernel
theorem dX12_temper_147 : decode cX12_temper 147 = .ok (.iastore, 1) := by decide +kernel
theorem dX12_temper_148 : decode cX12_temper 148 = .ok (.iinc 6 1, 3) := by decide +kernel
theorem dX12_temper_151 : decode cX12_temper 151 = .ok (.goto (-23), 3) := by decide +kernel
theorem dX12_temper_154 : decode cX12_temper 154 = .ok (.aload_n 0, 1) := by decide +kernel
theorem dX12_temper_155 : decode cX12_temper 155 = .ok (.iconst 4, 1) := by decide +kernel
theorem dX12_temper_156 : decode cX12_temper 156 = .ok (.putfield 466, 3) := by decide +kernel
theorem dX12_temper_159 : decode cX12_temper 159 = .ok (.iload 5, 2) := by decide +kernel
theorem dX12_temper_161 : decode cX12_temper 161 = .ok (.ireturn, 1) := by decide +kernel
theorem dX12_toldLength_0 : decode cX12_toldLength 0 = .ok (.aload_n 0, 1) := by decide +kernel
theorem dX12_toldLength_1 : decode cX12_toldLength 1 = .ok (.iconst 1, 1) := by decide +kernel
theorem dX12_toldLength_2 : decode cX12_toldLength 2 = .ok (.putfield 407, 3) := by decide +kernel
theorem dX12_toldLength_5 : decode cX12_toldLength 5 = .ok (.aload_n 0, 1) := by decide +kernel
theorem dX12_toldLength_6 : decode cX12_toldLength 6 = .ok (.iload_n 1, 1) := by decide +kernel
theorem dX12_toldLength_7 : decode cX12_toldLength 7 = .ok (.iload_n 2, 1) := by decide +kernel
theorem dX12_toldLength_8 : decode cX12_toldLength 8 = .ok (.iload_n 3, 1) := by decide +kernel
theorem dX12_toldLength_9 : decode cX12_toldLength 9 = .ok (.invokevirtual 439, 3) := by decide +kernel
theorem dX12_toldLength_12 : decode cX12_toldLength 12 = .ok (.istore 4, 2) := by decide +kernel
theorem dX12_toldLength_14 : decode cX12_toldLength 14 = .ok (.aload_n 0, 1) := by decide +kernel
theorem dX12_toldLength_15 : decode cX12_toldLength 15 = .ok (.iconst 0, 1) := by decide +kernel
theorem dX12_toldLength_16 : decode cX12_toldLength 16 = .ok (.putfield 407, 3) := by decide +kernel
theorem dX12_toldLength_19 : decode cX12_toldLength 19 = .ok (.iload 4, 2) := by decide +kernel
theorem dX12_toldLength_21 : decode cX12_toldLength 21 = .ok (.ireturn, 1) := by decide +kernel
theorem dX12_report_0 : decode cX12_report 0 = .ok (.aload_n 0, 1) := by decide +kernel
theorem dX12_report_1 : decode cX12_report 1 = .ok (.iload_n 1, 1) := by decide +kernel
theorem dX12_report_2 : decode cX12_report 2 = .ok (.iload_n 2, 1) := by decide +kernel
theorem dX12_report_3 : decode cX12_report 3 = .ok (.iload_n 3, 1) := by decide +kernel
theorem dX12_report_4 : decode cX12_report 4 = .ok (.invokevirtual 436, 3) := by decide +kernel
theorem dX12_report_7 : decode cX12_report 7 = .ok (.ifCond .eq 22, 3) := by decide +kernel
theorem dX12_report_10 : decode cX12_report 10 = .ok (.iload 4, 2) := by decide +kernel
theorem dX12_report_12 : decode cX12_report 12 = .ok (.iconst 0, 1) := by decide +kernel
theorem dX12_report_13 : decode cX12_report 13 = .ok (.iconst 2, 1) := by decide +kernel
theorem dX12_report_14 : decode cX12_report 14 = .ok (.invokestatic 400, 3) := by decide +kernel
theorem dX12_report_17 : decode cX12_report 17 = .ok (.ifCond .eq 12, 3) := by decide +kernel
theorem dX12_report_20 : decode cX12_report 20 = .ok (.aload_n 0, 1) := by decide +kernel
theorem dX12_report_21 : decode cX12_report 21 = .ok (.getfield 463, 3) := by decide +kernel
theorem dX12_report_24 : decode cX12_report 24 = .ok (.bipush 30, 2) := by decide +kernel
theorem dX12_report_26 : decode cX12_report 26 = .ok (.if_icmp .ne 5, 3) := by decide +kernel
theorem dX12_report_29 : decode cX12_report 29 = .ok (.iconst (-1), 1) := by decide +kernel
theorem dX12_report_30 : decode cX12_report 30 = .ok (.ireturn, 1) := by decide +kernel
theorem dX12_report_31 : decode cX12_report 31 = .ok (.aload_n 0, 1) := by decide +kernel
theorem dX12_report_32 : decode cX12_report 32 = .ok (.getfield 152, 3) := by decide +kernel
theorem dX12_report_35 : decode cX12_report 35 = .ok (.aload_n 0, 1) := by decide +kernel
theorem dX12_report_36 : decode cX12_report 36 = .ok (.getfield 463, 3) := by decide +kernel
theorem dX12_report_39 : decode cX12_report 39 = .ok (.aload_n 0, 1) := by decide +kernel
theorem dX12_report_40 : decode cX12_report 40 = .ok (.iload_n 1, 1) := by decide +kernel
theorem dX12_report_41 : decode cX12_report 41 = .ok (.iload_n 2, 1) := by decide +kernel
theorem dX12_report_42 : decode cX12_report 42 = .ok (.iload_n 3, 1) := by decide +kernel
theorem dX12_report_43 : decode cX12_report 43 = .ok (.invokevirtual 565, 3) := by decide +kernel
theorem dX12_report_46 : decode cX12_report 46 = .ok (.iastore, 1) := by decide +kernel
theorem dX12_report_47 : decode cX12_report 47 = .ok (.aload_n 0, 1) := by decide +kernel
theorem dX12_report_48 : decode cX12_report 48 = .ok (.getfield 155, 3) := by decide +kernel
theorem dX12_report_51 : decode cX12_report 51 = .ok (.aload_n 0, 1) := by decide +kernel
theorem dX12_report_52 : decode cX12_report 52 = .ok (.getfield 463, 3) := by decide +kernel
theorem dX12_report_55 : decode cX12_report 55 = .ok (.iload 4, 2) := by decide +kernel
theorem dX12_report_57 : decode cX12_report 57 = .ok (.iastore, 1) := by decide +kernel
theorem dX12_report_58 : decode cX12_report 58 = .ok (.aload_n 0, 1) := by decide +kernel
theorem dX12_report_59 : decode cX12_report 59 = .ok (.getfield 158, 3) := by decide +kernel
theorem dX12_report_62 : decode cX12_report 62 = .ok (.aload_n 0, 1) := by decide +kernel
theorem dX12_report_63 : decode cX12_report 63 = .ok (.getfield 463, 3) := by decide +kernel
theorem dX12_report_66 : decode cX12_report 66 = .ok (.aload_n 0, 1) := by decide +kernel
theorem dX12_report_67 : decode cX12_report 67 = .ok (.getfield 568, 3) := by decide +kernel
theorem dX12_report_70 : decode cX12_report 70 = .ok (.iastore, 1) := by decide +kernel
theorem dX12_report_71 : decode cX12_report 71 = .ok (.aload_n 0, 1) := by decide +kernel
theorem dX12_report_72 : decode cX12_report 72 = .ok (.getfield 161, 3) := by decide +kernel
theorem dX12_report_75 : decode cX12_report 75 = .ok (.aload_n 0, 1) := by decide +kernel
theorem dX12_report_76 : decode cX12_report 76 = .ok (.getfield 463, 3) := by decide +kernel
theorem dX12_report_79 : decode cX12_report 79 = .ok (.iconst (-1), 1) := by decide +kernel
theorem dX12_report_80 : decode cX12_report 80 = .ok (.iastore, 1) := by decide +kernel
theorem dX12_report_81 : decode cX12_report 81 = .ok (.aload_n 0, 1) := by decide +kernel
theorem dX12_report_82 : decode cX12_report 82 = .ok (.dup, 1) := by decide +kernel
theorem dX12_report_83 : decode cX12_report 83 = .ok (.getfield 463, 3) := by decide +kernel
theorem dX12_report_86 : decode cX12_report 86 = .ok (.iconst 1, 1) := by decide +kernel
theorem dX12_report_87 : decode cX12_report 87 = .ok (.iadd, 1) := by decide +kernel
theorem dX12_report_88 : decode cX12_report 88 = .ok (.putfield 463, 3) := by decide +kernel
theorem dX12_report_91 : decode cX12_report 91 = .ok (.aload_n 0, 1) := by decide +kernel
theorem dX12_report_92 : decode cX12_report 92 = .ok (.getfield 463, 3) := by decide +kernel
theorem dX12_report_95 : decode cX12_report 95 = .ok (.iconst 1, 1) := by decide +kernel
theorem dX12_report_96 : decode cX12_report 96 = .ok (.isub, 1) := by decide +kernel
theorem dX12_report_97 : decode cX12_report 97 = .ok (.ireturn, 1) := by decide +kernel
theorem dX12_untell_0 : decode cX12_untell 0 = .ok (.iload_n 1, 1) := by decide +kernel
theorem dX12_untell_1 : decode cX12_untell 1 = .ok (.iconst 0, 1) := by decide +kernel
theorem dX12_untell_2 : decode cX12_untell 2 = .ok (.aload_n 0, 1) := by decide +kernel
theorem dX12_untell_3 : decode cX12_untell 3 = .ok (.getfield 463, 3) := by decide +kernel
theorem dX12_untell_6 : decode cX12_untell 6 = .ok (.iconst 1, 1) := by decide +kernel
theorem dX12_untell_7 : decode cX12_untell 7 = .ok (.isub, 1) := by decide +kernel
theorem dX12_untell_8 : decode cX12_untell 8 = .ok (.invokestatic 400, 3) := by decide +kernel
theorem dX12_untell_11 : decode cX12_untell 11 = .ok (.ifCond .eq 12, 3) := by decide +kernel
theorem dX12_untell_14 : decode cX12_untell 14 = .ok (.aload_n 0, 1) := by decide +kernel
theorem dX12_untell_15 : decode cX12_untell 15 = .ok (.getfield 161, 3) := by decide +kernel
theorem dX12_untell_18 : decode cX12_untell 18 = .ok (.iload_n 1, 1) := by decide +kernel
theorem dX12_untell_19 : decode cX12_untell 19 = .ok (.iaload, 1) := by decide +kernel
theorem dX12_untell_20 : decode cX12_untell 20 = .ok (.ifCond .lt 5, 3) := by decide +kernel
theorem dX12_untell_23 : decode cX12_untell 23 = .ok (.iconst 0, 1) := by decide +kernel
theorem dX12_untell_24 : decode cX12_untell 24 = .ok (.ireturn, 1) := by decide +kernel
theorem dX12_untell_25 : decode cX12_untell 25 = .ok (.aload_n 0, 1) := by decide +kernel
theorem dX12_untell_26 : decode cX12_untell 26 = .ok (.getfield 161, 3) := by decide +kernel
theorem dX12_untell_29 : decode cX12_untell 29 = .ok (.iload_n 1, 1) := by decide +kernel
theorem dX12_untell_30 : decode cX12_untell 30 = .ok (.aload_n 0, 1) := by decide +kernel
theorem dX12_untell_31 : decode cX12_untell 31 = .ok (.getfield 568, 3) := by decide +kernel
theorem dX12_untell_34 : decode cX12_untell 34 = .ok (.iastore, 1) := by decide +kernel
theorem dX12_untell_35 : decode cX12_untell 35 = .ok (.iconst 1, 1) := by decide +kernel
theorem dX12_untell_36 : decode cX12_untell 36 = .ok (.ireturn, 1) := by decide +kernel
theorem dX12_later_0 : decode cX12_later 0 = .ok (.iload_n 1, 1) := by decide +kernel
theorem dX12_later_1 : decode cX12_later 1 = .ok (.iconst 0, 1) := by decide +kernel
theorem dX12_later_2 : decode cX12_later 2 = .ok (.sipush 1000, 3) := by decide +kernel
theorem dX12_later_5 : decode cX12_later 5 = .ok (.invokestatic 400, 3) := by decide +kernel
theorem dX12_later_8 : decode cX12_later 8 = .ok (.ifCond .eq 15, 3) := by decide +kernel
theorem dX12_later_11 : decode cX12_later 11 = .ok (.aload_n 0, 1) := by decide +kernel
theorem dX12_later_12 : decode cX12_later 12 = .ok (.getfield 568, 3) := by decide +kernel
theorem dX12_later_15 : decode cX12_later 15 = .ok (.iload_n 1, 1) := by decide +kernel
theorem dX12_later_16 : decode cX12_later 16 = .ok (.iadd, 1) := by decide +kernel
theorem dX12_later_17 : decode cX12_later 17 = .ok (.ldc_w 571, 3) := by decide +kernel
theorem dX12_later_20 : decode cX12_later 20 = .ok (.if_icmp .le 5, 3) := by decide +kernel
theorem dX12_later_23 : decode cX12_later 23 = .ok (.iconst (-1), 1) := by decide +kernel
theorem dX12_later_24 : decode cX12_later 24 = .ok (.ireturn, 1) := by decide +kernel
theorem dX12_later_25 : decode cX12_later 25 = .ok (.aload_n 0, 1) := by decide +kernel
theorem dX12_later_26 : decode cX12_later 26 = .ok (.dup, 1) := by decide +kernel
theorem dX12_later_27 : decode cX12_later 27 = .ok (.getfield 568, 3) := by decide +kernel
theorem dX12_later_30 : decode cX12_later 30 = .ok (.iload_n 1, 1) := by decide +kernel
theorem dX12_later_31 : decode cX12_later 31 = .ok (.iadd, 1) := by decide +kernel
theorem dX12_later_32 : decode cX12_later 32 = .ok (.putfield 568, 3) := by decide +kernel
theorem dX12_later_35 : decode cX12_later 35 = .ok (.aload_n 0, 1) := by decide +kernel
theorem dX12_later_36 : decode cX12_later 36 = .ok (.getfield 568, 3) := by decide +kernel
theorem dX12_later_39 : decode cX12_later 39 = .ok (.ireturn, 1) := by decide +kernel
theorem dX12_reported_0 : decode cX12_reported 0 = .ok (.iload_n 0, 1) := by decide +kernel
theorem dX12_reported_1 : decode cX12_reported 1 = .ok (.ifCond .lt 8, 3) := by decide +kernel
theorem dX12_reported_4 : decode cX12_reported 4 = .ok (.iload_n 0, 1) := by decide +kernel
theorem dX12_reported_5 : decode cX12_reported 5 = .ok (.iload_n 1, 1) := by decide +kernel
theorem dX12_reported_6 : decode cX12_reported 6 = .ok (.if_icmp .le 7, 3) := by decide +kernel
theorem dX12_reported_9 : decode cX12_reported 9 = .ok (.iconst 2, 1) := by decide +kernel
theorem dX12_reported_10 : decode cX12_reported 10 = .ok (.goto 13, 3) := by decide +kernel
theorem dX12_reported_13 : decode cX12_reported 13 = .ok (.iload_n 0, 1) := by decide +kernel
theorem dX12_reported_14 : decode cX12_reported 14 = .ok (.iload_n 1, 1) := by decide +kernel
theorem dX12_reported_15 : decode cX12_reported 15 = .ok (.if_icmp .ne 7, 3) := by decide +kernel
theorem dX12_reported_18 : decode cX12_reported 18 = .ok (.iconst 1, 1) := by decide +kernel
theorem dX12_reported_19 : decode cX12_reported 19 = .ok (.goto 4, 3) := by decide +kernel
theorem dX12_reported_22 : decode cX12_reported 22 = .ok (.iconst 0, 1) := by decide +kernel
theorem dX12_reported_23 : decode cX12_reported 23 = .ok (.ireturn, 1) := by decide +kernel
theorem dX12_isSo_0 : decode cX12_isSo 0 = .ok (.iconst 0, 1) := by decide +kernel
theorem dX12_isSo_1 : decode cX12_isSo 1 = .ok (.istore_n 3, 1) := by decide +kernel
theorem dX12_isSo_2 : decode cX12_isSo 2 = .ok (.iload_n 3, 1) := by decide +kernel
theorem dX12_isSo_3 : decode cX12_isSo 3 = .ok (.aload_n 0, 1) := by decide +kernel
theorem dX12_isSo_4 : decode cX12_isSo 4 = .ok (.getfield 463, 3) := by decide +kernel
theorem dX12_isSo_7 : decode cX12_isSo 7 = .ok (.if_icmp .ge 59, 3) := by decide +kernel
theorem dX12_isSo_10 : decode cX12_isSo 10 = .ok (.aload_n 0, 1) := by decide +kernel
theorem dX12_isSo_11 : decode cX12_isSo 11 = .ok (.getfield 158, 3) := by decide +kernel
theorem dX12_isSo_14 : decode cX12_isSo 14 = .ok (.iload_n 3, 1) := by decide +kernel
theorem dX12_isSo_15 : decode cX12_isSo 15 = .ok (.iaload, 1) := by decide +kernel
theorem dX12_isSo_16 : decode cX12_isSo 16 = .ok (.iload_n 2, 1) := by decide +kernel
theorem dX12_isSo_17 : decode cX12_isSo 17 = .ok (.if_icmp .gt 43, 3) := by decide +kernel
theorem dX12_isSo_20 : decode cX12_isSo 20 = .ok (.aload_n 0, 1) := by decide +kernel
theorem dX12_isSo_21 : decode cX12_isSo 21 = .ok (.getfield 161, 3) := by decide +kernel
theorem dX12_isSo_24 : decode cX12_isSo 24 = .ok (.iload_n 3, 1) := by decide +kernel
theorem dX12_isSo_25 : decode cX12_isSo 25 = .ok (.iaload, 1) := by decide +kernel
theorem dX12_isSo_26 : decode cX12_isSo 26 = .ok (.ifCond .lt 13, 3) := by decide +kernel
theorem dX12_isSo_29 : decode cX12_isSo 29 = .ok (.aload_n 0, 1) := by decide +kernel
theorem dX12_isSo_30 : decode cX12_isSo 30 = .ok (.getfield 161, 3) := by decide +kernel
theorem dX12_isSo_33 : decode cX12_isSo 33 = .ok (.iload_n 3, 1) := by decide +kernel
theorem dX12_isSo_34 : decode cX12_isSo 34 = .ok (.iaload, 1) := by decide +kernel
theorem dX12_isSo_35 : decode cX12_isSo 35 = .ok (.iload_n 2, 1) := by decide +kernel
theorem dX12_isSo_36 : decode cX12_isSo 36 = .ok (.if_icmp .le 24, 3) := by decide +kernel
theorem dX12_isSo_39 : decode cX12_isSo 39 = .ok (.aload_n 0, 1) := by decide +kernel
theorem dX12_isSo_40 : decode cX12_isSo 40 = .ok (.getfield 152, 3) := by decide +kernel
theorem dX12_isSo_43 : decode cX12_isSo 43 = .ok (.iload_n 3, 1) := by decide +kernel
theorem dX12_isSo_44 : decode cX12_isSo 44 = .ok (.iaload, 1) := by decide +kernel
theorem dX12_isSo_45 : decode cX12_isSo 45 = .ok (.iload_n 1, 1) := by decide +kernel
theorem dX12_isSo_46 : decode cX12_isSo 46 = .ok (.invokestatic 572, 3) := by decide +kernel
theorem dX12_isSo_49 : decode cX12_isSo 49 = .ok (.aload_n 0, 1) := by decide +kernel
theorem dX12_isSo_50 : decode cX12_isSo 50 = .ok (.getfield 155, 3) := by decide +kernel
theorem dX12_isSo_53 : decode cX12_isSo 53 = .ok (.iload_n 3, 1) := by decide +kernel
theorem dX12_isSo_54 : decode cX12_isSo 54 = .ok (.iaload, 1) := by decide +kernel
theorem dX12_isSo_55 : decode cX12_isSo 55 = .ok (.if_icmp .eq 5, 3) := by decide +kernel
theorem dX12_isSo_58 : decode cX12_isSo 58 = .ok (.iconst 0, 1) := by decide +kernel
theorem dX12_isSo_59 : decode cX12_isSo 59 = .ok (.ireturn, 1) := by decide +kernel
theorem dX12_isSo_60 : decode cX12_isSo 60 = .ok (.iinc 3 1, 3) := by decide +kernel
theorem dX12_isSo_63 : decode cX12_isSo 63 = .ok (.goto (-61), 3) := by decide +kernel
theorem dX12_isSo_66 : decode cX12_isSo 66 = .ok (.iconst 1, 1) := by decide +kernel
theorem dX12_isSo_67 : decode cX12_isSo 67 = .ok (.ireturn, 1) := by decide +kernel
theorem dX12_miles_0 : decode cX12_miles 0 = .ok (.lconst 0, 1) := by decide +kernel
theorem dX12_miles_1 : decode cX12_miles 1 = .ok (.lstore_n 2, 1) := by decide +kernel
theorem dX12_miles_2 : decode cX12_miles 2 = .ok (.iconst 1, 1) := by decide +kernel
theorem dX12_miles_3 : decode cX12_miles 3 = .ok (.istore 4, 2) := by decide +kernel
theorem dX12_miles_5 : decode cX12_miles 5 = .ok (.iload 4, 2) := by decide +kernel
theorem dX12_miles_7 : decode cX12_miles 7 = .ok (.bipush 60, 2) := by decide +kernel
theorem dX12_miles_9 : decode cX12_miles 9 = .ok (.if_icmp .gt 28, 3) := by decide +kernel
theorem dX12_miles_12 : decode cX12_miles 12 = .ok (.aload_n 0, 1) := by decide +kernel
theorem dX12_miles_13 : decode cX12_miles 13 = .ok (.iload 4, 2) := by decide +kernel
theorem dX12_miles_15 : decode cX12_miles 15 = .ok (.iload_n 1, 1) := by decide +kernel
theorem dX12_miles_16 : decode cX12_miles 16 = .ok (.invokevirtual 575, 3) := by decide +kernel
theorem dX12_miles_19 : decode cX12_miles 19 = .ok (.ifCond .eq 12, 3) := by decide +kernel
theorem dX12_miles_22 : decode cX12_miles 22 = .ok (.lload_n 2, 1) := by decide +kernel
theorem dX12_miles_23 : decode cX12_miles 23 = .ok (.lconst 1, 1) := by decide +kernel
theorem dX12_miles_24 : decode cX12_miles 24 = .ok (.iload 4, 2) := by decide +kernel
theorem dX12_miles_26 : decode cX12_miles 26 = .ok (.iconst 1, 1) := by decide +kernel
theorem dX12_miles_27 : decode cX12_miles 27 = .ok (.isub, 1) := by decide +kernel
theorem dX12_miles_28 : decode cX12_miles 28 = .ok (.lshl, 1) := by decide +kernel
theorem dX12_miles_29 : decode cX12_miles 29 = .ok (.lor, 1) := by decide +kernel
theorem dX12_miles_30 : decode cX12_miles 30 = .ok (.lstore_n 2, 1) := by decide +kernel
theorem dX12_miles_31 : decode cX12_miles 31 = .ok (.iinc 4 1, 3) := by decide +kernel
theorem dX12_miles_34 : decode cX12_miles 34 = .ok (.goto (-29), 3) := by decide +kernel
theorem dX12_miles_37 : decode cX12_miles 37 = .ok (.lload_n 2, 1) := by decide +kernel
theorem dX12_miles_38 : decode cX12_miles 38 = .ok (.lreturn, 1) := by decide +kernel
theorem dX12_mostLeft_0 : decode cX12_mostLeft 0 = .ok (.aload_n 0, 1) := by decide +kernel
theorem dX12_mostLeft_1 : decode cX12_mostLeft 1 = .ok (.iload_n 1, 1) := by decide +kernel
theorem dX12_mostLeft_2 : decode cX12_mostLeft 2 = .ok (.invokestatic 506, 3) := by decide +kernel
theorem dX12_mostLeft_5 : decode cX12_mostLeft 5 = .ok (.iload_n 1, 1) := by decide +kernel
theorem dX12_mostLeft_6 : decode cX12_mostLeft 6 = .ok (.invokestatic 509, 3) := by decide +kernel
theorem dX12_mostLeft_9 : decode cX12_mostLeft 9 = .ok (.iload_n 1, 1) := by decide +kernel
theorem dX12_mostLeft_10 : decode cX12_mostLeft 10 = .ok (.invokestatic 512, 3) := by decide +kernel
theorem dX12_mostLeft_13 : decode cX12_mostLeft 13 = .ok (.invokevirtual 565, 3) := by decide +kernel
theorem dX12_mostLeft_16 : decode cX12_mostLeft 16 = .ok (.istore 4, 2) := by decide +kernel
theorem dX12_mostLeft_18 : decode cX12_mostLeft 18 = .ok (.iconst 0, 1) := by decide +kernel
theorem dX12_mostLeft_19 : decode cX12_mostLeft 19 = .ok (.istore 5, 2) := by decide +kernel
theorem dX12_mostLeft_21 : decode cX12_mostLeft 21 = .ok (.iload 5, 2) := by decide +kernel
theorem dX12_mostLeft_23 : decode cX12_mostLeft 23 = .ok (.iconst 3, 1) := by decide +kernel
theorem dX12_mostLeft_24 : decode cX12_mostLeft 24 = .ok (.if_icmp .ge 17, 3) := by decide +kernel
theorem dX12_mostLeft_27 : decode cX12_mostLeft 27 = .ok (.aload_n 0, 1) := by decide +kernel
theorem dX12_mostLeft_28 : decode cX12_mostLeft 28 = .ok (.getfield 164, 3) := by decide +kernel
theorem dX12_mostLeft_31 : decode cX12_mostLeft 31 = .ok (.iload 5, 2) := by decide +kernel
theorem dX12_mostLeft_33 : decode cX12_mostLeft 33 = .ok (.iconst 0, 1) := by decide +kernel
theorem dX12_mostLeft_34 : decode cX12_mostLeft 34 = .ok (.iastore, 1) := by decide +kernel
theorem dX12_mostLeft_35 : decode cX12_mostLeft 35 = .ok (.iinc 5 1, 3) := by decide +kernel
theorem dX12_mostLeft_38 : decode cX12_mostLeft 38 = .ok (.goto (-17), 3) := by decide +kernel
theorem dX12_mostLeft_41 : decode cX12_mostLeft 41 = .ok (.iconst 1, 1) := by decide +kernel
theorem dX12_mostLeft_42 : decode cX12_mostLeft 42 = .ok (.istore 5, 2) := by decide +kernel
theorem dX12_mostLeft_44 : decode cX12_mostLeft 44 = .ok (.iload 5, 2) := by decide +kernel
theorem dX12_mostLeft_46 : decode cX12_mostLeft 46 = .ok (.bipush 60, 2) := by decide +kernel
theorem dX12_mostLeft_48 : decode cX12_mostLeft 48 = .ok (.if_icmp .gt 38, 3) := by decide +kernel
theorem dX12_mostLeft_51 : decode cX12_mostLeft 51 = .ok (.lload_n 2, 1) := by decide +kernel
theorem dX12_mostLeft_52 : decode cX12_mostLeft 52 = .ok (.iload 5, 2) := by decide +kernel
theorem dX12_mostLeft_54 : decode cX12_mostLeft 54 = .ok (.iconst 1, 1) := by decide +kernel
theorem dX12_mostLeft_55 : decode cX12_mostLeft 55 = .ok (.isub, 1) := by decide +kernel
theorem dX12_mostLeft_56 : decode cX12_mostLeft 56 = .ok (.lshr, 1) := by decide +kernel
theorem dX12_mostLeft_57 : decode cX12_mostLeft 57 = .ok (.lconst 1, 1) := by decide +kernel
theorem dX12_mostLeft_58 : decode cX12_mostLeft 58 = .ok (.land, 1) := by decide +kernel
theorem dX12_mostLeft_59 : decode cX12_mostLeft 59 = .ok (.lconst 1, 1) := by decide +kernel
theorem dX12_mostLeft_60 : decode cX12_mostLeft 60 = .ok (.lcmp, 1) := by decide +kernel
theorem dX12_mostLeft_61 : decode cX12_mostLeft 61 = .ok (.ifCond .ne 19, 3) := by decide +kernel
theorem dX12_mostLeft_64 : decode cX12_mostLeft 64 = .ok (.aload_n 0, 1) := by decide +kernel
theorem dX12_mostLeft_65 : decode cX12_mostLeft 65 = .ok (.getfield 164, 3) := by decide +kernel
theorem dX12_mostLeft_68 : decode cX12_mostLeft 68 = .ok (.iload 4, 2) := by decide +kernel
theorem dX12_mostLeft_70 : decode cX12_mostLeft 70 = .ok (.iload 5, 2) := by decide +kernel
theorem dX12_mostLeft_72 : decode cX12_mostLeft 72 = .ok (.invokestatic 572, 3) := by decide +kernel
theorem dX12_mostLeft_75 : decode cX12_mostLeft 75 = .ok (.dup2, 1) := by decide +kernel
theorem dX12_mostLeft_76 : decode cX12_mostLeft 76 = .ok (.iaload, 1) := by decide +kernel
theorem dX12_mostLeft_77 : decode cX12_mostLeft 77 = .ok (.iconst 1, 1) := by decide +kernel
theorem dX12_mostLeft_78 : decode cX12_mostLeft 78 = .ok (.iadd, 1) := by decide +kernel
theorem dX12_mostLeft_79 : decode cX12_mostLeft 79 = .ok (.iastore, 1) := by decide +kernel
theorem dX12_mostLeft_80 : decode cX12_mostLeft 80 = .ok (.iinc 5 1, 3) := by decide +kernel
theorem dX12_mostLeft_83 : decode cX12_mostLeft 83 = .ok (.goto (-39), 3) := by decide +kernel
theorem dX12_mostLeft_86 : decode cX12_mostLeft 86 = .ok (.aload_n 0, 1) := by decide +kernel
theorem dX12_mostLeft_87 : decode cX12_mostLeft 87 = .ok (.getfield 164, 3) := by decide +kernel
theorem dX12_mostLeft_90 : decode cX12_mostLeft 90 = .ok (.iconst 0, 1) := by decide +kernel
theorem dX12_mostLeft_91 : decode cX12_mostLeft 91 = .ok (.iaload, 1) := by decide +kernel
theorem dX12_mostLeft_92 : decode cX12_mostLeft 92 = .ok (.aload_n 0, 1) := by decide +kernel
theorem dX12_mostLeft_93 : decode cX12_mostLeft 93 = .ok (.getfield 164, 3) := by decide +kernel
theorem dX12_mostLeft_96 : decode cX12_mostLeft 96 = .ok (.iconst 1, 1) := by decide +kernel
theorem dX12_mostLeft_97 : decode cX12_mostLeft 97 = .ok (.iaload, 1) := by decide +kernel
theorem dX12_mostLeft_98 : decode cX12_mostLeft 98 = .ok (.if_icmp .le 12, 3) := by decide +kernel
theorem dX12_mostLeft_101 : decode cX12_mostLeft 101 = .ok (.aload_n 0, 1) := by decide +kernel
theorem dX12_mostLeft_102 : decode cX12_mostLeft 102 = .ok (.getfield 164, 3) := by decide +kernel
theorem dX12_mostLeft_105 : decode cX12_mostLeft 105 = .ok (.iconst 0, 1) := by decide +kernel
theorem dX12_mostLeft_106 : decode cX12_mostLeft 106 = .ok (.iaload, 1) := by decide +kernel
theorem dX12_mostLeft_107 : decode cX12_mostLeft 107 = .ok (.goto 9, 3) := by decide +kernel
theorem dX12_mostLeft_110 : decode cX12_mostLeft 110 = .ok (.aload_n 0, 1) := by decide +kernel
theorem dX12_mostLeft_111 : decode cX12_mostLeft 111 = .ok (.getfield 164, 3) := by decide +kernel
theorem dX12_mostLeft_114 : decode cX12_mostLeft 114 = .ok (.iconst 1, 1) := by decide +kernel
theorem dX12_mostLeft_115 : decode cX12_mostLeft 115 = .ok (.iaload, 1) := by decide +kernel
theorem dX12_mostLeft_116 : decode cX12_mostLeft 116 = .ok (.istore 5, 2) := by decide +kernel
theorem dX12_mostLeft_118 : decode cX12_mostLeft 118 = .ok (.aload_n 0, 1) := by decide +kernel
theorem dX12_mostLeft_119 : decode cX12_mostLeft 119 = .ok (.getfield 164, 3) := by decide +kernel
theorem dX12_mostLeft_122 : decode cX12_mostLeft 122 = .ok (.iconst 2, 1) := by decide +kernel
theorem dX12_mostLeft_123 : decode cX12_mostLeft 123 = .ok (.iaload, 1) := by decide +kernel
theorem dX12_mostLeft_124 : decode cX12_mostLeft 124 = .ok (.iload 5, 2) := by decide +kernel
theorem dX12_mostLeft_126 : decode cX12_mostLeft 126 = .ok (.if_icmp .le 12, 3) := by decide +kernel
theorem dX12_mostLeft_129 : decode cX12_mostLeft 129 = .ok (.aload_n 0, 1) := by decide +kernel
theorem dX12_mostLeft_130 : decode cX12_mostLeft 130 = .ok (.getfield 164, 3) := by decide +kernel
theorem dX12_mostLeft_133 : decode cX12_mostLeft 133 = .ok (.iconst 2, 1) := by decide +kernel
theorem dX12_mostLeft_134 : decode cX12_mostLeft 134 = .ok (.iaload, 1) := by decide +kernel
theorem dX12_mostLeft_135 : decode cX12_mostLeft 135 = .ok (.goto 5, 3) := by decide +kernel
theorem dX12_mostLeft_138 : decode cX12_mostLeft 138 = .ok (.iload 5, 2) := by decide +kernel
theorem dX12_mostLeft_140 : decode cX12_mostLeft 140 = .ok (.ireturn, 1) := by decide +kernel
theorem dX12_ask_0 : decode cX12_ask 0 = .ok (.aload_n 0, 1) := by decide +kernel
theorem dX12_ask_1 : decode cX12_ask 1 = .ok (.iload_n 2, 1) := by decide +kernel
theorem dX12_ask_2 : decode cX12_ask 2 = .ok (.invokevirtual 579, 3) := by decide +kernel
theorem dX12_ask_5 : decode cX12_ask 5 = .ok (.lstore_n 3, 1) := by decide +kernel
theorem dX12_ask_6 : decode cX12_ask 6 = .ok (.iload_n 1, 1) := by decide +kernel
theorem dX12_ask_7 : decode cX12_ask 7 = .ok (.iconst 0, 1) := by decide +kernel
theorem dX12_ask_8 : decode cX12_ask 8 = .ok (.iconst 1, 1) := by decide +kernel
theorem dX12_ask_9 : decode cX12_ask 9 = .ok (.invokestatic 400, 3) := by decide +kernel
theorem dX12_ask_12 : decode cX12_ask 12 = .ok (.ifCond .eq 9, 3) := by decide +kernel
theorem dX12_ask_15 : decode cX12_ask 15 = .ok (.lload_n 3, 1) := by decide +kernel
theorem dX12_ask_16 : decode cX12_ask 16 = .ok (.lconst 0, 1) := by decide +kernel
theorem dX12_ask_17 : decode cX12_ask 17 = .ok (.lcmp, 1) := by decide +kernel
theorem dX12_ask_18 : decode cX12_ask 18 = .ok (.ifCond .ne 5, 3) := by decide +kernel
theorem dX12_ask_21 : decode cX12_ask 21 = .ok (.iconst (-1), 1) := by decide +kernel
theorem dX12_ask_22 : decode cX12_ask 22 = .ok (.ireturn, 1) := by decide +kernel
theorem dX12_ask_23 : decode cX12_ask 23 = .ok (.iconst (-1), 1) := by decide +kernel
theorem dX12_ask_24 : decode cX12_ask 24 = .ok (.istore 5, 2) := by decide +kernel
theorem dX12_ask_26 : decode cX12_ask 26 = .ok (.iconst 0, 1) := by decide +kernel
theorem dX12_ask_27 : decode cX12_ask 27 = .ok (.istore 6, 2) := by decide +kernel
theorem dX12_ask_29 : decode cX12_ask 29 = .ok (.iconst 0, 1) := by decide +kernel
theorem dX12_ask_30 : decode cX12_ask 30 = .ok (.istore 7, 2) := by decide +kernel
theorem dX12_ask_32 : decode cX12_ask 32 = .ok (.iload 7, 2) := by decide +kernel
theorem dX12_ask_34 : decode cX12_ask 34 = .ok (.aload_n 0, 1) := by decide +kernel
theorem dX12_ask_35 : decode cX12_ask 35 = .ok (.invokevirtual 515, 3) := by decide +kernel
theorem dX12_ask_38 : decode cX12_ask 38 = .ok (.if_icmp .ge 53, 3) := by decide +kernel
theorem dX12_ask_41 : decode cX12_ask 41 = .ok (.aload_n 0, 1) := by decide +kernel
theorem dX12_ask_42 : decode cX12_ask 42 = .ok (.iload 7, 2) := by decide +kernel
theorem dX12_ask_44 : decode cX12_ask 44 = .ok (.invokevirtual 518, 3) := by decide +kernel
theorem dX12_ask_47 : decode cX12_ask 47 = .ok (.ifCond .ne 6, 3) := by decide +kernel
theorem dX12_ask_50 : decode cX12_ask 50 = .ok (.goto 35, 3) := by decide +kernel
theorem dX12_ask_53 : decode cX12_ask 53 = .ok (.aload_n 0, 1) := by decide +kernel
theorem dX12_ask_54 : decode cX12_ask 54 = .ok (.iload 7, 2) := by decide +kernel
theorem dX12_ask_56 : decode cX12_ask 56 = .ok (.lload_n 3, 1) := by decide +kernel
theorem dX12_ask_57 : decode cX12_ask 57 = .ok (.invokevirtual 582, 3) := by decide +kernel
theorem dX12_ask_60 : decode cX12_ask 60 = .ok (.istore 8, 2) := by decide +kernel
theorem dX12_ask_62 : decode cX12_ask 62 = .ok (.iload 5, 2) := by decide +kernel
theorem dX12_ask_64 : decode cX12_ask 64 = .ok (.ifCond .lt 13, 3) := by decide +kernel
theorem dX12_ask_67 : decode cX12_ask 67 = .ok (.iload 8, 2) := by decide +kernel
theorem dX12_ask_69 : decode cX12_ask 69 = .ok (.iload 6, 2) := by decide +kernel
theorem dX12_ask_71 : decode cX12_ask 71 = .ok (.if_icmp .lt 6, 3) := by decide +kernel
theorem dX12_ask_74 : decode cX12_ask 74 = .ok (.goto 11, 3) := by decide +kernel
theorem dX12_ask_77 : decode cX12_ask 77 = .ok (.iload 7, 2) := by decide +kernel
theorem dX12_ask_79 : decode cX12_ask 79 = .ok (.istore 5, 2) := by decide +kernel
theorem dX12_ask_81 : decode cX12_ask 81 = .ok (.iload 8, 2) := by decide +kernel
theorem dX12_ask_83 : decode cX12_ask 83 = .ok (.istore 6, 2) := by decide +kernel
theorem dX12_ask_85 : decode cX12_ask 85 = .ok (.iinc 7 1, 3) := by decide +kernel
theorem dX12_ask_88 : decode cX12_ask 88 = .ok (.goto (-56), 3) := by decide +kernel
theorem dX12_ask_91 : decode cX12_ask 91 = .ok (.iload 5, 2) := by decide +kernel
theorem dX12_ask_93 : decode cX12_ask 93 = .ok (.ifCond .ge 5, 3) := by decide +kernel
theorem dX12_ask_96 : decode cX12_ask 96 = .ok (.iconst (-1), 1) := by decide +kernel
theorem dX12_ask_97 : decode cX12_ask 97 = .ok (.ireturn, 1) := by decide +kernel
theorem dX12_ask_98 : decode cX12_ask 98 = .ok (.iload_n 1, 1) := by decide +kernel
theorem dX12_ask_99 : decode cX12_ask 99 = .ok (.ifCond .ne 29, 3) := by decide +kernel
theorem dX12_ask_102 : decode cX12_ask 102 = .ok (.bipush 100, 2) := by decide +kernel
theorem dX12_ask_104 : decode cX12_ask 104 = .ok (.iload 5, 2) := by decide +kernel
theorem dX12_ask_106 : decode cX12_ask 106 = .ok (.invokestatic 506, 3) := by decide +kernel
theorem dX12_ask_109 : decode cX12_ask 109 = .ok (.imul, 1) := by decide +kernel
theorem dX12_ask_110 : decode cX12_ask 110 = .ok (.bipush 10, 2) := by decide +kernel
theorem dX12_ask_112 : decode cX12_ask 112 = .ok (.iload 5, 2) := by decide +kernel
theorem dX12_ask_114 : decode cX12_ask 114 = .ok (.invokestatic 509, 3) := by decide +kernel
theorem dX12_ask_117 : decode cX12_ask 117 = .ok (.imul, 1) := by decide +kernel
theorem dX12_ask_118 : decode cX12_ask 118 = .ok (.iadd, 1) := by decide +kernel
theorem dX12_ask_119 : decode cX12_ask 119 = .ok (.iload 5, 2) := by decide +kernel
theorem dX12_ask_121 : decode cX12_ask 121 = .ok (.invokestatic 512, 3) := by decide +kernel
theorem dX12_ask_124 : decode cX12_ask 124 = .ok (.iadd, 1) := by decide +kernel
theorem dX12_ask_125 : decode cX12_ask 125 = .ok (.goto 5, 3) := by decide +kernel
theorem dX12_ask_128 : decode cX12_ask 128 = .ok (.iload 6, 2) := by decide +kernel
theorem dX12_ask_130 : decode cX12_ask 130 = .ok (.ireturn, 1) := by decide +kernel
theorem dX12_wordsInAll_0 : decode cX12_wordsInAll 0 = .ok (.aload_n 0, 1) := by decide +kernel
theorem dX12_wordsInAll_1 : decode cX12_wordsInAll 1 = .ok (.invokevirtual 475, 3) := by decide +kernel
theorem dX12_wordsInAll_4 : decode cX12_wordsInAll 4 = .ok (.ifCond .eq 13, 3) := by decide +kernel
theorem dX12_wordsInAll_7 : decode cX12_wordsInAll 7 = .ok (.aload_n 0, 1) := by decide +kernel
theorem dX12_wordsInAll_8 : decode cX12_wordsInAll 8 = .ok (.getfield 110, 3) := by decide +kernel
theorem dX12_wordsInAll_11 : decode cX12_wordsInAll 11 = .ok (.bipush 19, 2) := by decide +kernel
theorem dX12_wordsInAll_13 : decode cX12_wordsInAll 13 = .ok (.iaload, 1) := by decide +kernel
theorem dX12_wordsInAll_14 : decode cX12_wordsInAll 14 = .ok (.goto 4, 3) := by decide +kernel
theorem dX12_wordsInAll_17 : decode cX12_wordsInAll 17 = .ok (.iconst 0, 1) := by decide +kernel
theorem dX12_wordsInAll_18 : decode cX12_wordsInAll 18 = .ok (.ireturn, 1) := by decide +kernel
theorem dX12_image_0 : decode cX12_image 0 = .ok (.iload_n 1, 1) := by decide +kernel
theorem dX12_image_1 : decode cX12_image 1 = .ok (.iconst 0, 1) := by decide +kernel
theorem dX12_image_2 : decode cX12_image 2 = .ok (.iconst 2, 1) := by decide +kernel
theorem dX12_image_3 : decode cX12_image 3 = .ok (.invokestatic 400, 3) := by decide +kernel
theorem dX12_image_6 : decode cX12_image 6 = .ok (.ifCond .ne 5, 3) := by decide +kernel
theorem dX12_image_9 : decode cX12_image 9 = .ok (.iconst (-1), 1) := by decide +kernel
theorem dX12_image_10 : decode cX12_image 10 = .ok (.ireturn, 1) := by decide +kernel
theorem dX12_image_11 : decode cX12_image 11 = .ok (.iconst 0, 1) := by decide +kernel
theorem dX12_image_12 : decode cX12_image 12 = .ok (.istore_n 2, 1) := by decide +kernel
theorem dX12_image_13 : decode cX12_image 13 = .ok (.iload_n 2, 1) := by decide +kernel
theorem dX12_image_14 : decode cX12_image 14 = .ok (.bipush 44, 2) := by decide +kernel
theorem dX12_image_16 : decode cX12_image 16 = .ok (.if_icmp .ge 26, 3) := by decide +kernel
theorem dX12_image_19 : decode cX12_image 19 = .ok (.aload_n 0, 1) := by decide +kernel
theorem dX12_image_20 : decode cX12_image 20 = .ok (.getfield 167, 3) := by decide +kernel
theorem dX12_image_23 : decode cX12_image 23 = .ok (.bipush 44, 2) := by decide +kernel
theorem dX12_image_25 : decode cX12_image 25 = .ok (.iload_n 1, 1) := by decide +kernel
theorem dX12_image_26 : decode cX12_image 26 = .ok (.imul, 1) := by decide +kernel
theorem dX12_image_27 : decode cX12_image 27 = .ok (.iload_n 2, 1) := by decide +kernel
theorem dX12_image_28 : decode cX12_image 28 = .ok (.iadd, 1) := by decide +kernel
theorem dX12_image_29 : decode cX12_image 29 = .ok (.aload_n 0, 1) := by decide +kernel
theorem dX12_image_30 : decode cX12_image 30 = .ok (.getfield 110, 3) := by decide +kernel
theorem dX12_image_33 : decode cX12_image 33 = .ok (.iload_n 2, 1) := by decide +kernel
theorem dX12_image_34 : decode cX12_image 34 = .ok (.iaload, 1) := by decide +kernel
theorem dX12_image_35 : decode cX12_image 35 = .ok (.iastore, 1) := by decide +kernel
theorem dX12_image_36 : decode cX12_image 36 = .ok (.iinc 2 1, 3) := by decide +kernel
theorem dX12_image_39 : decode cX12_image 39 = .ok (.goto (-26), 3) := by decide +kernel
theorem dX12_image_42 : decode cX12_image 42 = .ok (.aload_n 0, 1) := by decide +kernel
theorem dX12_image_43 : decode cX12_image 43 = .ok (.getfield 170, 3) := by decide +kernel
theorem dX12_image_46 : decode cX12_image 46 = .ok (.iload_n 1, 1) := by decide +kernel
theorem dX12_image_47 : decode cX12_image 47 = .ok (.iconst 1, 1) := by decide +kernel
theorem dX12_image_48 : decode cX12_image 48 = .ok (.bastore, 1) := by decide +kernel
theorem dX12_image_49 : decode cX12_image 49 = .ok (.aload_n 0, 1) := by decide +kernel
theorem dX12_image_50 : decode cX12_image 50 = .ok (.invokevirtual 586, 3) := by decide +kernel
theorem dX12_image_53 : decode cX12_image 53 = .ok (.ireturn, 1) := by decide +kernel
theorem dX12_back_0 : decode cX12_back 0 = .ok (.iload_n 1, 1) := by decide +kernel
theorem dX12_back_1 : decode cX12_back 1 = .ok (.iconst 0, 1) := by decide +kernel
theorem dX12_back_2 : decode cX12_back 2 = .ok (.iconst 2, 1) := by decide +kernel
theorem dX12_back_3 : decode cX12_back 3 = .ok (.invokestatic 400, 3) := by decide +kernel
theorem dX12_back_6 : decode cX12_back 6 = .ok (.ifCond .eq 12, 3) := by decide +kernel
theorem dX12_back_9 : decode cX12_back 9 = .ok (.aload_n 0, 1) := by decide +kernel
theorem dX12_back_10 : decode cX12_back 10 = .ok (.getfield 170, 3) := by decide +kernel
theorem dX12_back_13 : decode cX12_back 13 = .ok (.iload_n 1, 1) := by decide +kernel
theorem dX12_back_14 : decode cX12_back 14 = .ok (.baload, 1) := by decide +kernel
theorem dX12_back_15 : decode cX12_back 15 = .ok (.ifCond .ne 5, 3) := by decide +kernel
theorem dX12_back_18 : decode cX12_back 18 = .ok (.iconst (-1), 1) := by decide +kernel
theorem dX12_back_19 : decode cX12_back 19 = .ok (.ireturn, 1) := by decide +kernel
theorem dX12_back_20 : decode cX12_back 20 = .ok (.iconst 0, 1) := by decide +kernel
theorem dX12_back_21 : decode cX12_back 21 = .ok (.istore_n 2, 1) := by decide +kernel
theorem dX12_back_22 : decode cX12_back 22 = .ok (.iload_n 2, 1) := by decide +kernel
theorem dX12_back_23 : decode cX12_back 23 = .ok (.bipush 44, 2) := by decide +kernel
theorem dX12_back_25 : decode cX12_back 25 = .ok (.if_icmp .ge 26, 3) := by decide +kernel
theorem dX12_back_28 : decode cX12_back 28 = .ok (.aload_n 0, 1) := by decide +kernel
theorem dX12_back_29 : decode cX12_back 29 = .ok (.getfield 110, 3) := by decide +kernel
theorem dX12_back_32 : decode cX12_back 32 = .ok (.iload_n 2, 1) := by decide +kernel
theorem dX12_back_33 : decode cX12_back 33 = .ok (.aload_n 0, 1) := by decide +kernel
theorem dX12_back_34 : decode cX12_back 34 = .ok (.getfield 167, 3) := by decide +kernel
theorem dX12_back_37 : decode cX12_back 37 = .ok (.bipush 44, 2) := by decide +kernel
theorem dX12_back_39 : decode cX12_back 39 = .ok (.iload_n 1, 1) := by decide +kernel
theorem dX12_back_40 : decode cX12_back 40 = .ok (.imul, 1) := by decide +kernel
theorem dX12_back_41 : decode cX12_back 41 = .ok (.iload_n 2, 1) := by decide +kernel
theorem dX12_back_42 : decode cX12_back 42 = .ok (.iadd, 1) := by decide +kernel
theorem dX12_back_43 : decode cX12_back 43 = .ok (.iaload, 1) := by decide +kernel
theorem dX12_back_44 : decode cX12_back 44 = .ok (.iastore, 1) := by decide +kernel
theorem dX12_back_45 : decode cX12_back 45 = .ok (.iinc 2 1, 3) := by decide +kernel
theorem dX12_back_48 : decode cX12_back 48 = .ok (.goto (-26), 3) := by decide +kernel
theorem dX12_back_51 : decode cX12_back 51 = .ok (.aload_n 0, 1) := by decide +kernel
theorem dX12_back_52 : decode cX12_back 52 = .ok (.iconst 0, 1) := by decide +kernel
theorem dX12_back_53 : decode cX12_back 53 = .ok (.putfield 454, 3) := by decide +kernel
theorem dX12_back_56 : decode cX12_back 56 = .ok (.aload_n 0, 1) := by decide +kernel
theorem dX12_back_57 : decode cX12_back 57 = .ok (.iconst 0, 1) := by decide +kernel
theorem dX12_back_58 : decode cX12_back 58 = .ok (.putfield 457, 3) := by decide +kernel
theorem dX12_back_61 : decode cX12_back 61 = .ok (.aload_n 0, 1) := by decide +kernel
theorem dX12_back_62 : decode cX12_back 62 = .ok (.invokevirtual 586, 3) := by decide +kernel
theorem dX12_back_65 : decode cX12_back 65 = .ok (.ireturn, 1) := by decide +kernel
theorem dX12_about_0 : decode cX12_about 0 = .ok (.iload_n 1, 1) := by decide +kernel
theorem dX12_about_1 : decode cX12_about 1 = .ok (.tableswitch 185 0 13 #[71, 81, 91, 96, 106, 113, 118, 123, 139, 155, 160, 165, 170, 180], 71) := by decide +kernel
theorem dX12_about_72 : decode cX12_about 72 = .ok (.aload_n 0, 1) := by decide +kernel
theorem dX12_about_73 : decode cX12_about 73 = .ok (.getfield 20, 3) := by decide +kernel
theorem dX12_about_76 : decode cX12_about 76 = .ok (.aload_n 0, 1) := by decide +kernel
theorem dX12_about_77 : decode cX12_about 77 = .ok (.getfield 295, 3) := by decide +kernel
theorem dX12_about_80 : decode cX12_about 80 = .ok (.iaload, 1) := by decide +kernel
theorem dX12_about_81 : decode cX12_about 81 = .ok (.ireturn, 1) := by decide +kernel
theorem dX12_about_82 : decode cX12_about 82 = .ok (.aload_n 0, 1) := by decide +kernel
theorem dX12_about_83 : decode cX12_about 83 = .ok (.getfield 24, 3) := by decide +kernel
theorem dX12_about_86 : decode cX12_about 86 = .ok (.aload_n 0, 1) := by decide +kernel
theorem dX12_about_87 : decode cX12_about 87 = .ok (.getfield 295, 3) := by decide +kernel
theorem dX12_about_90 : decode cX12_about 90 = .ok (.iaload, 1) := by decide +kernel
theorem dX12_about_91 : decode cX12_about 91 = .ok (.ireturn, 1) := by decide +kernel
theorem dX12_about_92 : decode cX12_about 92 = .ok (.aload_n 0, 1) := by decide +kernel
theorem dX12_about_93 : decode cX12_about 93 = .ok (.invokevirtual 404, 3) := by decide +kernel
theorem dX12_about_96 : decode cX12_about 96 = .ok (.ireturn, 1) := by decide +kernel
theorem dX12_about_97 : decode cX12_about 97 = .ok (.aload_n 0, 1) := by decide +kernel
theorem dX12_about_98 : decode cX12_about 98 = .ok (.getfield 30, 3) := by decide +kernel
theorem dX12_about_101 : decode cX12_about 101 = .ok (.aload_n 0, 1) := by decide +kernel
theorem dX12_about_102 : decode cX12_about 102 = .ok (.getfield 295, 3) := by decide +kernel
theorem dX12_about_105 : decode cX12_about 105 = .ok (.iaload, 1) := by decide +kernel
theorem dX12_about_106 : decode cX12_about 106 = .ok (.ireturn, 1) := by decide +kernel
theorem dX12_about_107 : decode cX12_about 107 = .ok (.aload_n 0, 1) := by decide +kernel
theorem dX12_about_108 : decode cX12_about 108 = .ok (.getfield 110, 3) := by decide +kernel
theorem dX12_about_111 : decode cX12_about 111 = .ok (.iconst 0, 1) := by decide +kernel
theorem dX12_about_112 : decode cX12_about 112 = .ok (.iaload, 1) := by decide +kernel
theorem dX12_about_113 : decode cX12_about 113 = .ok (.ireturn, 1) := by decide +kernel
theorem dX12_about_114 : decode cX12_about 114 = .ok (.aload_n 0, 1) := by decide +kernel
theorem dX12_about_115 : decode cX12_about 115 = .ok (.getfield 454, 3) := by decide +kernel
theorem dX12_about_118 : decode cX12_about 118 = .ok (.ireturn, 1) := by decide +kernel
theorem dX12_about_119 : decode cX12_about 119 = .ok (.aload_n 0, 1) := by decide +kernel
theorem dX12_about_120 : decode cX12_about 120 = .ok (.getfield 457, 3) := by decide +kernel
theorem dX12_about_123 : decode cX12_about 123 = .ok (.ireturn, 1) := by decide +kernel
theorem dX12_about_124 : decode cX12_about 124 = .ok (.aload_n 0, 1) := by decide +kernel
theorem dX12_about_125 : decode cX12_about 125 = .ok (.getfield 125, 3) := by decide +kernel
theorem dX12_about_128 : decode cX12_about 128 = .ok (.ifCond .ge 7, 3) := by decide +kernel
theorem dX12_about_131 : decode cX12_about 131 = .ok (.iconst (-1), 1) := by decide +kernel
theorem dX12_about_132 : decode cX12_about 132 = .ok (.goto 7, 3) := by decide +kernel
theorem dX12_about_135 : decode cX12_about 135 = .ok (.aload_n 0, 1) := by decide +kernel
theorem dX12_about_136 : decode cX12_about 136 = .ok (.getfield 460, 3) := by decide +kernel
theorem dX12_about_139 : decode cX12_about 139 = .ok (.ireturn, 1) := by decide +kernel
theorem dX12_about_140 : decode cX12_about 140 = .ok (.aload_n 0, 1) := by decide +kernel
theorem dX12_about_141 : decode cX12_about 141 = .ok (.getfield 125, 3) := by decide +kernel
theorem dX12_about_144 : decode cX12_about 144 = .ok (.ifCond .ge 7, 3) := by decide +kernel
theorem dX12_about_147 : decode cX12_about 147 = .ok (.iconst (-1), 1) := by decide +kernel
theorem dX12_about_148 : decode cX12_about 148 = .ok (.goto 7, 3) := by decide +kernel
theorem dX12_about_151 : decode cX12_about 151 = .ok (.aload_n 0, 1) := by decide +kernel
theorem dX12_about_152 : decode cX12_about 152 = .ok (.invokevirtual 484, 3) := by decide +kernel
theorem dX12_about_155 : decode cX12_about 155 = .ok (.ireturn, 1) := by decide +kernel
theorem dX12_about_156 : decode cX12_about 156 = .ok (.aload_n 0, 1) := by decide +kernel
theorem dX12_about_157 : decode cX12_about 157 = .ok (.getfield 463, 3) := by decide +kernel
theorem dX12_about_160 : decode cX12_about 160 = .ok (.ireturn, 1) := by decide +kernel
theorem dX12_about_161 : decode cX12_about 161 = .ok (.aload_n 0, 1) := by decide +kernel
theorem dX12_about_162 : decode cX12_about 162 = .ok (.getfield 568, 3) := by decide +kernel
theorem dX12_about_165 : decode cX12_about 165 = .ok (.ireturn, 1) := by decide +kernel
theorem dX12_about_166 : decode cX12_about 166 = .ok (.aload_n 0, 1) := by decide +kernel
theorem dX12_about_167 : decode cX12_about 167 = .ok (.getfield 292, 3) := by decide +kernel
theorem dX12_about_170 : decode cX12_about 170 = .ok (.ireturn, 1) := by decide +kernel
theorem dX12_about_171 : decode cX12_about 171 = .ok (.aload_n 0, 1) := by decide +kernel
theorem dX12_about_172 : decode cX12_about 172 = .ok (.getfield 33, 3) := by decide +kernel
theorem dX12_about_175 : decode cX12_about 175 = .ok (.aload_n 0, 1) := by decide +kernel
theorem dX12_about_176 : decode cX12_about 176 = .ok (.getfield 295, 3) := by decide +kernel
theorem dX12_about_179 : decode cX12_about 179 = .ok (.iaload, 1) := by decide +kernel
theorem dX12_about_180 : decode cX12_about 180 = .ok (.ireturn, 1) := by decide +kernel
theorem dX12_about_181 : decode cX12_about 181 = .ok (.aload_n 0, 1) := by decide +kernel
theorem dX12_about_182 : decode cX12_about 182 = .ok (.getfield 466, 3) := by decide +kernel
theorem dX12_about_185 : decode cX12_about 185 = .ok (.ireturn, 1) := by decide +kernel
theorem dX12_about_186 : decode cX12_about 186 = .ok (.iconst (-1), 1) := by decide +kernel
theorem dX12_about_187 : decode cX12_about 187 = .ok (.ireturn, 1) := by decide +kernel
theorem dX12_feed_0 : decode cX12_feed 0 = .ok (.aload_n 0, 1) := by decide +kernel
theorem dX12_feed_1 : decode cX12_feed 1 = .ok (.getfield 292, 3) := by decide +kernel
theorem dX12_feed_4 : decode cX12_feed 4 = .ok (.bipush 20, 2) := by decide +kernel
theorem dX12_feed_6 : decode cX12_feed 6 = .ok (.iadd, 1) := by decide +kernel
theorem dX12_feed_7 : decode cX12_feed 7 = .ok (.sipush 1600, 3) := by decide +kernel
theorem dX12_feed_10 : decode cX12_feed 10 = .ok (.if_icmp .le 5, 3) := by decide +kernel
theorem dX12_feed_13 : decode cX12_feed 13 = .ok (.iconst (-1), 1) := by decide +kernel
theorem dX12_feed_14 : decode cX12_feed 14 = .ok (.ireturn, 1) := by decide +kernel
theorem dX12_feed_15 : decode cX12_feed 15 = .ok (.iconst 0, 1) := by decide +kernel
theorem dX12_feed_16 : decode cX12_feed 16 = .ok (.istore 6, 2) := by decide +kernel
theorem dX12_feed_18 : decode cX12_feed 18 = .ok (.iload 6, 2) := by decide +kernel
theorem dX12_feed_20 : decode cX12_feed 20 = .ok (.bipush 20, 2) := by decide +kernel
theorem dX12_feed_22 : decode cX12_feed 22 = .ok (.if_icmp .ge 83, 3) := by decide +kernel
theorem dX12_feed_25 : decode cX12_feed 25 = .ok (.iload 6, 2) := by decide +kernel
theorem dX12_feed_27 : decode cX12_feed 27 = .ok (.iconst 4, 1) := by decide +kernel
theorem dX12_feed_28 : decode cX12_feed 28 = .ok (.if_icmp .ge 7, 3) := by decide +kernel
theorem dX12_feed_31 : decode cX12_feed 31 = .ok (.iload_n 1, 1) := by decide +kernel
theorem dX12_feed_32 : decode cX12_feed 32 = .ok (.goto 39, 3) := by decide +kernel
theorem dX12_feed_35 : decode cX12_feed 35 = .ok (.iload 6, 2) := by decide +kernel
theorem dX12_feed_37 : decode cX12_feed 37 = .ok (.bipush 8, 2) := by decide +kernel
theorem dX12_feed_39 : decode cX12_feed 39 = .ok (.if_icmp .ge 7, 3) := by decide +kernel
theorem dX12_feed_42 : decode cX12_feed 42 = .ok (.iload_n 2, 1) := by decide +kernel
theorem dX12_feed_43 : decode cX12_feed 43 = .ok (.goto 28, 3) := by decide +kernel
theorem dX12_feed_46 : decode cX12_feed 46 = .ok (.iload 6, 2) := by decide +kernel
theorem dX12_feed_48 : decode cX12_feed 48 = .ok (.bipush 12, 2) := by decide +kernel
theorem dX12_feed_50 : decode cX12_feed 50 = .ok (.if_icmp .ge 7, 3) := by decide +kernel
theorem dX12_feed_53 : decode cX12_feed 53 = .ok (.iload_n 3, 1) := by decide +kernel
theorem dX12_feed_54 : decode cX12_feed 54 = .ok (.goto 17, 3) := by decide +kernel
theorem dX12_feed_57 : decode cX12_feed 57 = .ok (.iload 6, 2) := by decide +kernel
theorem dX12_feed_59 : decode cX12_feed 59 = .ok (.bipush 16, 2) := by decide +kernel
theorem dX12_feed_61 : decode cX12_feed 61 = .ok (.if_icmp .ge 8, 3) := by decide +kernel
theorem dX12_feed_64 : decode cX12_feed 64 = .ok (.iload 4, 2) := by decide +kernel
theorem dX12_feed_66 : decode cX12_feed 66 = .ok (.goto 5, 3) := by decide +kernel
theorem dX12_feed_69 : decode cX12_feed 69 = .ok (.iload 5, 2) := by decide +kernel
theorem dX12_feed_71 : decode cX12_feed 71 = .ok (.istore 7, 2) := by decide +kernel
theorem dX12_feed_73 : decode cX12_feed 73 = .ok (.aload_n 0, 1) := by decide +kernel
theorem dX12_feed_74 : decode cX12_feed 74 = .ok (.getfield 7, 3) := by decide +kernel
theorem dX12_feed_77 : decode cX12_feed 77 = .ok (.aload_n 0, 1) := by decide +kernel
theorem dX12_feed_78 : decode cX12_feed 78 = .ok (.getfield 292, 3) := by decide +kernel
theorem dX12_feed_81 : decode cX12_feed 81 = .ok (.iload 6, 2) := by decide +kernel
theorem dX12_feed_83 : decode cX12_feed 83 = .ok (.iadd, 1) := by decide +kernel
theorem dX12_feed_84 : decode cX12_feed 84 = .ok (.iload 7, 2) := by decide +kernel
theorem dX12_feed_86 : decode cX12_feed 86 = .ok (.bipush 24, 2) := by decide +kernel
theorem dX12_feed_88 : decode cX12_feed 88 = .ok (.bipush 8, 2) := by decide +kernel
theorem dX12_feed_90 : decode cX12_feed 90 = .ok (.iload 6, 2) := by decide +kernel
theorem dX12_feed_92 : decode cX12_feed 92 = .ok (.iconst 3, 1) := by decide +kernel
theorem dX12_feed_93 : decode cX12_feed 93 = .ok (.iand, 1) := by decide +kernel
theorem dX12_feed_94 : decode cX12_feed 94 = .ok (.imul, 1) := by decide +kernel
theorem dX12_feed_95 : decode cX12_feed 95 = .ok (.isub, 1) := by decide +kernel
theorem dX12_feed_96 : decode cX12_feed 96 = .ok (.ishr, 1) := by decide +kernel
theorem dX12_feed_97 : decode cX12_feed 97 = .ok (.i2b, 1) := by decide +kernel
theorem dX12_feed_98 : decode cX12_feed 98 = .ok (.bastore, 1) := by decide +kernel
theorem dX12_feed_99 : decode cX12_feed 99 = .ok (.iinc 6 1, 3) := by decide +kernel
theorem dX12_feed_102 : decode cX12_feed 102 = .ok (.goto (-84), 3) := by decide +kernel
theorem dX12_feed_105 : decode cX12_feed 105 = .ok (.aload_n 0, 1) := by decide +kernel
theorem dX12_feed_106 : decode cX12_feed 106 = .ok (.dup, 1) := by decide +kernel
theorem dX12_feed_107 : decode cX12_feed 107 = .ok (.getfield 292, 3) := by decide +kernel
theorem dX12_feed_110 : decode cX12_feed 110 = .ok (.bipush 20, 2) := by decide +kernel
theorem dX12_feed_112 : decode cX12_feed 112 = .ok (.iadd, 1) := by decide +kernel
theorem dX12_feed_113 : decode cX12_feed 113 = .ok (.putfield 292, 3) := by decide +kernel
theorem dX12_feed_116 : decode cX12_feed 116 = .ok (.aload_n 0, 1) := by decide +kernel
theorem dX12_feed_117 : decode cX12_feed 117 = .ok (.getfield 292, 3) := by decide +kernel
theorem dX12_feed_120 : decode cX12_feed 120 = .ok (.ireturn, 1) := by decide +kernel
theorem dX12_end_0 : decode cX12_end 0 = .ok (.iload_n 1, 1) := by decide +kernel
theorem dX12_end_1 : decode cX12_end 1 = .ok (.ifCond .lt 11, 3) := by decide +kernel
theorem dX12_end_4 : decode cX12_end 4 = .ok (.iload_n 1, 1) := by decide +kernel
theorem dX12_end_5 : decode cX12_end 5 = .ok (.aload_n 0, 1) := by decide +kernel
theorem dX12_end_6 : decode cX12_end 6 = .ok (.getfield 292, 3) := by decide +kernel
theorem dX12_end_9 : decode cX12_end 9 = .ok (.if_icmp .le 5, 3) := by decide +kernel
theorem dX12_end_12 : decode cX12_end 12 = .ok (.iconst (-1), 1) := by decide +kernel
theorem dX12_end_13 : decode cX12_end 13 = .ok (.ireturn, 1) := by decide +kernel
theorem dX12_end_14 : decode cX12_end 14 = .ok (.aload_n 0, 1) := by decide +kernel
theorem dX12_end_15 : decode cX12_end 15 = .ok (.iload_n 1, 1) := by decide +kernel
theorem dX12_end_16 : decode cX12_end 16 = .ok (.putfield 292, 3) := by decide +kernel
theorem dX12_end_19 : decode cX12_end 19 = .ok (.iload_n 1, 1) := by decide +kernel
theorem dX12_end_20 : decode cX12_end 20 = .ok (.ireturn, 1) := by decide +kernel
theorem dJ13_bitCount_95d88_0 : decode cJ13_bitCount_95d88 0 = .ok (.lload_n 0, 1) := by decide +kernel
theorem dJ13_bitCount_95d88_1 : decode cJ13_bitCount_95d88 1 = .ok (.lload_n 0, 1) := by decide +kernel
theorem dJ13_bitCount_95d88_2 : decode cJ13_bitCount_95d88 2 = .ok (.iconst 1, 1) := by decide +kernel
theorem dJ13_bitCount_95d88_3 : decode cJ13_bitCount_95d88 3 = .ok (.lushr, 1) := by decide +kernel
theorem dJ13_bitCount_95d88_4 : decode cJ13_bitCount_95d88 4 = .ok (.ldc2_w 314, 3) := by decide +kernel
theorem dJ13_bitCount_95d88_7 : decode cJ13_bitCount_95d88 7 = .ok (.land, 1) := by decide +kernel
theorem dJ13_bitCount_95d88_8 : decode cJ13_bitCount_95d88 8 = .ok (.lsub, 1) := by decide +kernel
theorem dJ13_bitCount_95d88_9 : decode cJ13_bitCount_95d88 9 = .ok (.lstore_n 0, 1) := by decide +kernel
theorem dJ13_bitCount_95d88_10 : decode cJ13_bitCount_95d88 10 = .ok (.lload_n 0, 1) := by decide +kernel
theorem dJ13_bitCount_95d88_11 : decode cJ13_bitCount_95d88 11 = .ok (.ldc2_w 316, 3) := by decide +kernel
theorem dJ13_bitCount_95d88_14 : decode cJ13_bitCount_95d88 14 = .ok (.land, 1) := by decide +kernel
theorem dJ13_bitCount_95d88_15 : decode cJ13_bitCount_95d88 15 = .ok (.lload_n 0, 1) := by decide +kernel
theorem dJ13_bitCount_95d88_16 : decode cJ13_bitCount_95d88 16 = .ok (.iconst 2, 1) := by decide +kernel
theorem dJ13_bitCount_95d88_17 : decode cJ13_bitCount_95d88 17 = .ok (.lushr, 1) := by decide +kernel
theorem dJ13_bitCount_95d88_18 : decode cJ13_bitCount_95d88 18 = .ok (.ldc2_w 316, 3) := by decide +kernel
theorem dJ13_bitCount_95d88_21 : decode cJ13_bitCount_95d88 21 = .ok (.land, 1) := by decide +kernel
theorem dJ13_bitCount_95d88_22 : decode cJ13_bitCount_95d88 22 = .ok (.ladd, 1) := by decide +kernel
theorem dJ13_bitCount_95d88_23 : decode cJ13_bitCount_95d88 23 = .ok (.lstore_n 0, 1) := by decide +kernel
theorem dJ13_bitCount_95d88_24 : decode cJ13_bitCount_95d88 24 = .ok (.lload_n 0, 1) := by decide +kernel
theorem dJ13_bitCount_95d88_25 : decode cJ13_bitCount_95d88 25 = .ok (.lload_n 0, 1) := by decide +kernel
theorem dJ13_bitCount_95d88_26 : decode cJ13_bitCount_95d88 26 = .ok (.iconst 4, 1) := by decide +kernel
theorem dJ13_bitCount_95d88_27 : decode cJ13_bitCount_95d88 27 = .ok (.lushr, 1) := by decide +kernel
theorem dJ13_bitCount_95d88_28 : decode cJ13_bitCount_95d88 28 = .ok (.ladd, 1) := by decide +kernel
theorem dJ13_bitCount_95d88_29 : decode cJ13_bitCount_95d88 29 = .ok (.ldc2_w 318, 3) := by decide +kernel
theorem dJ13_bitCount_95d88_32 : decode cJ13_bitCount_95d88 32 = .ok (.land, 1) := by decide +kernel
theorem dJ13_bitCount_95d88_33 : decode cJ13_bitCount_95d88 33 = .ok (.lstore_n 0, 1) := by decide +kernel
theorem dJ13_bitCount_95d88_34 : decode cJ13_bitCount_95d88 34 = .ok (.lload_n 0, 1) := by decide +kernel
theorem dJ13_bitCount_95d88_35 : decode cJ13_bitCount_95d88 35 = .ok (.lload_n 0, 1) := by decide +kernel
theorem dJ13_bitCount_95d88_36 : decode cJ13_bitCount_95d88 36 = .ok (.bipush 8, 2) := by decide +kernel
theorem dJ13_bitCount_95d88_38 : decode cJ13_bitCount_95d88 38 = .ok (.lushr, 1) := by decide +kernel
theorem dJ13_bitCount_95d88_39 : decode cJ13_bitCount_95d88 39 = .ok (.ladd, 1) := by decide +kernel
theorem dJ13_bitCount_95d88_40 : decode cJ13_bitCount_95d88 40 = .ok (.lstore_n 0, 1) := by decide +kernel
theorem dJ13_bitCount_95d88_41 : decode cJ13_bitCount_95d88 41 = .ok (.lload_n 0, 1) := by decide +kernel
theorem dJ13_bitCount_95d88_42 : decode cJ13_bitCount_95d88 42 = .ok (.lload_n 0, 1) := by decide +kernel
theorem dJ13_bitCount_95d88_43 : decode cJ13_bitCount_95d88 43 = .ok (.bipush 16, 2) := by decide +kernel
theorem dJ13_bitCount_95d88_45 : decode cJ13_bitCount_95d88 45 = .ok (.lushr, 1) := by decide +kernel
theorem dJ13_bitCount_95d88_46 : decode cJ13_bitCount_95d88 46 = .ok (.ladd, 1) := by decide +kernel
theorem dJ13_bitCount_95d88_47 : decode cJ13_bitCount_95d88 47 = .ok (.lstore_n 0, 1) := by decide +kernel
theorem dJ13_bitCount_95d88_48 : decode cJ13_bitCount_95d88 48 = .ok (.lload_n 0, 1) := by decide +kernel
theorem dJ13_bitCount_95d88_49 : decode cJ13_bitCount_95d88 49 = .ok (.lload_n 0, 1) := by decide +kernel
theorem dJ13_bitCount_95d88_50 : decode cJ13_bitCount_95d88 50 = .ok (.bipush 32, 2) := by decide +kernel
theorem dJ13_bitCount_95d88_52 : decode cJ13_bitCount_95d88 52 = .ok (.lushr, 1) := by decide +kernel
theorem dJ13_bitCount_95d88_53 : decode cJ13_bitCount_95d88 53 = .ok (.ladd, 1) := by decide +kernel
theorem dJ13_bitCount_95d88_54 : decode cJ13_bitCount_95d88 54 = .ok (.lstore_n 0, 1) := by decide +kernel
theorem dJ13_bitCount_95d88_55 : decode cJ13_bitCount_95d88 55 = .ok (.lload_n 0, 1) := by decide +kernel
theorem dJ13_bitCount_95d88_56 : decode cJ13_bitCount_95d88 56 = .ok (.l2i, 1) := by decide +kernel
theorem dJ13_bitCount_95d88_57 : decode cJ13_bitCount_95d88 57 = .ok (.bipush 127, 2) := by decide +kernel
theorem dJ13_bitCount_95d88_59 : decode cJ13_bitCount_95d88 59 = .ok (.iand, 1) := by decide +kernel
theorem dJ13_bitCount_95d88_60 : decode cJ13_bitCount_95d88 60 = .ok (.ireturn, 1) := by decide +kernel
theorem dJ9_abs_0f7a4_0 : decode cJ9_abs_0f7a4 0 = .ok (.iload_n 0, 1) := by decide +kernel
theorem dJ9_abs_0f7a4_1 : decode cJ9_abs_0f7a4 1 = .ok (.ifCond .ge 8, 3) := by decide +kernel
theorem dJ9_abs_0f7a4_4 : decode cJ9_abs_0f7a4 4 = .ok (.iload_n 0, 1) := by decide +kernel
theorem dJ9_abs_0f7a4_5 : decode cJ9_abs_0f7a4 5 = .ok (.ineg, 1) := by decide +kernel
theorem dJ9_abs_0f7a4_6 : decode cJ9_abs_0f7a4 6 = .ok (.goto 4, 3) := by decide +kernel
theorem dJ9_abs_0f7a4_9 : decode cJ9_abs_0f7a4 9 = .ok (.iload_n 0, 1) := by decide +kernel
theorem dJ9_abs_0f7a4_10 : decode cJ9_abs_0f7a4 10 = .ok (.ireturn, 1) := by decide +kernel
theorem dJ9_max_7cf53_0 : decode cJ9_max_7cf53 0 = .ok (.iload_n 0, 1) := by decide +kernel
theorem dJ9_max_7cf53_1 : decode cJ9_max_7cf53 1 = .ok (.iload_n 1, 1) := by decide +kernel
theorem dJ9_max_7cf53_2 : decode cJ9_max_7cf53 2 = .ok (.if_icmp .lt 7, 3) := by decide +kernel
theorem dJ9_max_7cf53_5 : decode cJ9_max_7cf53 5 = .ok (.iload_n 0, 1) := by decide +kernel
theorem dJ9_max_7cf53_6 : decode cJ9_max_7cf53 6 = .ok (.goto 4, 3) := by decide +kernel
theorem dJ9_max_7cf53_9 : decode cJ9_max_7cf53 9 = .ok (.iload_n 1, 1) := by decide +kernel
theorem dJ9_max_7cf53_10 : decode cJ9_max_7cf53 10 = .ok (.ireturn, 1) := by decide +kernel
theorem dJ9_min_7cf53_0 : decode cJ9_min_7cf53 0 = .ok (.iload_n 0, 1) := by decide +kernel
theorem dJ9_min_7cf53_1 : decode cJ9_min_7cf53 1 = .ok (.iload_n 1, 1) := by decide +kernel
theorem dJ9_min_7cf53_2 : decode cJ9_min_7cf53 2 = .ok (.if_icmp .gt 7, 3) := by decide +kernel
theorem dJ9_min_7cf53_5 : decode cJ9_min_7cf53 5 = .ok (.iload_n 0, 1) := by decide +kernel
theorem dJ9_min_7cf53_6 : decode cJ9_min_7cf53 6 = .ok (.goto 4, 3) := by decide +kernel
theorem dJ9_min_7cf53_9 : decode cJ9_min_7cf53 9 = .ok (.iload_n 1, 1) := by decide +kernel
theorem dJ9_min_7cf53_10 : decode cJ9_min_7cf53 10 = .ok (.ireturn, 1) := by decide +kernel
theorem dJ0_length_8abf5_0 : decode cJ0_length_8abf5 0 = .ok (.aload_n 0, 1) := by decide +kernel
theorem dJ0_length_8abf5_1 : decode cJ0_length_8abf5 1 = .ok (.getfield 9, 3) := by decide +kernel
theorem dJ0_length_8abf5_4 : decode cJ0_length_8abf5 4 = .ok (.arraylength, 1) := by decide +kernel
theorem dJ0_length_8abf5_5 : decode cJ0_length_8abf5 5 = .ok (.aload_n 0, 1) := by decide +kernel
theorem dJ0_length_8abf5_6 : decode cJ0_length_8abf5 6 = .ok (.invokevirtual 335, 3) := by decide +kernel
theorem dJ0_length_8abf5_9 : decode cJ0_length_8abf5 9 = .ok (.ishr, 1) := by decide +kernel
theorem dJ0_length_8abf5_10 : decode cJ0_length_8abf5 10 = .ok (.ireturn, 1) := by decide +kernel
theorem dJ0_charAt_5068e_0 : decode cJ0_charAt_5068e 0 = .ok (.aload_n 0, 1) := by decide +kernel
theorem dJ0_charAt_5068e_1 : decode cJ0_charAt_5068e 1 = .ok (.invokevirtual 492, 3) := by decide +kernel
theorem dJ0_charAt_5068e_4 : decode cJ0_charAt_5068e 4 = .ok (.ifCond .eq 12, 3) := by decide +kernel
theorem dJ0_charAt_5068e_7 : decode cJ0_charAt_5068e 7 = .ok (.aload_n 0, 1) := by decide +kernel
theorem dJ0_charAt_5068e_8 : decode cJ0_charAt_5068e 8 = .ok (.getfield 9, 3) := by decide +kernel
theorem dJ0_charAt_5068e_11 : decode cJ0_charAt_5068e 11 = .ok (.iload_n 1, 1) := by decide +kernel
theorem dJ0_charAt_5068e_12 : decode cJ0_charAt_5068e 12 = .ok (.invokestatic 495, 3) := by decide +kernel
theorem dJ0_charAt_5068e_15 : decode cJ0_charAt_5068e 15 = .ok (.ireturn, 1) := by decide +kernel
theorem dJ0_charAt_5068e_16 : decode cJ0_charAt_5068e 16 = .ok (.aload_n 0, 1) := by decide +kernel
theorem dJ0_charAt_5068e_17 : decode cJ0_charAt_5068e 17 = .ok (.getfield 9, 3) := by decide +kernel
theorem dJ0_charAt_5068e_20 : decode cJ0_charAt_5068e 20 = .ok (.iload_n 1, 1) := by decide +kernel
theorem dJ0_charAt_5068e_21 : decode cJ0_charAt_5068e 21 = .ok (.invokestatic 498, 3) := by decide +kernel
theorem dJ0_charAt_5068e_24 : decode cJ0_charAt_5068e 24 = .ok (.ireturn, 1) := by decide +kernel
theorem dJ0_coder_7d493_0 : decode cJ0_coder_7d493 0 = .ok (.getstatic 38, 3) := by decide +kernel
theorem dJ0_coder_7d493_3 : decode cJ0_coder_7d493 3 = .ok (.ifCond .eq 10, 3) := by decide +kernel
theorem dJ0_coder_7d493_6 : decode cJ0_coder_7d493 6 = .ok (.aload_n 0, 1) := by decide +kernel
theorem dJ0_coder_7d493_7 : decode cJ0_coder_7d493 7 = .ok (.getfield 15, 3) := by decide +kernel
theorem dJ0_coder_7d493_10 : decode cJ0_coder_7d493 10 = .ok (.goto 4, 3) := by decide +kernel
theorem dJ0_coder_7d493_13 : decode cJ0_coder_7d493 13 = .ok (.iconst 1, 1) := by decide +kernel
theorem dJ0_coder_7d493_14 : decode cJ0_coder_7d493 14 = .ok (.ireturn, 1) := by decide +kernel
theorem dJ0_isLatin1_aae02_0 : decode cJ0_isLatin1_aae02 0 = .ok (.getstatic 38, 3) := by decide +kernel
theorem dJ0_isLatin1_aae02_3 : decode cJ0_isLatin1_aae02 3 = .ok (.ifCond .eq 14, 3) := by decide +kernel
theorem dJ0_isLatin1_aae02_6 : decode cJ0_isLatin1_aae02 6 = .ok (.aload_n 0, 1) := by decide +kernel
theorem dJ0_isLatin1_aae02_7 : decode cJ0_isLatin1_aae02 7 = .ok (.getfield 15, 3) := by decide +kernel
theorem dJ0_isLatin1_aae02_10 : decode cJ0_isLatin1_aae02 10 = .ok (.ifCond .ne 7, 3) := by decide +kernel
theorem dJ0_isLatin1_aae02_13 : decode cJ0_isLatin1_aae02 13 = .ok (.iconst 1, 1) := by decide +kernel
theorem dJ0_isLatin1_aae02_14 : decode cJ0_isLatin1_aae02 14 = .ok (.goto 4, 3) := by decide +kernel
theorem dJ0_isLatin1_aae02_17 : decode cJ0_isLatin1_aae02 17 = .ok (.iconst 0, 1) := by decide +kernel
theorem dJ0_isLatin1_aae02_18 : decode cJ0_isLatin1_aae02 18 = .ok (.ireturn, 1) := by decide +kernel
theorem dJ0_checkIndex_df160_0 : decode cJ0_checkIndex_df160 0 = .ok (.iload_n 0, 1) := by decide +kernel
theorem dJ0_checkIndex_df160_1 : decode cJ0_checkIndex_df160 1 = .ok (.iload_n 1, 1) := by decide +kernel
theorem dJ0_checkIndex_df160_2 : decode cJ0_checkIndex_df160 2 = .ok (.getstatic 1053, 3) := by decide +kernel
theorem dJ0_checkIndex_df160_5 : decode cJ0_checkIndex_df160 5 = .ok (.invokestatic 1059, 3) := by decide +kernel
theorem dJ0_checkIndex_df160_8 : decode cJ0_checkIndex_df160 8 = .ok (.pop, 1) := by decide +kernel
theorem dJ0_checkIndex_df160_9 : decode cJ0_checkIndex_df160 9 = .ok (.return_, 1) := by decide +kernel
theorem dJ1_charAt_3b067_0 : decode cJ1_charAt_3b067 0 = .ok (.iload_n 1, 1) := by decide +kernel
theorem dJ1_charAt_3b067_1 : decode cJ1_charAt_3b067 1 = .ok (.aload_n 0, 1) := by decide +kernel
theorem dJ1_charAt_3b067_2 : decode cJ1_charAt_3b067 2 = .ok (.arraylength, 1) := by decide +kernel
theorem dJ1_charAt_3b067_3 : decode cJ1_charAt_3b067 3 = .ok (.invokestatic 9, 3) := by decide +kernel
theorem dJ1_charAt_3b067_6 : decode cJ1_charAt_3b067 6 = .ok (.aload_n 0, 1) := by decide +kernel
theorem dJ1_charAt_3b067_7 : decode cJ1_charAt_3b067 7 = .ok (.iload_n 1, 1) := by decide +kernel
theorem dJ1_charAt_3b067_8 : decode cJ1_charAt_3b067 8 = .ok (.baload, 1) := by decide +kernel
theorem dJ1_charAt_3b067_9 : decode cJ1_charAt_3b067 9 = .ok (.sipush 255, 3) := by decide +kernel
theorem dJ1_charAt_3b067_12 : decode cJ1_charAt_3b067 12 = .ok (.iand, 1) := by decide +kernel
theorem dJ1_charAt_3b067_13 : decode cJ1_charAt_3b067 13 = .ok (.i2c, 1) := by decide +kernel
theorem dJ1_charAt_3b067_14 : decode cJ1_charAt_3b067 14 = .ok (.ireturn, 1) := by decide +kernel
theorem dJ2_getChar_3b067_0 : decode cJ2_getChar_3b067 0 = .ok (.getstatic 44, 3) := by decide +kernel
theorem dJ2_getChar_3b067_3 : decode cJ2_getChar_3b067 3 = .ok (.ifCond .ne 25, 3) := by decide +kernel
theorem dJ2_getChar_3b067_6 : decode cJ2_getChar_3b067 6 = .ok (.iload_n 1, 1) := by decide +kernel
theorem dJ2_getChar_3b067_7 : decode cJ2_getChar_3b067 7 = .ok (.ifCond .lt 11, 3) := by decide +kernel
theorem dJ2_getChar_3b067_10 : decode cJ2_getChar_3b067 10 = .ok (.iload_n 1, 1) := by decide +kernel
theorem dJ2_getChar_3b067_11 : decode cJ2_getChar_3b067 11 = .ok (.aload_n 0, 1) := by decide +kernel
theorem dJ2_getChar_3b067_12 : decode cJ2_getChar_3b067 12 = .ok (.invokestatic 48, 3) := by decide +kernel
theorem dJ2_getChar_3b067_15 : decode cJ2_getChar_3b067 15 = .ok (.if_icmp .lt 13, 3) := by decide +kernel
theorem dJ2_getChar_3b067_18 : decode cJ2_getChar_3b067 18 = .ok (.new 52, 3) := by decide +kernel
theorem dJ2_getChar_3b067_21 : decode cJ2_getChar_3b067 21 = .ok (.dup, 1) := by decide +kernel
theorem dJ2_getChar_3b067_22 : decode cJ2_getChar_3b067 22 = .ok (.ldc 54, 2) := by decide +kernel
theorem dJ2_getChar_3b067_24 : decode cJ2_getChar_3b067 24 = .ok (.invokespecial 56, 3) := by decide +kernel
theorem dJ2_getChar_3b067_27 : decode cJ2_getChar_3b067 27 = .ok (.athrow, 1) := by decide +kernel
theorem dJ2_getChar_3b067_28 : decode cJ2_getChar_3b067 28 = .ok (.iload_n 1, 1) := by decide +kernel
theorem dJ2_getChar_3b067_29 : decode cJ2_getChar_3b067 29 = .ok (.iconst 1, 1) := by decide +kernel
theorem dJ2_getChar_3b067_30 : decode cJ2_getChar_3b067 30 = .ok (.ishl, 1) := by decide +kernel
theorem dJ2_getChar_3b067_31 : decode cJ2_getChar_3b067 31 = .ok (.istore_n 1, 1) := by decide +kernel
theorem dJ2_getChar_3b067_32 : decode cJ2_getChar_3b067 32 = .ok (.aload_n 0, 1) := by decide +kernel
theorem dJ2_getChar_3b067_33 : decode cJ2_getChar_3b067 33 = .ok (.iload_n 1, 1) := by decide +kernel
theorem dJ2_getChar_3b067_34 : decode cJ2_getChar_3b067 34 = .ok (.iinc 1 1, 3) := by decide +kernel
theorem dJ2_getChar_3b067_37 : decode cJ2_getChar_3b067 37 = .ok (.baload, 1) := by decide +kernel
theorem dJ2_getChar_3b067_38 : decode cJ2_getChar_3b067 38 = .ok (.sipush 255, 3) := by decide +kernel
theorem dJ2_getChar_3b067_41 : decode cJ2_getChar_3b067 41 = .ok (.iand, 1) := by decide +kernel
theorem dJ2_getChar_3b067_42 : decode cJ2_getChar_3b067 42 = .ok (.getstatic 59, 3) := by decide +kernel
theorem dJ2_getChar_3b067_45 : decode cJ2_getChar_3b067 45 = .ok (.ishl, 1) := by decide +kernel
theorem dJ2_getChar_3b067_46 : decode cJ2_getChar_3b067 46 = .ok (.aload_n 0, 1) := by decide +kernel
theorem dJ2_getChar_3b067_47 : decode cJ2_getChar_3b067 47 = .ok (.iload_n 1, 1) := by decide +kernel
theorem dJ2_getChar_3b067_48 : decode cJ2_getChar_3b067 48 = .ok (.baload, 1) := by decide +kernel
theorem dJ2_getChar_3b067_49 : decode cJ2_getChar_3b067 49 = .ok (.sipush 255, 3) := by decide +kernel
theorem dJ2_getChar_3b067_52 : decode cJ2_getChar_3b067 52 = .ok (.iand, 1) := by decide +kernel
theorem dJ2_getChar_3b067_53 : decode cJ2_getChar_3b067 53 = .ok (.getstatic 63, 3) := by decide +kernel
theorem dJ2_getChar_3b067_56 : decode cJ2_getChar_3b067 56 = .ok (.ishl, 1) := by decide +kernel
theorem dJ2_getChar_3b067_57 : decode cJ2_getChar_3b067 57 = .ok (.ior, 1) := by decide +kernel
theorem dJ2_getChar_3b067_58 : decode cJ2_getChar_3b067 58 = .ok (.i2c, 1) := by decide +kernel
theorem dJ2_getChar_3b067_59 : decode cJ2_getChar_3b067 59 = .ok (.ireturn, 1) := by decide +kernel
theorem dJ2_length_9d52b_0 : decode cJ2_length_9d52b 0 = .ok (.aload_n 0, 1) := by decide +kernel
theorem dJ2_length_9d52b_1 : decode cJ2_length_9d52b 1 = .ok (.arraylength, 1) := by decide +kernel
theorem dJ2_length_9d52b_2 : decode cJ2_length_9d52b 2 = .ok (.iconst 1, 1) := by decide +kernel
theorem dJ2_length_9d52b_3 : decode cJ2_length_9d52b 3 = .ok (.ishr, 1) := by decide +kernel
theorem dJ2_length_9d52b_4 : decode cJ2_length_9d52b 4 = .ok (.ireturn, 1) := by decide +kernel
theorem dJ2_charAt_3b067_0 : decode cJ2_charAt_3b067 0 = .ok (.iload_n 1, 1) := by decide +kernel
theorem dJ2_charAt_3b067_1 : decode cJ2_charAt_3b067 1 = .ok (.aload_n 0, 1) := by decide +kernel
theorem dJ2_charAt_3b067_2 : decode cJ2_charAt_3b067 2 = .ok (.invokestatic 67, 3) := by decide +kernel
theorem dJ2_charAt_3b067_5 : decode cJ2_charAt_3b067 5 = .ok (.aload_n 0, 1) := by decide +kernel
theorem dJ2_charAt_3b067_6 : decode cJ2_charAt_3b067 6 = .ok (.iload_n 1, 1) := by decide +kernel
theorem dJ2_charAt_3b067_7 : decode cJ2_charAt_3b067 7 = .ok (.invokestatic 71, 3) := by decide +kernel
theorem dJ2_charAt_3b067_10 : decode cJ2_charAt_3b067 10 = .ok (.ireturn, 1) := by decide +kernel
theorem dJ2_checkIndex_2214a_0 : decode cJ2_checkIndex_2214a 0 = .ok (.iload_n 0, 1) := by decide +kernel
theorem dJ2_checkIndex_2214a_1 : decode cJ2_checkIndex_2214a 1 = .ok (.aload_n 1, 1) := by decide +kernel
theorem dJ2_checkIndex_2214a_2 : decode cJ2_checkIndex_2214a 2 = .ok (.invokestatic 48, 3) := by decide +kernel
theorem dJ2_checkIndex_2214a_5 : decode cJ2_checkIndex_2214a 5 = .ok (.invokestatic 414, 3) := by decide +kernel
theorem dJ2_checkIndex_2214a_8 : decode cJ2_checkIndex_2214a 8 = .ok (.return_, 1) := by decide +kernel
theorem dJ3_checkIndex_8e157_0 : decode cJ3_checkIndex_8e157 0 = .ok (.iload_n 0, 1) := by decide +kernel
theorem dJ3_checkIndex_8e157_1 : decode cJ3_checkIndex_8e157 1 = .ok (.ifCond .lt 8, 3) := by decide +kernel
theorem dJ3_checkIndex_8e157_4 : decode cJ3_checkIndex_8e157 4 = .ok (.iload_n 0, 1) := by decide +kernel
theorem dJ3_checkIndex_8e157_5 : decode cJ3_checkIndex_8e157 5 = .ok (.iload_n 1, 1) := by decide +kernel
theorem dJ3_checkIndex_8e157_6 : decode cJ3_checkIndex_8e157 6 = .ok (.if_icmp .lt 10, 3) := by decide +kernel
theorem dJ3_checkIndex_8e157_9 : decode cJ3_checkIndex_8e157 9 = .ok (.aload_n 2, 1) := by decide +kernel
theorem dJ3_checkIndex_8e157_10 : decode cJ3_checkIndex_8e157 10 = .ok (.iload_n 0, 1) := by decide +kernel
theorem dJ3_checkIndex_8e157_11 : decode cJ3_checkIndex_8e157 11 = .ok (.iload_n 1, 1) := by decide +kernel
theorem dJ3_checkIndex_8e157_12 : decode cJ3_checkIndex_8e157 12 = .ok (.invokestatic 95, 3) := by decide +kernel
theorem dJ3_checkIndex_8e157_15 : decode cJ3_checkIndex_8e157 15 = .ok (.athrow, 1) := by decide +kernel
theorem dJ3_checkIndex_8e157_16 : decode cJ3_checkIndex_8e157 16 = .ok (.iload_n 0, 1) := by decide +kernel
theorem dJ3_checkIndex_8e157_17 : decode cJ3_checkIndex_8e157 17 = .ok (.ireturn, 1) := by decide +kernel
theorem dL_law_0 : decode cL_law 0 = .ok (.new 7, 3) := by decide +kernel
theorem dL_law_3 : decode cL_law 3 = .ok (.dup, 1) := by decide +kernel
theorem dL_law_4 : decode cL_law 4 = .ok (.invokespecial 9, 3) := by decide +kernel
theorem dL_law_7 : decode cL_law 7 = .ok (.astore_n 1, 1) := by decide +kernel
theorem dL_law_8 : decode cL_law 8 = .ok (.new 10, 3) := by decide +kernel
theorem dL_law_11 : decode cL_law 11 = .ok (.dup, 1) := by decide +kernel
theorem dL_law_12 : decode cL_law 12 = .ok (.invokespecial 12, 3) := by decide +kernel
theorem dL_law_15 : decode cL_law 15 = .ok (.astore_n 2, 1) := by decide +kernel
theorem dL_law_16 : decode cL_law 16 = .ok (.iconst 0, 1) := by decide +kernel
theorem dL_law_17 : decode cL_law 17 = .ok (.istore_n 3, 1) := by decide +kernel
theorem dL_law_18 : decode cL_law 18 = .ok (.iload_n 3, 1) := by decide +kernel
theorem dL_law_19 : decode cL_law 19 = .ok (.aload_n 0, 1) := by decide +kernel
theorem dL_law_20 : decode cL_law 20 = .ok (.arraylength, 1) := by decide +kernel
theorem dL_law_21 : decode cL_law 21 = .ok (.bipush 7, 2) := by decide +kernel
theorem dL_law_23 : decode cL_law 23 = .ok (.isub, 1) := by decide +kernel
theorem dL_law_24 : decode cL_law 24 = .ok (.if_icmp .gt 1368, 3) := by decide +kernel
theorem dL_law_27 : decode cL_law 27 = .ok (.aload_n 0, 1) := by decide +kernel
theorem dL_law_28 : decode cL_law 28 = .ok (.iload_n 3, 1) := by decide +kernel
theorem dL_law_29 : decode cL_law 29 = .ok (.iaload, 1) := by decide +kernel
theorem dL_law_30 : decode cL_law 30 = .ok (.bipush 63, 2) := by decide +kernel
theorem dL_law_32 : decode cL_law 32 = .ok (.iand, 1) := by decide +kernel
theorem dL_law_33 : decode cL_law 33 = .ok (.tableswitch 1353 0 36 #[163, 226, 249, 262, 285, 318, 351, 394, 447, 500, 523, 546, 559, 582, 595, 608, 631, 654, 707, 740, 773, 852, 885, 898, 911, 924, 977, 1052, 1105, 1128, 1181, 1204, 1227, 1251, 1284, 1307, 1330], 163) := by decide +kernel
theorem dL_law_196 : decode cL_law 196 = .ok (.aload_n 1, 1) := by decide +kernel
theorem dL_law_197 : decode cL_law 197 = .ok (.aload_n 0, 1) := by decide +kernel
theorem dL_law_198 : decode cL_law 198 = .ok (.iload_n 3, 1) := by decide +kernel
theorem dL_law_199 : decode cL_law 199 = .ok (.iconst 1, 1) := by decide +kernel
theorem dL_law_200 : decode cL_law 200 = .ok (.iadd, 1) := by decide +kernel
theorem dL_law_201 : decode cL_law 201 = .ok (.iaload, 1) := by decide +kernel
theorem dL_law_202 : decode cL_law 202 = .ok (.aload_n 0, 1) := by decide +kernel
theorem dL_law_203 : decode cL_law 203 = .ok (.iload_n 3, 1) := by decide +kernel
theorem dL_law_204 : decode cL_law 204 = .ok (.iconst 2, 1) := by decide +kernel
theorem dL_law_205 : decode cL_law 205 = .ok (.iadd, 1) := by decide +kernel
theorem dL_law_206 : decode cL_law 206 = .ok (.iaload, 1) := by decide +kernel
theorem dL_law_207 : decode cL_law 207 = .ok (.aload_n 0, 1) := by decide +kernel
theorem dL_law_208 : decode cL_law 208 = .ok (.iload_n 3, 1) := by decide +kernel
theorem dL_law_209 : decode cL_law 209 = .ok (.iconst 3, 1) := by decide +kernel
theorem dL_law_210 : decode cL_law 210 = .ok (.iadd, 1) := by decide +kernel
theorem dL_law_211 : decode cL_law 211 = .ok (.iaload, 1) := by decide +kernel
theorem dL_law_212 : decode cL_law 212 = .ok (.aload_n 0, 1) := by decide +kernel
theorem dL_law_213 : decode cL_law 213 = .ok (.iload_n 3, 1) := by decide +kernel
theorem dL_law_214 : decode cL_law 214 = .ok (.iconst 4, 1) := by decide +kernel
theorem dL_law_215 : decode cL_law 215 = .ok (.iadd, 1) := by decide +kernel
theorem dL_law_216 : decode cL_law 216 = .ok (.iaload, 1) := by decide +kernel
theorem dL_law_217 : decode cL_law 217 = .ok (.aload_n 0, 1) := by decide +kernel
theorem dL_law_218 : decode cL_law 218 = .ok (.iload_n 3, 1) := by decide +kernel
theorem dL_law_219 : decode cL_law 219 = .ok (.iconst 5, 1) := by decide +kernel
theorem dL_law_220 : decode cL_law 220 = .ok (.iadd, 1) := by decide +kernel
theorem dL_law_221 : decode cL_law 221 = .ok (.iaload, 1) := by decide +kernel
theorem dL_law_222 : decode cL_law 222 = .ok (.invokevirtual 13, 3) := by decide +kernel
theorem dL_law_225 : decode cL_law 225 = .ok (.aload_n 2, 1) := by decide +kernel
theorem dL_law_226 : decode cL_law 226 = .ok (.aload_n 0, 1) := by decide +kernel
theorem dL_law_227 : decode cL_law 227 = .ok (.iload_n 3, 1) := by decide +kernel
theorem dL_law_228 : decode cL_law 228 = .ok (.iconst 1, 1) := by decide +kernel
theorem dL_law_229 : decode cL_law 229 = .ok (.iadd, 1) := by decide +kernel
theorem dL_law_230 : decode cL_law 230 = .ok (.iaload, 1) := by decide +kernel
theorem dL_law_231 : decode cL_law 231 = .ok (.aload_n 0, 1) := by decide +kernel
theorem dL_law_232 : decode cL_law 232 = .ok (.iload_n 3, 1) := by decide +kernel
theorem dL_law_233 : decode cL_law 233 = .ok (.iconst 2, 1) := by decide +kernel
theorem dL_law_234 : decode cL_law 234 = .ok (.iadd, 1) := by decide +kernel
theorem dL_law_235 : decode cL_law 235 = .ok (.iaload, 1) := by decide +kernel
theorem dL_law_236 : decode cL_law 236 = .ok (.aload_n 0, 1) := by decide +kernel
theorem dL_law_237 : decode cL_law 237 = .ok (.iload_n 3, 1) := by decide +kernel
theorem dL_law_238 : decode cL_law 238 = .ok (.iconst 3, 1) := by decide +kernel
theorem dL_law_239 : decode cL_law 239 = .ok (.iadd, 1) := by decide +kernel
theorem dL_law_240 : decode cL_law 240 = .ok (.iaload, 1) := by decide +kernel
theorem dL_law_241 : decode cL_law 241 = .ok (.aload_n 0, 1) := by decide +kernel
theorem dL_law_242 : decode cL_law 242 = .ok (.iload_n 3, 1) := by decide +kernel
theorem dL_law_243 : decode cL_law 243 = .ok (.iconst 4, 1) := by decide +kernel
theorem dL_law_244 : decode cL_law 244 = .ok (.iadd, 1) := by decide +kernel
theorem dL_law_245 : decode cL_law 245 = .ok (.iaload, 1) := by decide +kernel
theorem dL_law_246 : decode cL_law 246 = .ok (.aload_n 0, 1) := by decide +kernel
theorem dL_law_247 : decode cL_law 247 = .ok (.iload_n 3, 1) := by decide +kernel
theorem dL_law_248 : decode cL_law 248 = .ok (.iconst 5, 1) := by decide +kernel
theorem dL_law_249 : decode cL_law 249 = .ok (.iadd, 1) := by decide +kernel
theorem dL_law_250 : decode cL_law 250 = .ok (.iaload, 1) := by decide +kernel
theorem dL_law_251 : decode cL_law 251 = .ok (.invokevirtual 17, 3) := by decide +kernel
theorem dL_law_254 : decode cL_law 254 = .ok (.if_icmp .eq 1132, 3) := by decide +kernel
theorem dL_law_257 : decode cL_law 257 = .ok (.iconst 0, 1) := by decide +kernel
theorem dL_law_258 : decode cL_law 258 = .ok (.ireturn, 1) := by decide +kernel
theorem dL_law_259 : decode cL_law 259 = .ok (.aload_n 1, 1) := by decide +kernel
theorem dL_law_260 : decode cL_law 260 = .ok (.aload_n 0, 1) := by decide +kernel
theorem dL_law_261 : decode cL_law 261 = .ok (.iload_n 3, 1) := by decide +kernel
theorem dL_law_262 : decode cL_law 262 = .ok (.iconst 1, 1) := by decide +kernel
theorem dL_law_263 : decode cL_law 263 = .ok (.iadd, 1) := by decide +kernel
theorem dL_law_264 : decode cL_law 264 = .ok (.iaload, 1) := by decide +kernel
theorem dL_law_265 : decode cL_law 265 = .ok (.invokevirtual 18, 3) := by decide +kernel
theorem dL_law_268 : decode cL_law 268 = .ok (.aload_n 2, 1) := by decide +kernel
theorem dL_law_269 : decode cL_law 269 = .ok (.aload_n 0, 1) := by decide +kernel
theorem dL_law_270 : decode cL_law 270 = .ok (.iload_n 3, 1) := by decide +kernel
theorem dL_law_271 : decode cL_law 271 = .ok (.iconst 1, 1) := by decide +kernel
theorem dL_law_272 : decode cL_law 272 = .ok (.iadd, 1) := by decide +kernel
theorem dL_law_273 : decode cL_law 273 = .ok (.iaload, 1) := by decide +kernel
theorem dL_law_274 : decode cL_law 274 = .ok (.invokevirtual 22, 3) := by decide +kernel
theorem dL_law_277 : decode cL_law 277 = .ok (.if_icmp .eq 1109, 3) := by decide +kernel
theorem dL_law_280 : decode cL_law 280 = .ok (.iconst 0, 1) := by decide +kernel
theorem dL_law_281 : decode cL_law 281 = .ok (.ireturn, 1) := by decide +kernel
theorem dL_law_282 : decode cL_law 282 = .ok (.aload_n 1, 1) := by decide +kernel
theorem dL_law_283 : decode cL_law 283 = .ok (.invokevirtual 23, 3) := by decide +kernel
theorem dL_law_286 : decode cL_law 286 = .ok (.aload_n 2, 1) := by decide +kernel
theorem dL_law_287 : decode cL_law 287 = .ok (.invokevirtual 27, 3) := by decide +kernel
theorem dL_law_290 : decode cL_law 290 = .ok (.if_icmp .eq 1096, 3) := by decide +kernel
theorem dL_law_293 : decode cL_law 293 = .ok (.iconst 0, 1) := by decide +kernel
theorem dL_law_294 : decode cL_law 294 = .ok (.ireturn, 1) := by decide +kernel
theorem dL_law_295 : decode cL_law 295 = .ok (.aload_n 1, 1) := by decide +kernel
theorem dL_law_296 : decode cL_law 296 = .ok (.aload_n 0, 1) := by decide +kernel
theorem dL_law_297 : decode cL_law 297 = .ok (.iload_n 3, 1) := by decide +kernel
theorem dL_law_298 : decode cL_law 298 = .ok (.iconst 1, 1) := by decide +kernel
theorem dL_law_299 : decode cL_law 299 = .ok (.iadd, 1) := by decide +kernel
theorem dL_law_300 : decode cL_law 300 = .ok (.iaload, 1) := by decide +kernel
theorem dL_law_301 : decode cL_law 301 = .ok (.invokevirtual 28, 3) := by decide +kernel
theorem dL_law_304 : decode cL_law 304 = .ok (.aload_n 2, 1) := by decide +kernel
theorem dL_law_305 : decode cL_law 305 = .ok (.aload_n 0, 1) := by decide +kernel
theorem dL_law_306 : decode cL_law 306 = .ok (.iload_n 3, 1) := by decide +kernel
theorem dL_law_307 : decode cL_law 307 = .ok (.iconst 1, 1) := by decide +kernel
theorem dL_law_308 : decode cL_law 308 = .ok (.iadd, 1) := by decide +kernel
theorem dL_law_309 : decode cL_law 309 = .ok (.iaload, 1) := by decide +kernel
theorem dL_law_310 : decode cL_law 310 = .ok (.invokevirtual 31, 3) := by decide +kernel
theorem dL_law_313 : decode cL_law 313 = .ok (.if_icmp .eq 1073, 3) := by decide +kernel
theorem dL_law_316 : decode cL_law 316 = .ok (.iconst 0, 1) := by decide +kernel
theorem dL_law_317 : decode cL_law 317 = .ok (.ireturn, 1) := by decide +kernel
theorem dL_law_318 : decode cL_law 318 = .ok (.aload_n 1, 1) := by decide +kernel
theorem dL_law_319 : decode cL_law 319 = .ok (.aload_n 0, 1) := by decide +kernel
theorem dL_law_320 : decode cL_law 320 = .ok (.iload_n 3, 1) := by decide +kernel
theorem dL_law_321 : decode cL_law 321 = .ok (.iconst 1, 1) := by decide +kernel
theorem dL_law_322 : decode cL_law 322 = .ok (.iadd, 1) := by decide +kernel
theorem dL_law_323 : decode cL_law 323 = .ok (.iaload, 1) := by decide +kernel
theorem dL_law_324 : decode cL_law 324 = .ok (.aload_n 0, 1) := by decide +kernel
theorem dL_law_325 : decode cL_law 325 = .ok (.iload_n 3, 1) := by decide +kernel
theorem dL_law_326 : decode cL_law 326 = .ok (.iconst 2, 1) := by decide +kernel
theorem dL_law_327 : decode cL_law 327 = .ok (.iadd, 1) := by decide +kernel
theorem dL_law_328 : decode cL_law 328 = .ok (.iaload, 1) := by decide +kernel
theorem dL_law_329 : decode cL_law 329 = .ok (.invokevirtual 32, 3) := by decide +kernel
theorem dL_law_332 : decode cL_law 332 = .ok (.aload_n 2, 1) := by decide +kernel
theorem dL_law_333 : decode cL_law 333 = .ok (.aload_n 0, 1) := by decide +kernel
theorem dL_law_334 : decode cL_law 334 = .ok (.iload_n 3, 1) := by decide +kernel
theorem dL_law_335 : decode cL_law 335 = .ok (.iconst 1, 1) := by decide +kernel
theorem dL_law_336 : decode cL_law 336 = .ok (.iadd, 1) := by decide +kernel
theorem dL_law_337 : decode cL_law 337 = .ok (.iaload, 1) := by decide +kernel
theorem dL_law_338 : decode cL_law 338 = .ok (.aload_n 0, 1) := by decide +kernel
theorem dL_law_339 : decode cL_law 339 = .ok (.iload_n 3, 1) := by decide +kernel
theorem dL_law_340 : decode cL_law 340 = .ok (.iconst 2, 1) := by decide +kernel
theorem dL_law_341 : decode cL_law 341 = .ok (.iadd, 1) := by decide +kernel
theorem dL_law_342 : decode cL_law 342 = .ok (.iaload, 1) := by decide +kernel
theorem dL_law_343 : decode cL_law 343 = .ok (.invokevirtual 36, 3) := by decide +kernel
theorem dL_law_346 : decode cL_law 346 = .ok (.if_icmp .eq 1040, 3) := by decide +kernel
theorem dL_law_349 : decode cL_law 349 = .ok (.iconst 0, 1) := by decide +kernel
theorem dL_law_350 : decode cL_law 350 = .ok (.ireturn, 1) := by decide +kernel
theorem dL_law_351 : decode cL_law 351 = .ok (.aload_n 1, 1) := by decide +kernel
theorem dL_law_352 : decode cL_law 352 = .ok (.aload_n 0, 1) := by decide +kernel
theorem dL_law_353 : decode cL_law 353 = .ok (.iload_n 3, 1) := by decide +kernel
theorem dL_law_354 : decode cL_law 354 = .ok (.iconst 1, 1) := by decide +kernel
theorem dL_law_355 : decode cL_law 355 = .ok (.iadd, 1) := by decide +kernel
theorem dL_law_356 : decode cL_law 356 = .ok (.iaload, 1) := by decide +kernel
theorem dL_law_357 : decode cL_law 357 = .ok (.aload_n 0, 1) := by decide +kernel
theorem dL_law_358 : decode cL_law 358 = .ok (.iload_n 3, 1) := by decide +kernel
theorem dL_law_359 : decode cL_law 359 = .ok (.iconst 2, 1) := by decide +kernel
theorem dL_law_360 : decode cL_law 360 = .ok (.iadd, 1) := by decide +kernel
theorem dL_law_361 : decode cL_law 361 = .ok (.iaload, 1) := by decide +kernel
theorem dL_law_362 : decode cL_law 362 = .ok (.invokevirtual 37, 3) := by decide +kernel
theorem dL_law_365 : decode cL_law 365 = .ok (.aload_n 2, 1) := by decide +kernel
theorem dL_law_366 : decode cL_law 366 = .ok (.aload_n 0, 1) := by decide +kernel
theorem dL_law_367 : decode cL_law 367 = .ok (.iload_n 3, 1) := by decide +kernel
theorem dL_law_368 : decode cL_law 368 = .ok (.iconst 1, 1) := by decide +kernel
theorem dL_law_369 : decode cL_law 369 = .ok (.iadd, 1) := by decide +kernel
theorem dL_law_370 : decode cL_law 370 = .ok (.iaload, 1) := by decide +kernel
theorem dL_law_371 : decode cL_law 371 = .ok (.aload_n 0, 1) := by decide +kernel
theorem dL_law_372 : decode cL_law 372 = .ok (.iload_n 3, 1) := by decide +kernel
theorem dL_law_373 : decode cL_law 373 = .ok (.iconst 2, 1) := by decide +kernel
theorem dL_law_374 : decode cL_law 374 = .ok (.iadd, 1) := by decide +kernel
theorem dL_law_375 : decode cL_law 375 = .ok (.iaload, 1) := by decide +kernel
theorem dL_law_376 : decode cL_law 376 = .ok (.invokevirtual 40, 3) := by decide +kernel
theorem dL_law_379 : decode cL_law 379 = .ok (.if_icmp .eq 1007, 3) := by decide +kernel
theorem dL_law_382 : decode cL_law 382 = .ok (.iconst 0, 1) := by decide +kernel
theorem dL_law_383 : decode cL_law 383 = .ok (.ireturn, 1) := by decide +kernel
theorem dL_law_384 : decode cL_law 384 = .ok (.aload_n 1, 1) := by decide +kernel
theorem dL_law_385 : decode cL_law 385 = .ok (.aload_n 0, 1) := by decide +kernel
theorem dL_law_386 : decode cL_law 386 = .ok (.iload_n 3, 1) := by decide +kernel
theorem dL_law_387 : decode cL_law 387 = .ok (.iconst 1, 1) := by decide +kernel
theorem dL_law_388 : decode cL_law 388 = .ok (.iadd, 1) := by decide +kernel
theorem dL_law_389 : decode cL_law 389 = .ok (.iaload, 1) := by decide +kernel
theorem dL_law_390 : decode cL_law 390 = .ok (.aload_n 0, 1) := by decide +kernel
theorem dL_law_391 : decode cL_law 391 = .ok (.iload_n 3, 1) := by decide +kernel
theorem dL_law_392 : decode cL_law 392 = .ok (.iconst 2, 1) := by decide +kernel
theorem dL_law_393 : decode cL_law 393 = .ok (.iadd, 1) := by decide +kernel
theorem dL_law_394 : decode cL_law 394 = .ok (.iaload, 1) := by decide +kernel
theorem dL_law_395 : decode cL_law 395 = .ok (.aload_n 0, 1) := by decide +kernel
theorem dL_law_396 : decode cL_law 396 = .ok (.iload_n 3, 1) := by decide +kernel
theorem dL_law_397 : decode cL_law 397 = .ok (.iconst 3, 1) := by decide +kernel
theorem dL_law_398 : decode cL_law 398 = .ok (.iadd, 1) := by decide +kernel
theorem dL_law_399 : decode cL_law 399 = .ok (.iaload, 1) := by decide +kernel
theorem dL_law_400 : decode cL_law 400 = .ok (.invokevirtual 41, 3) := by decide +kernel
theorem dL_law_403 : decode cL_law 403 = .ok (.aload_n 2, 1) := by decide +kernel
theorem dL_law_404 : decode cL_law 404 = .ok (.aload_n 0, 1) := by decide +kernel
theorem dL_law_405 : decode cL_law 405 = .ok (.iload_n 3, 1) := by decide +kernel
theorem dL_law_406 : decode cL_law 406 = .ok (.iconst 1, 1) := by decide +kernel
theorem dL_law_407 : decode cL_law 407 = .ok (.iadd, 1) := by decide +kernel
theorem dL_law_408 : decode cL_law 408 = .ok (.iaload, 1) := by decide +kernel
theorem dL_law_409 : decode cL_law 409 = .ok (.aload_n 0, 1) := by decide +kernel
theorem dL_law_410 : decode cL_law 410 = .ok (.iload_n 3, 1) := by decide +kernel
theorem dL_law_411 : decode cL_law 411 = .ok (.iconst 2, 1) := by decide +kernel
theorem dL_law_412 : decode cL_law 412 = .ok (.iadd, 1) := by decide +kernel
theorem dL_law_413 : decode cL_law 413 = .ok (.iaload, 1) := by decide +kernel
theorem dL_law_414 : decode cL_law 414 = .ok (.aload_n 0, 1) := by decide +kernel
theorem dL_law_415 : decode cL_law 415 = .ok (.iload_n 3, 1) := by decide +kernel
theorem dL_law_416 : decode cL_law 416 = .ok (.iconst 3, 1) := by decide +kernel
theorem dL_law_417 : decode cL_law 417 = .ok (.iadd, 1) := by decide +kernel
theorem dL_law_418 : decode cL_law 418 = .ok (.iaload, 1) := by decide +kernel
theorem dL_law_419 : decode cL_law 419 = .ok (.invokevirtual 45, 3) := by decide +kernel
theorem dL_law_422 : decode cL_law 422 = .ok (.if_icmp .eq 964, 3) := by decide +kernel
theorem dL_law_425 : decode cL_law 425 = .ok (.iconst 0, 1) := by decide +kernel
theorem dL_law_426 : decode cL_law 426 = .ok (.ireturn, 1) := by decide +kernel
theorem dL_law_427 : decode cL_law 427 = .ok (.aload_n 1, 1) := by decide +kernel
theorem dL_law_428 : decode cL_law 428 = .ok (.aload_n 0, 1) := by decide +kernel
theorem dL_law_429 : decode cL_law 429 = .ok (.iload_n 3, 1) := by decide +kernel
theorem dL_law_430 : decode cL_law 430 = .ok (.iconst 1, 1) := by decide +kernel
theorem dL_law_431 : decode cL_law 431 = .ok (.iadd, 1) := by decide +kernel
theorem dL_law_432 : decode cL_law 432 = .ok (.iaload, 1) := by decide +kernel
theorem dL_law_433 : decode cL_law 433 = .ok (.aload_n 0, 1) := by decide +kernel
theorem dL_law_434 : decode cL_law 434 = .ok (.iload_n 3, 1) := by decide +kernel
theorem dL_law_435 : decode cL_law 435 = .ok (.iconst 2, 1) := by decide +kernel
theorem dL_law_436 : decode cL_law 436 = .ok (.iadd, 1) := by decide +kernel
theorem dL_law_437 : decode cL_law 437 = .ok (.iaload, 1) := by decide +kernel
theorem dL_law_438 : decode cL_law 438 = .ok (.aload_n 0, 1) := by decide +kernel
theorem dL_law_439 : decode cL_law 439 = .ok (.iload_n 3, 1) := by decide +kernel
theorem dL_law_440 : decode cL_law 440 = .ok (.iconst 3, 1) := by decide +kernel
theorem dL_law_441 : decode cL_law 441 = .ok (.iadd, 1) := by decide +kernel
theorem dL_law_442 : decode cL_law 442 = .ok (.iaload, 1) := by decide +kernel
theorem dL_law_443 : decode cL_law 443 = .ok (.aload_n 0, 1) := by decide +kernel
theorem dL_law_444 : decode cL_law 444 = .ok (.iload_n 3, 1) := by decide +kernel
theorem dL_law_445 : decode cL_law 445 = .ok (.iconst 4, 1) := by decide +kernel
theorem dL_law_446 : decode cL_law 446 = .ok (.iadd, 1) := by decide +kernel
theorem dL_law_447 : decode cL_law 447 = .ok (.iaload, 1) := by decide +kernel
theorem dL_law_448 : decode cL_law 448 = .ok (.invokevirtual 46, 3) := by decide +kernel
theorem dL_law_451 : decode cL_law 451 = .ok (.aload_n 2, 1) := by decide +kernel
theorem dL_law_452 : decode cL_law 452 = .ok (.aload_n 0, 1) := by decide +kernel
theorem dL_law_453 : decode cL_law 453 = .ok (.iload_n 3, 1) := by decide +kernel
theorem dL_law_454 : decode cL_law 454 = .ok (.iconst 1, 1) := by decide +kernel
theorem dL_law_455 : decode cL_law 455 = .ok (.iadd, 1) := by decide +kernel
theorem dL_law_456 : decode cL_law 456 = .ok (.iaload, 1) := by decide +kernel
theorem dL_law_457 : decode cL_law 457 = .ok (.aload_n 0, 1) := by decide +kernel
theorem dL_law_458 : decode cL_law 458 = .ok (.iload_n 3, 1) := by decide +kernel
theorem dL_law_459 : decode cL_law 459 = .ok (.iconst 2, 1) := by decide +kernel
theorem dL_law_460 : decode cL_law 460 = .ok (.iadd, 1) := by decide +kernel
theorem dL_law_461 : decode cL_law 461 = .ok (.iaload, 1) := by decide +kernel
theorem dL_law_462 : decode cL_law 462 = .ok (.aload_n 0, 1) := by decide +kernel
theorem dL_law_463 : decode cL_law 463 = .ok (.iload_n 3, 1) := by decide +kernel
theorem dL_law_464 : decode cL_law 464 = .ok (.iconst 3, 1) := by decide +kernel
theorem dL_law_465 : decode cL_law 465 = .ok (.iadd, 1) := by decide +kernel
theorem dL_law_466 : decode cL_law 466 = .ok (.iaload, 1) := by decide +kernel
theorem dL_law_467 : decode cL_law 467 = .ok (.aload_n 0, 1) := by decide +kernel
theorem dL_law_468 : decode cL_law 468 = .ok (.iload_n 3, 1) := by decide +kernel
theorem dL_law_469 : decode cL_law 469 = .ok (.iconst 4, 1) := by decide +kernel
theorem dL_law_470 : decode cL_law 470 = .ok (.iadd, 1) := by decide +kernel
theorem dL_law_471 : decode cL_law 471 = .ok (.iaload, 1) := by decide +kernel
theorem dL_law_472 : decode cL_law 472 = .ok (.invokevirtual 50, 3) := by decide +kernel
theorem dL_law_475 : decode cL_law 475 = .ok (.if_icmp .eq 911, 3) := by decide +kernel
theorem dL_law_478 : decode cL_law 478 = .ok (.iconst 0, 1) := by decide +kernel
theorem dL_law_479 : decode cL_law 479 = .ok (.ireturn, 1) := by decide +kernel
theorem dL_law_480 : decode cL_law 480 = .ok (.aload_n 1, 1) := by decide +kernel
theorem dL_law_481 : decode cL_law 481 = .ok (.aload_n 0, 1) := by decide +kernel
theorem dL_law_482 : decode cL_law 482 = .ok (.iload_n 3, 1) := by decide +kernel
theorem dL_law_483 : decode cL_law 483 = .ok (.iconst 1, 1) := by decide +kernel
theorem dL_law_484 : decode cL_law 484 = .ok (.iadd, 1) := by decide +kernel
theorem dL_law_485 : decode cL_law 485 = .ok (.iaload, 1) := by decide +kernel
theorem dL_law_486 : decode cL_law 486 = .ok (.aload_n 0, 1) := by decide +kernel
theorem dL_law_487 : decode cL_law 487 = .ok (.iload_n 3, 1) := by decide +kernel
theorem dL_law_488 : decode cL_law 488 = .ok (.iconst 2, 1) := by decide +kernel
theorem dL_law_489 : decode cL_law 489 = .ok (.iadd, 1) := by decide +kernel
theorem dL_law_490 : decode cL_law 490 = .ok (.iaload, 1) := by decide +kernel
theorem dL_law_491 : decode cL_law 491 = .ok (.aload_n 0, 1) := by decide +kernel
theorem dL_law_492 : decode cL_law 492 = .ok (.iload_n 3, 1) := by decide +kernel
theorem dL_law_493 : decode cL_law 493 = .ok (.iconst 3, 1) := by decide +kernel
theorem dL_law_494 : decode cL_law 494 = .ok (.iadd, 1) := by decide +kernel
theorem dL_law_495 : decode cL_law 495 = .ok (.iaload, 1) := by decide +kernel
theorem dL_law_496 : decode cL_law 496 = .ok (.aload_n 0, 1) := by decide +kernel
theorem dL_law_497 : decode cL_law 497 = .ok (.iload_n 3, 1) := by decide +kernel
theorem dL_law_498 : decode cL_law 498 = .ok (.iconst 4, 1) := by decide +kernel
theorem dL_law_499 : decode cL_law 499 = .ok (.iadd, 1) := by decide +kernel
theorem dL_law_500 : decode cL_law 500 = .ok (.iaload, 1) := by decide +kernel
theorem dL_law_501 : decode cL_law 501 = .ok (.invokevirtual 51, 3) := by decide +kernel
theorem dL_law_504 : decode cL_law 504 = .ok (.aload_n 2, 1) := by decide +kernel
theorem dL_law_505 : decode cL_law 505 = .ok (.aload_n 0, 1) := by decide +kernel
theorem dL_law_506 : decode cL_law 506 = .ok (.iload_n 3, 1) := by decide +kernel
theorem dL_law_507 : decode cL_law 507 = .ok (.iconst 1, 1) := by decide +kernel
theorem dL_law_508 : decode cL_law 508 = .ok (.iadd, 1) := by decide +kernel
theorem dL_law_509 : decode cL_law 509 = .ok (.iaload, 1) := by decide +kernel
theorem dL_law_510 : decode cL_law 510 = .ok (.aload_n 0, 1) := by decide +kernel
theorem dL_law_511 : decode cL_law 511 = .ok (.iload_n 3, 1) := by decide +kernel
theorem dL_law_512 : decode cL_law 512 = .ok (.iconst 2, 1) := by decide +kernel
theorem dL_law_513 : decode cL_law 513 = .ok (.iadd, 1) := by decide +kernel
theorem dL_law_514 : decode cL_law 514 = .ok (.iaload, 1) := by decide +kernel
theorem dL_law_515 : decode cL_law 515 = .ok (.aload_n 0, 1) := by decide +kernel
theorem dL_law_516 : decode cL_law 516 = .ok (.iload_n 3, 1) := by decide +kernel
theorem dL_law_517 : decode cL_law 517 = .ok (.iconst 3, 1) := by decide +kernel
theorem dL_law_518 : decode cL_law 518 = .ok (.iadd, 1) := by decide +kernel
theorem dL_law_519 : decode cL_law 519 = .ok (.iaload, 1) := by decide +kernel
theorem dL_law_520 : decode cL_law 520 = .ok (.aload_n 0, 1) := by decide +kernel
theorem dL_law_521 : decode cL_law 521 = .ok (.iload_n 3, 1) := by decide +kernel
theorem dL_law_522 : decode cL_law 522 = .ok (.iconst 4, 1) := by decide +kernel
theorem dL_law_523 : decode cL_law 523 = .ok (.iadd, 1) := by decide +kernel
theorem dL_law_524 : decode cL_law 524 = .ok (.iaload, 1) := by decide +kernel
theorem dL_law_525 : decode cL_law 525 = .ok (.invokevirtual 54, 3) := by decide +kernel
theorem dL_law_528 : decode cL_law 528 = .ok (.if_icmp .eq 858, 3) := by decide +kernel
theorem dL_law_531 : decode cL_law 531 = .ok (.iconst 0, 1) := by decide +kernel
theorem dL_law_532 : decode cL_law 532 = .ok (.ireturn, 1) := by decide +kernel
theorem dL_law_533 : decode cL_law 533 = .ok (.aload_n 1, 1) := by decide +kernel
theorem dL_law_534 : decode cL_law 534 = .ok (.aload_n 0, 1) := by decide +kernel
theorem dL_law_535 : decode cL_law 535 = .ok (.iload_n 3, 1) := by decide +kernel
theorem dL_law_536 : decode cL_law 536 = .ok (.iconst 1, 1) := by decide +kernel
theorem dL_law_537 : decode cL_law 537 = .ok (.iadd, 1) := by decide +kernel
theorem dL_law_538 : decode cL_law 538 = .ok (.iaload, 1) := by decide +kernel
theorem dL_law_539 : decode cL_law 539 = .ok (.invokevirtual 55, 3) := by decide +kernel
theorem dL_law_542 : decode cL_law 542 = .ok (.aload_n 2, 1) := by decide +kernel
theorem dL_law_543 : decode cL_law 543 = .ok (.aload_n 0, 1) := by decide +kernel
theorem dL_law_544 : decode cL_law 544 = .ok (.iload_n 3, 1) := by decide +kernel
theorem dL_law_545 : decode cL_law 545 = .ok (.iconst 1, 1) := by decide +kernel
theorem dL_law_546 : decode cL_law 546 = .ok (.iadd, 1) := by decide +kernel
theorem dL_law_547 : decode cL_law 547 = .ok (.iaload, 1) := by decide +kernel
theorem dL_law_548 : decode cL_law 548 = .ok (.invokevirtual 58, 3) := by decide +kernel
theorem dL_law_551 : decode cL_law 551 = .ok (.if_icmp .eq 835, 3) := by decide +kernel
theorem dL_law_554 : decode cL_law 554 = .ok (.iconst 0, 1) := by decide +kernel
theorem dL_law_555 : decode cL_law 555 = .ok (.ireturn, 1) := by decide +kernel
theorem dL_law_556 : decode cL_law 556 = .ok (.aload_n 1, 1) := by decide +kernel
theorem dL_law_557 : decode cL_law 557 = .ok (.aload_n 0, 1) := by decide +kernel
theorem dL_law_558 : decode cL_law 558 = .ok (.iload_n 3, 1) := by decide +kernel
theorem dL_law_559 : decode cL_law 559 = .ok (.iconst 1, 1) := by decide +kernel
theorem dL_law_560 : decode cL_law 560 = .ok (.iadd, 1) := by decide +kernel
theorem dL_law_561 : decode cL_law 561 = .ok (.iaload, 1) := by decide +kernel
theorem dL_law_562 : decode cL_law 562 = .ok (.invokevirtual 59, 3) := by decide +kernel
theorem dL_law_565 : decode cL_law 565 = .ok (.aload_n 2, 1) := by decide +kernel
theorem dL_law_566 : decode cL_law 566 = .ok (.aload_n 0, 1) := by decide +kernel
theorem dL_law_567 : decode cL_law 567 = .ok (.iload_n 3, 1) := by decide +kernel
theorem dL_law_568 : decode cL_law 568 = .ok (.iconst 1, 1) := by decide +kernel
theorem dL_law_569 : decode cL_law 569 = .ok (.iadd, 1) := by decide +kernel
theorem dL_law_570 : decode cL_law 570 = .ok (.iaload, 1) := by decide +kernel
theorem dL_law_571 : decode cL_law 571 = .ok (.invokevirtual 62, 3) := by decide +kernel
theorem dL_law_574 : decode cL_law 574 = .ok (.if_icmp .eq 812, 3) := by decide +kernel
theorem dL_law_577 : decode cL_law 577 = .ok (.iconst 0, 1) := by decide +kernel
theorem dL_law_578 : decode cL_law 578 = .ok (.ireturn, 1) := by decide +kernel
theorem dL_law_579 : decode cL_law 579 = .ok (.aload_n 1, 1) := by decide +kernel
theorem dL_law_580 : decode cL_law 580 = .ok (.invokevirtual 63, 3) := by decide +kernel
theorem dL_law_583 : decode cL_law 583 = .ok (.aload_n 2, 1) := by decide +kernel
theorem dL_law_584 : decode cL_law 584 = .ok (.invokevirtual 66, 3) := by decide +kernel
theorem dL_law_587 : decode cL_law 587 = .ok (.if_icmp .eq 799, 3) := by decide +kernel
theorem dL_law_590 : decode cL_law 590 = .ok (.iconst 0, 1) := by decide +kernel
theorem dL_law_591 : decode cL_law 591 = .ok (.ireturn, 1) := by decide +kernel
theorem dL_law_592 : decode cL_law 592 = .ok (.aload_n 1, 1) := by decide +kernel
theorem dL_law_593 : decode cL_law 593 = .ok (.aload_n 0, 1) := by decide +kernel
theorem dL_law_594 : decode cL_law 594 = .ok (.iload_n 3, 1) := by decide +kernel
theorem dL_law_595 : decode cL_law 595 = .ok (.iconst 1, 1) := by decide +kernel
theorem dL_law_596 : decode cL_law 596 = .ok (.iadd, 1) := by decide +kernel
theorem dL_law_597 : decode cL_law 597 = .ok (.iaload, 1) := by decide +kernel
theorem dL_law_598 : decode cL_law 598 = .ok (.invokevirtual 67, 3) := by decide +kernel
theorem dL_law_601 : decode cL_law 601 = .ok (.aload_n 2, 1) := by decide +kernel
theorem dL_law_602 : decode cL_law 602 = .ok (.aload_n 0, 1) := by decide +kernel
theorem dL_law_603 : decode cL_law 603 = .ok (.iload_n 3, 1) := by decide +kernel
theorem dL_law_604 : decode cL_law 604 = .ok (.iconst 1, 1) := by decide +kernel
theorem dL_law_605 : decode cL_law 605 = .ok (.iadd, 1) := by decide +kernel
theorem dL_law_606 : decode cL_law 606 = .ok (.iaload, 1) := by decide +kernel
theorem dL_law_607 : decode cL_law 607 = .ok (.invokevirtual 70, 3) := by decide +kernel
theorem dL_law_610 : decode cL_law 610 = .ok (.if_icmp .eq 776, 3) := by decide +kernel
theorem dL_law_613 : decode cL_law 613 = .ok (.iconst 0, 1) := by decide +kernel
theorem dL_law_614 : decode cL_law 614 = .ok (.ireturn, 1) := by decide +kernel
theorem dL_law_615 : decode cL_law 615 = .ok (.aload_n 1, 1) := by decide +kernel
theorem dL_law_616 : decode cL_law 616 = .ok (.invokevirtual 71, 3) := by decide +kernel
theorem dL_law_619 : decode cL_law 619 = .ok (.aload_n 2, 1) := by decide +kernel
theorem dL_law_620 : decode cL_law 620 = .ok (.invokevirtual 75, 3) := by decide +kernel
theorem dL_law_623 : decode cL_law 623 = .ok (.if_icmp .eq 763, 3) := by decide +kernel
theorem dL_law_626 : decode cL_law 626 = .ok (.iconst 0, 1) := by decide +kernel
theorem dL_law_627 : decode cL_law 627 = .ok (.ireturn, 1) := by decide +kernel
theorem dL_law_628 : decode cL_law 628 = .ok (.aload_n 1, 1) := by decide +kernel
theorem dL_law_629 : decode cL_law 629 = .ok (.invokevirtual 76, 3) := by decide +kernel
theorem dL_law_632 : decode cL_law 632 = .ok (.aload_n 2, 1) := by decide +kernel
theorem dL_law_633 : decode cL_law 633 = .ok (.invokevirtual 79, 3) := by decide +kernel
theorem dL_law_636 : decode cL_law 636 = .ok (.if_icmp .eq 750, 3) := by decide +kernel
theorem dL_law_639 : decode cL_law 639 = .ok (.iconst 0, 1) := by decide +kernel
theorem dL_law_640 : decode cL_law 640 = .ok (.ireturn, 1) := by decide +kernel
theorem dL_law_641 : decode cL_law 641 = .ok (.aload_n 1, 1) := by decide +kernel
theorem dL_law_642 : decode cL_law 642 = .ok (.aload_n 0, 1) := by decide +kernel
theorem dL_law_643 : decode cL_law 643 = .ok (.iload_n 3, 1) := by decide +kernel
theorem dL_law_644 : decode cL_law 644 = .ok (.iconst 1, 1) := by decide +kernel
theorem dL_law_645 : decode cL_law 645 = .ok (.iadd, 1) := by decide +kernel
theorem dL_law_646 : decode cL_law 646 = .ok (.iaload, 1) := by decide +kernel
theorem dL_law_647 : decode cL_law 647 = .ok (.invokevirtual 80, 3) := by decide +kernel
theorem dL_law_650 : decode cL_law 650 = .ok (.aload_n 2, 1) := by decide +kernel
theorem dL_law_651 : decode cL_law 651 = .ok (.aload_n 0, 1) := by decide +kernel
theorem dL_law_652 : decode cL_law 652 = .ok (.iload_n 3, 1) := by decide +kernel
theorem dL_law_653 : decode cL_law 653 = .ok (.iconst 1, 1) := by decide +kernel
theorem dL_law_654 : decode cL_law 654 = .ok (.iadd, 1) := by decide +kernel
theorem dL_law_655 : decode cL_law 655 = .ok (.iaload, 1) := by decide +kernel
theorem dL_law_656 : decode cL_law 656 = .ok (.invokevirtual 83, 3) := by decide +kernel
theorem dL_law_659 : decode cL_law 659 = .ok (.if_icmp .eq 727, 3) := by decide +kernel
theorem dL_law_662 : decode cL_law 662 = .ok (.iconst 0, 1) := by decide +kernel
theorem dL_law_663 : decode cL_law 663 = .ok (.ireturn, 1) := by decide +kernel
theorem dL_law_664 : decode cL_law 664 = .ok (.aload_n 1, 1) := by decide +kernel
theorem dL_law_665 : decode cL_law 665 = .ok (.aload_n 0, 1) := by decide +kernel
theorem dL_law_666 : decode cL_law 666 = .ok (.iload_n 3, 1) := by decide +kernel
theorem dL_law_667 : decode cL_law 667 = .ok (.iconst 1, 1) := by decide +kernel
theorem dL_law_668 : decode cL_law 668 = .ok (.iadd, 1) := by decide +kernel
theorem dL_law_669 : decode cL_law 669 = .ok (.iaload, 1) := by decide +kernel
theorem dL_law_670 : decode cL_law 670 = .ok (.invokevirtual 84, 3) := by decide +kernel
theorem dL_law_673 : decode cL_law 673 = .ok (.aload_n 2, 1) := by decide +kernel
theorem dL_law_674 : decode cL_law 674 = .ok (.aload_n 0, 1) := by decide +kernel
theorem dL_law_675 : decode cL_law 675 = .ok (.iload_n 3, 1) := by decide +kernel
theorem dL_law_676 : decode cL_law 676 = .ok (.iconst 1, 1) := by decide +kernel
theorem dL_law_677 : decode cL_law 677 = .ok (.iadd, 1) := by decide +kernel
theorem dL_law_678 : decode cL_law 678 = .ok (.iaload, 1) := by decide +kernel
theorem dL_law_679 : decode cL_law 679 = .ok (.invokevirtual 87, 3) := by decide +kernel
theorem dL_law_682 : decode cL_law 682 = .ok (.if_icmp .eq 704, 3) := by decide +kernel
theorem dL_law_685 : decode cL_law 685 = .ok (.iconst 0, 1) := by decide +kernel
theorem dL_law_686 : decode cL_law 686 = .ok (.ireturn, 1) := by decide +kernel
theorem dL_law_687 : decode cL_law 687 = .ok (.aload_n 1, 1) := by decide +kernel
theorem dL_law_688 : decode cL_law 688 = .ok (.aload_n 0, 1) := by decide +kernel
theorem dL_law_689 : decode cL_law 689 = .ok (.iload_n 3, 1) := by decide +kernel
theorem dL_law_690 : decode cL_law 690 = .ok (.iconst 1, 1) := by decide +kernel
theorem dL_law_691 : decode cL_law 691 = .ok (.iadd, 1) := by decide +kernel
theorem dL_law_692 : decode cL_law 692 = .ok (.iaload, 1) := by decide +kernel
theorem dL_law_693 : decode cL_law 693 = .ok (.aload_n 0, 1) := by decide +kernel
theorem dL_law_694 : decode cL_law 694 = .ok (.iload_n 3, 1) := by decide +kernel
theorem dL_law_695 : decode cL_law 695 = .ok (.iconst 2, 1) := by decide +kernel
theorem dL_law_696 : decode cL_law 696 = .ok (.iadd, 1) := by decide +kernel
theorem dL_law_697 : decode cL_law 697 = .ok (.iaload, 1) := by decide +kernel
theorem dL_law_698 : decode cL_law 698 = .ok (.aload_n 0, 1) := by decide +kernel
theorem dL_law_699 : decode cL_law 699 = .ok (.iload_n 3, 1) := by decide +kernel
theorem dL_law_700 : decode cL_law 700 = .ok (.iconst 3, 1) := by decide +kernel
theorem dL_law_701 : decode cL_law 701 = .ok (.iadd, 1) := by decide +kernel
theorem dL_law_702 : decode cL_law 702 = .ok (.iaload, 1) := by decide +kernel
theorem dL_law_703 : decode cL_law 703 = .ok (.aload_n 0, 1) := by decide +kernel
theorem dL_law_704 : decode cL_law 704 = .ok (.iload_n 3, 1) := by decide +kernel
theorem dL_law_705 : decode cL_law 705 = .ok (.iconst 4, 1) := by decide +kernel
theorem dL_law_706 : decode cL_law 706 = .ok (.iadd, 1) := by decide +kernel
theorem dL_law_707 : decode cL_law 707 = .ok (.iaload, 1) := by decide +kernel
theorem dL_law_708 : decode cL_law 708 = .ok (.invokevirtual 88, 3) := by decide +kernel
theorem dL_law_711 : decode cL_law 711 = .ok (.aload_n 2, 1) := by decide +kernel
theorem dL_law_712 : decode cL_law 712 = .ok (.aload_n 0, 1) := by decide +kernel
theorem dL_law_713 : decode cL_law 713 = .ok (.iload_n 3, 1) := by decide +kernel
theorem dL_law_714 : decode cL_law 714 = .ok (.iconst 1, 1) := by decide +kernel
theorem dL_law_715 : decode cL_law 715 = .ok (.iadd, 1) := by decide +kernel
theorem dL_law_716 : decode cL_law 716 = .ok (.iaload, 1) := by decide +kernel
theorem dL_law_717 : decode cL_law 717 = .ok (.aload_n 0, 1) := by decide +kernel
theorem dL_law_718 : decode cL_law 718 = .ok (.iload_n 3, 1) := by decide +kernel
theorem dL_law_719 : decode cL_law 719 = .ok (.iconst 2, 1) := by decide +kernel
theorem dL_law_720 : decode cL_law 720 = .ok (.iadd, 1) := by decide +kernel
theorem dL_law_721 : decode cL_law 721 = .ok (.iaload, 1) := by decide +kernel
theorem dL_law_722 : decode cL_law 722 = .ok (.aload_n 0, 1) := by decide +kernel
theorem dL_law_723 : decode cL_law 723 = .ok (.iload_n 3, 1) := by decide +kernel
theorem dL_law_724 : decode cL_law 724 = .ok (.iconst 3, 1) := by decide +kernel
theorem dL_law_725 : decode cL_law 725 = .ok (.iadd, 1) := by decide +kernel
theorem dL_law_726 : decode cL_law 726 = .ok (.iaload, 1) := by decide +kernel
theorem dL_law_727 : decode cL_law 727 = .ok (.aload_n 0, 1) := by decide +kernel
theorem dL_law_728 : decode cL_law 728 = .ok (.iload_n 3, 1) := by decide +kernel
theorem dL_law_729 : decode cL_law 729 = .ok (.iconst 4, 1) := by decide +kernel
theorem dL_law_730 : decode cL_law 730 = .ok (.iadd, 1) := by decide +kernel
theorem dL_law_731 : decode cL_law 731 = .ok (.iaload, 1) := by decide +kernel
theorem dL_law_732 : decode cL_law 732 = .ok (.invokevirtual 91, 3) := by decide +kernel
theorem dL_law_735 : decode cL_law 735 = .ok (.if_icmp .eq 651, 3) := by decide +kernel
theorem dL_law_738 : decode cL_law 738 = .ok (.iconst 0, 1) := by decide +kernel
theorem dL_law_739 : decode cL_law 739 = .ok (.ireturn, 1) := by decide +kernel
theorem dL_law_740 : decode cL_law 740 = .ok (.aload_n 1, 1) := by decide +kernel
theorem dL_law_741 : decode cL_law 741 = .ok (.aload_n 0, 1) := by decide +kernel
theorem dL_law_742 : decode cL_law 742 = .ok (.iload_n 3, 1) := by decide +kernel
theorem dL_law_743 : decode cL_law 743 = .ok (.iconst 1, 1) := by decide +kernel
theorem dL_law_744 : decode cL_law 744 = .ok (.iadd, 1) := by decide +kernel
theorem dL_law_745 : decode cL_law 745 = .ok (.iaload, 1) := by decide +kernel
theorem dL_law_746 : decode cL_law 746 = .ok (.aload_n 0, 1) := by decide +kernel
theorem dL_law_747 : decode cL_law 747 = .ok (.iload_n 3, 1) := by decide +kernel
theorem dL_law_748 : decode cL_law 748 = .ok (.iconst 2, 1) := by decide +kernel
theorem dL_law_749 : decode cL_law 749 = .ok (.iadd, 1) := by decide +kernel
theorem dL_law_750 : decode cL_law 750 = .ok (.iaload, 1) := by decide +kernel
theorem dL_law_751 : decode cL_law 751 = .ok (.invokevirtual 92, 3) := by decide +kernel
theorem dL_law_754 : decode cL_law 754 = .ok (.aload_n 2, 1) := by decide +kernel
theorem dL_law_755 : decode cL_law 755 = .ok (.aload_n 0, 1) := by decide +kernel
theorem dL_law_756 : decode cL_law 756 = .ok (.iload_n 3, 1) := by decide +kernel
theorem dL_law_757 : decode cL_law 757 = .ok (.iconst 1, 1) := by decide +kernel
theorem dL_law_758 : decode cL_law 758 = .ok (.iadd, 1) := by decide +kernel
theorem dL_law_759 : decode cL_law 759 = .ok (.iaload, 1) := by decide +kernel
theorem dL_law_760 : decode cL_law 760 = .ok (.aload_n 0, 1) := by decide +kernel
theorem dL_law_761 : decode cL_law 761 = .ok (.iload_n 3, 1) := by decide +kernel
theorem dL_law_762 : decode cL_law 762 = .ok (.iconst 2, 1) := by decide +kernel
theorem dL_law_763 : decode cL_law 763 = .ok (.iadd, 1) := by decide +kernel
theorem dL_law_764 : decode cL_law 764 = .ok (.iaload, 1) := by decide +kernel
theorem dL_law_765 : decode cL_law 765 = .ok (.invokevirtual 95, 3) := by decide +kernel
theorem dL_law_768 : decode cL_law 768 = .ok (.if_icmp .eq 618, 3) := by decide +kernel
theorem dL_law_771 : decode cL_law 771 = .ok (.iconst 0, 1) := by decide +kernel
theorem dL_law_772 : decode cL_law 772 = .ok (.ireturn, 1) := by decide +kernel
theorem dL_law_773 : decode cL_law 773 = .ok (.aload_n 1, 1) := by decide +kernel
theorem dL_law_774 : decode cL_law 774 = .ok (.aload_n 0, 1) := by decide +kernel
theorem dL_law_775 : decode cL_law 775 = .ok (.iload_n 3, 1) := by decide +kernel
theorem dL_law_776 : decode cL_law 776 = .ok (.iconst 1, 1) := by decide +kernel
theorem dL_law_777 : decode cL_law 777 = .ok (.iadd, 1) := by decide +kernel
theorem dL_law_778 : decode cL_law 778 = .ok (.iaload, 1) := by decide +kernel
theorem dL_law_779 : decode cL_law 779 = .ok (.aload_n 0, 1) := by decide +kernel
theorem dL_law_780 : decode cL_law 780 = .ok (.iload_n 3, 1) := by decide +kernel
theorem dL_law_781 : decode cL_law 781 = .ok (.iconst 2, 1) := by decide +kernel
theorem dL_law_782 : decode cL_law 782 = .ok (.iadd, 1) := by decide +kernel
theorem dL_law_783 : decode cL_law 783 = .ok (.iaload, 1) := by decide +kernel
theorem dL_law_784 : decode cL_law 784 = .ok (.invokevirtual 96, 3) := by decide +kernel
theorem dL_law_787 : decode cL_law 787 = .ok (.aload_n 2, 1) := by decide +kernel
theorem dL_law_788 : decode cL_law 788 = .ok (.aload_n 0, 1) := by decide +kernel
theorem dL_law_789 : decode cL_law 789 = .ok (.iload_n 3, 1) := by decide +kernel
theorem dL_law_790 : decode cL_law 790 = .ok (.iconst 1, 1) := by decide +kernel
theorem dL_law_791 : decode cL_law 791 = .ok (.iadd, 1) := by decide +kernel
theorem dL_law_792 : decode cL_law 792 = .ok (.iaload, 1) := by decide +kernel
theorem dL_law_793 : decode cL_law 793 = .ok (.aload_n 0, 1) := by decide +kernel
theorem dL_law_794 : decode cL_law 794 = .ok (.iload_n 3, 1) := by decide +kernel
theorem dL_law_795 : decode cL_law 795 = .ok (.iconst 2, 1) := by decide +kernel
theorem dL_law_796 : decode cL_law 796 = .ok (.iadd, 1) := by decide +kernel
theorem dL_law_797 : decode cL_law 797 = .ok (.iaload, 1) := by decide +kernel
theorem dL_law_798 : decode cL_law 798 = .ok (.invokevirtual 99, 3) := by decide +kernel
theorem dL_law_801 : decode cL_law 801 = .ok (.if_icmp .eq 585, 3) := by decide +kernel
theorem dL_law_804 : decode cL_law 804 = .ok (.iconst 0, 1) := by decide +kernel
theorem dL_law_805 : decode cL_law 805 = .ok (.ireturn, 1) := by decide +kernel
theorem dL_law_806 : decode cL_law 806 = .ok (.aload_n 1, 1) := by decide +kernel
theorem dL_law_807 : decode cL_law 807 = .ok (.aload_n 0, 1) := by decide +kernel
theorem dL_law_808 : decode cL_law 808 = .ok (.iload_n 3, 1) := by decide +kernel
theorem dL_law_809 : decode cL_law 809 = .ok (.iconst 1, 1) := by decide +kernel
theorem dL_law_810 : decode cL_law 810 = .ok (.iadd, 1) := by decide +kernel
theorem dL_law_811 : decode cL_law 811 = .ok (.iaload, 1) := by decide +kernel
theorem dL_law_812 : decode cL_law 812 = .ok (.aload_n 0, 1) := by decide +kernel
theorem dL_law_813 : decode cL_law 813 = .ok (.iload_n 3, 1) := by decide +kernel
theorem dL_law_814 : decode cL_law 814 = .ok (.iconst 2, 1) := by decide +kernel
theorem dL_law_815 : decode cL_law 815 = .ok (.iadd, 1) := by decide +kernel
theorem dL_law_816 : decode cL_law 816 = .ok (.iaload, 1) := by decide +kernel
theorem dL_law_817 : decode cL_law 817 = .ok (.aload_n 0, 1) := by decide +kernel
theorem dL_law_818 : decode cL_law 818 = .ok (.iload_n 3, 1) := by decide +kernel
theorem dL_law_819 : decode cL_law 819 = .ok (.iconst 3, 1) := by decide +kernel
theorem dL_law_820 : decode cL_law 820 = .ok (.iadd, 1) := by decide +kernel
theorem dL_law_821 : decode cL_law 821 = .ok (.iaload, 1) := by decide +kernel
theorem dL_law_822 : decode cL_law 822 = .ok (.aload_n 0, 1) := by decide +kernel
theorem dL_law_823 : decode cL_law 823 = .ok (.iload_n 3, 1) := by decide +kernel
theorem dL_law_824 : decode cL_law 824 = .ok (.iconst 4, 1) := by decide +kernel
theorem dL_law_825 : decode cL_law 825 = .ok (.iadd, 1) := by decide +kernel
theorem dL_law_826 : decode cL_law 826 = .ok (.iaload, 1) := by decide +kernel
theorem dL_law_827 : decode cL_law 827 = .ok (.aload_n 0, 1) := by decide +kernel
theorem dL_law_828 : decode cL_law 828 = .ok (.iload_n 3, 1) := by decide +kernel
theorem dL_law_829 : decode cL_law 829 = .ok (.iconst 5, 1) := by decide +kernel
theorem dL_law_830 : decode cL_law 830 = .ok (.iadd, 1) := by decide +kernel
theorem dL_law_831 : decode cL_law 831 = .ok (.iaload, 1) := by decide +kernel
theorem dL_law_832 : decode cL_law 832 = .ok (.ifCond .eq 7, 3) := by decide +kernel
theorem dL_law_835 : decode cL_law 835 = .ok (.iconst 1, 1) := by decide +kernel
theorem dL_law_836 : decode cL_law 836 = .ok (.goto 4, 3) := by decide +kernel
theorem dL_law_839 : decode cL_law 839 = .ok (.iconst 0, 1) := by decide +kernel
theorem dL_law_840 : decode cL_law 840 = .ok (.invokevirtual 100, 3) := by decide +kernel
theorem dL_law_843 : decode cL_law 843 = .ok (.aload_n 2, 1) := by decide +kernel
theorem dL_law_844 : decode cL_law 844 = .ok (.aload_n 0, 1) := by decide +kernel
theorem dL_law_845 : decode cL_law 845 = .ok (.iload_n 3, 1) := by decide +kernel
theorem dL_law_846 : decode cL_law 846 = .ok (.iconst 1, 1) := by decide +kernel
theorem dL_law_847 : decode cL_law 847 = .ok (.iadd, 1) := by decide +kernel
theorem dL_law_848 : decode cL_law 848 = .ok (.iaload, 1) := by decide +kernel
theorem dL_law_849 : decode cL_law 849 = .ok (.aload_n 0, 1) := by decide +kernel
theorem dL_law_850 : decode cL_law 850 = .ok (.iload_n 3, 1) := by decide +kernel
theorem dL_law_851 : decode cL_law 851 = .ok (.iconst 2, 1) := by decide +kernel
theorem dL_law_852 : decode cL_law 852 = .ok (.iadd, 1) := by decide +kernel
theorem dL_law_853 : decode cL_law 853 = .ok (.iaload, 1) := by decide +kernel
theorem dL_law_854 : decode cL_law 854 = .ok (.aload_n 0, 1) := by decide +kernel
theorem dL_law_855 : decode cL_law 855 = .ok (.iload_n 3, 1) := by decide +kernel
theorem dL_law_856 : decode cL_law 856 = .ok (.iconst 3, 1) := by decide +kernel
theorem dL_law_857 : decode cL_law 857 = .ok (.iadd, 1) := by decide +kernel
theorem dL_law_858 : decode cL_law 858 = .ok (.iaload, 1) := by decide +kernel
theorem dL_law_859 : decode cL_law 859 = .ok (.aload_n 0, 1) := by decide +kernel
theorem dL_law_860 : decode cL_law 860 = .ok (.iload_n 3, 1) := by decide +kernel
theorem dL_law_861 : decode cL_law 861 = .ok (.iconst 4, 1) := by decide +kernel
theorem dL_law_862 : decode cL_law 862 = .ok (.iadd, 1) := by decide +kernel
theorem dL_law_863 : decode cL_law 863 = .ok (.iaload, 1) := by decide +kernel
theorem dL_law_864 : decode cL_law 864 = .ok (.aload_n 0, 1) := by decide +kernel
theorem dL_law_865 : decode cL_law 865 = .ok (.iload_n 3, 1) := by decide +kernel
theorem dL_law_866 : decode cL_law 866 = .ok (.iconst 5, 1) := by decide +kernel
theorem dL_law_867 : decode cL_law 867 = .ok (.iadd, 1) := by decide +kernel
theorem dL_law_868 : decode cL_law 868 = .ok (.iaload, 1) := by decide +kernel
theorem dL_law_869 : decode cL_law 869 = .ok (.ifCond .eq 7, 3) := by decide +kernel
theorem dL_law_872 : decode cL_law 872 = .ok (.iconst 1, 1) := by decide +kernel
theorem dL_law_873 : decode cL_law 873 = .ok (.goto 4, 3) := by decide +kernel
theorem dL_law_876 : decode cL_law 876 = .ok (.iconst 0, 1) := by decide +kernel
theorem dL_law_877 : decode cL_law 877 = .ok (.invokevirtual 104, 3) := by decide +kernel
theorem dL_law_880 : decode cL_law 880 = .ok (.if_icmp .eq 506, 3) := by decide +kernel
theorem dL_law_883 : decode cL_law 883 = .ok (.iconst 0, 1) := by decide +kernel
theorem dL_law_884 : decode cL_law 884 = .ok (.ireturn, 1) := by decide +kernel
theorem dL_law_885 : decode cL_law 885 = .ok (.aload_n 1, 1) := by decide +kernel
theorem dL_law_886 : decode cL_law 886 = .ok (.aload_n 0, 1) := by decide +kernel
theorem dL_law_887 : decode cL_law 887 = .ok (.iload_n 3, 1) := by decide +kernel
theorem dL_law_888 : decode cL_law 888 = .ok (.iconst 1, 1) := by decide +kernel
theorem dL_law_889 : decode cL_law 889 = .ok (.iadd, 1) := by decide +kernel
theorem dL_law_890 : decode cL_law 890 = .ok (.iaload, 1) := by decide +kernel
theorem dL_law_891 : decode cL_law 891 = .ok (.aload_n 0, 1) := by decide +kernel
theorem dL_law_892 : decode cL_law 892 = .ok (.iload_n 3, 1) := by decide +kernel
theorem dL_law_893 : decode cL_law 893 = .ok (.iconst 2, 1) := by decide +kernel
theorem dL_law_894 : decode cL_law 894 = .ok (.iadd, 1) := by decide +kernel
theorem dL_law_895 : decode cL_law 895 = .ok (.iaload, 1) := by decide +kernel
theorem dL_law_896 : decode cL_law 896 = .ok (.invokevirtual 105, 3) := by decide +kernel
theorem dL_law_899 : decode cL_law 899 = .ok (.aload_n 2, 1) := by decide +kernel
theorem dL_law_900 : decode cL_law 900 = .ok (.aload_n 0, 1) := by decide +kernel
theorem dL_law_901 : decode cL_law 901 = .ok (.iload_n 3, 1) := by decide +kernel
theorem dL_law_902 : decode cL_law 902 = .ok (.iconst 1, 1) := by decide +kernel
theorem dL_law_903 : decode cL_law 903 = .ok (.iadd, 1) := by decide +kernel
theorem dL_law_904 : decode cL_law 904 = .ok (.iaload, 1) := by decide +kernel
theorem dL_law_905 : decode cL_law 905 = .ok (.aload_n 0, 1) := by decide +kernel
theorem dL_law_906 : decode cL_law 906 = .ok (.iload_n 3, 1) := by decide +kernel
theorem dL_law_907 : decode cL_law 907 = .ok (.iconst 2, 1) := by decide +kernel
theorem dL_law_908 : decode cL_law 908 = .ok (.iadd, 1) := by decide +kernel
theorem dL_law_909 : decode cL_law 909 = .ok (.iaload, 1) := by decide +kernel
theorem dL_law_910 : decode cL_law 910 = .ok (.invokevirtual 108, 3) := by decide +kernel
theorem dL_law_913 : decode cL_law 913 = .ok (.if_icmp .eq 473, 3) := by decide +kernel
theorem dL_law_916 : decode cL_law 916 = .ok (.iconst 0, 1) := by decide +kernel
theorem dL_law_917 : decode cL_law 917 = .ok (.ireturn, 1) := by decide +kernel
theorem dL_law_918 : decode cL_law 918 = .ok (.aload_n 1, 1) := by decide +kernel
theorem dL_law_919 : decode cL_law 919 = .ok (.invokevirtual 109, 3) := by decide +kernel
theorem dL_law_922 : decode cL_law 922 = .ok (.aload_n 2, 1) := by decide +kernel
theorem dL_law_923 : decode cL_law 923 = .ok (.invokevirtual 112, 3) := by decide +kernel
theorem dL_law_926 : decode cL_law 926 = .ok (.if_icmp .eq 460, 3) := by decide +kernel
theorem dL_law_929 : decode cL_law 929 = .ok (.iconst 0, 1) := by decide +kernel
theorem dL_law_930 : decode cL_law 930 = .ok (.ireturn, 1) := by decide +kernel
theorem dL_law_931 : decode cL_law 931 = .ok (.aload_n 1, 1) := by decide +kernel
theorem dL_law_932 : decode cL_law 932 = .ok (.invokevirtual 113, 3) := by decide +kernel
theorem dL_law_935 : decode cL_law 935 = .ok (.aload_n 2, 1) := by decide +kernel
theorem dL_law_936 : decode cL_law 936 = .ok (.invokevirtual 116, 3) := by decide +kernel
theorem dL_law_939 : decode cL_law 939 = .ok (.if_icmp .eq 447, 3) := by decide +kernel
theorem dL_law_942 : decode cL_law 942 = .ok (.iconst 0, 1) := by decide +kernel
theorem dL_law_943 : decode cL_law 943 = .ok (.ireturn, 1) := by decide +kernel
theorem dL_law_944 : decode cL_law 944 = .ok (.aload_n 1, 1) := by decide +kernel
theorem dL_law_945 : decode cL_law 945 = .ok (.invokevirtual 117, 3) := by decide +kernel
theorem dL_law_948 : decode cL_law 948 = .ok (.aload_n 2, 1) := by decide +kernel
theorem dL_law_949 : decode cL_law 949 = .ok (.invokevirtual 120, 3) := by decide +kernel
theorem dL_law_952 : decode cL_law 952 = .ok (.if_icmp .eq 434, 3) := by decide +kernel
theorem dL_law_955 : decode cL_law 955 = .ok (.iconst 0, 1) := by decide +kernel
theorem dL_law_956 : decode cL_law 956 = .ok (.ireturn, 1) := by decide +kernel
theorem dL_law_957 : decode cL_law 957 = .ok (.aload_n 1, 1) := by decide +kernel
theorem dL_law_958 : decode cL_law 958 = .ok (.aload_n 0, 1) := by decide +kernel
theorem dL_law_959 : decode cL_law 959 = .ok (.iload_n 3, 1) := by decide +kernel
theorem dL_law_960 : decode cL_law 960 = .ok (.iconst 1, 1) := by decide +kernel
theorem dL_law_961 : decode cL_law 961 = .ok (.iadd, 1) := by decide +kernel
theorem dL_law_962 : decode cL_law 962 = .ok (.iaload, 1) := by decide +kernel
theorem dL_law_963 : decode cL_law 963 = .ok (.aload_n 0, 1) := by decide +kernel
theorem dL_law_964 : decode cL_law 964 = .ok (.iload_n 3, 1) := by decide +kernel
theorem dL_law_965 : decode cL_law 965 = .ok (.iconst 2, 1) := by decide +kernel
theorem dL_law_966 : decode cL_law 966 = .ok (.iadd, 1) := by decide +kernel
theorem dL_law_967 : decode cL_law 967 = .ok (.iaload, 1) := by decide +kernel
theorem dL_law_968 : decode cL_law 968 = .ok (.aload_n 0, 1) := by decide +kernel
theorem dL_law_969 : decode cL_law 969 = .ok (.iload_n 3, 1) := by decide +kernel
theorem dL_law_970 : decode cL_law 970 = .ok (.iconst 3, 1) := by decide +kernel
theorem dL_law_971 : decode cL_law 971 = .ok (.iadd, 1) := by decide +kernel
theorem dL_law_972 : decode cL_law 972 = .ok (.iaload, 1) := by decide +kernel
theorem dL_law_973 : decode cL_law 973 = .ok (.aload_n 0, 1) := by decide +kernel
theorem dL_law_974 : decode cL_law 974 = .ok (.iload_n 3, 1) := by decide +kernel
theorem dL_law_975 : decode cL_law 975 = .ok (.iconst 4, 1) := by decide +kernel
theorem dL_law_976 : decode cL_law 976 = .ok (.iadd, 1) := by decide +kernel
theorem dL_law_977 : decode cL_law 977 = .ok (.iaload, 1) := by decide +kernel
theorem dL_law_978 : decode cL_law 978 = .ok (.invokevirtual 121, 3) := by decide +kernel
theorem dL_law_981 : decode cL_law 981 = .ok (.aload_n 2, 1) := by decide +kernel
theorem dL_law_982 : decode cL_law 982 = .ok (.aload_n 0, 1) := by decide +kernel
theorem dL_law_983 : decode cL_law 983 = .ok (.iload_n 3, 1) := by decide +kernel
theorem dL_law_984 : decode cL_law 984 = .ok (.iconst 1, 1) := by decide +kernel
theorem dL_law_985 : decode cL_law 985 = .ok (.iadd, 1) := by decide +kernel
theorem dL_law_986 : decode cL_law 986 = .ok (.iaload, 1) := by decide +kernel
theorem dL_law_987 : decode cL_law 987 = .ok (.aload_n 0, 1) := by decide +kernel
theorem dL_law_988 : decode cL_law 988 = .ok (.iload_n 3, 1) := by decide +kernel
theorem dL_law_989 : decode cL_law 989 = .ok (.iconst 2, 1) := by decide +kernel
theorem dL_law_990 : decode cL_law 990 = .ok (.iadd, 1) := by decide +kernel
theorem dL_law_991 : decode cL_law 991 = .ok (.iaload, 1) := by decide +kernel
theorem dL_law_992 : decode cL_law 992 = .ok (.aload_n 0, 1) := by decide +kernel
theorem dL_law_993 : decode cL_law 993 = .ok (.iload_n 3, 1) := by decide +kernel
theorem dL_law_994 : decode cL_law 994 = .ok (.iconst 3, 1) := by decide +kernel
theorem dL_law_995 : decode cL_law 995 = .ok (.iadd, 1) := by decide +kernel
theorem dL_law_996 : decode cL_law 996 = .ok (.iaload, 1) := by decide +kernel
theorem dL_law_997 : decode cL_law 997 = .ok (.aload_n 0, 1) := by decide +kernel
theorem dL_law_998 : decode cL_law 998 = .ok (.iload_n 3, 1) := by decide +kernel
theorem dL_law_999 : decode cL_law 999 = .ok (.iconst 4, 1) := by decide +kernel
theorem dL_law_1000 : decode cL_law 1000 = .ok (.iadd, 1) := by decide +kernel
theorem dL_law_1001 : decode cL_law 1001 = .ok (.iaload, 1) := by decide +kernel
theorem dL_law_1002 : decode cL_law 1002 = .ok (.invokevirtual 124, 3) := by decide +kernel
theorem dL_law_1005 : decode cL_law 1005 = .ok (.if_icmp .eq 381, 3) := by decide +kernel
theorem dL_law_1008 : decode cL_law 1008 = .ok (.iconst 0, 1) := by decide +kernel
theorem dL_law_1009 : decode cL_law 1009 = .ok (.ireturn, 1) := by decide +kernel
theorem dL_law_1010 : decode cL_law 1010 = .ok (.aload_n 1, 1) := by decide +kernel
theorem dL_law_1011 : decode cL_law 1011 = .ok (.aload_n 0, 1) := by decide +kernel
theorem dL_law_1012 : decode cL_law 1012 = .ok (.iload_n 3, 1) := by decide +kernel
theorem dL_law_1013 : decode cL_law 1013 = .ok (.iconst 1, 1) := by decide +kernel
theorem dL_law_1014 : decode cL_law 1014 = .ok (.iadd, 1) := by decide +kernel
theorem dL_law_1015 : decode cL_law 1015 = .ok (.iaload, 1) := by decide +kernel
theorem dL_law_1016 : decode cL_law 1016 = .ok (.aload_n 0, 1) := by decide +kernel
theorem dL_law_1017 : decode cL_law 1017 = .ok (.iload_n 3, 1) := by decide +kernel
theorem dL_law_1018 : decode cL_law 1018 = .ok (.iconst 2, 1) := by decide +kernel
theorem dL_law_1019 : decode cL_law 1019 = .ok (.iadd, 1) := by decide +kernel
theorem dL_law_1020 : decode cL_law 1020 = .ok (.iaload, 1) := by decide +kernel
theorem dL_law_1021 : decode cL_law 1021 = .ok (.aload_n 0, 1) := by decide +kernel
theorem dL_law_1022 : decode cL_law 1022 = .ok (.iload_n 3, 1) := by decide +kernel
theorem dL_law_1023 : decode cL_law 1023 = .ok (.iconst 3, 1) := by decide +kernel
theorem dL_law_1024 : decode cL_law 1024 = .ok (.iadd, 1) := by decide +kernel
theorem dL_law_1025 : decode cL_law 1025 = .ok (.iaload, 1) := by decide +kernel
theorem dL_law_1026 : decode cL_law 1026 = .ok (.aload_n 0, 1) := by decide +kernel
theorem dL_law_1027 : decode cL_law 1027 = .ok (.iload_n 3, 1) := by decide +kernel
theorem dL_law_1028 : decode cL_law 1028 = .ok (.iconst 4, 1) := by decide +kernel
theorem dL_law_1029 : decode cL_law 1029 = .ok (.iadd, 1) := by decide +kernel
theorem dL_law_1030 : decode cL_law 1030 = .ok (.iaload, 1) := by decide +kernel
theorem dL_law_1031 : decode cL_law 1031 = .ok (.aload_n 0, 1) := by decide +kernel
theorem dL_law_1032 : decode cL_law 1032 = .ok (.iload_n 3, 1) := by decide +kernel
theorem dL_law_1033 : decode cL_law 1033 = .ok (.iconst 5, 1) := by decide +kernel
theorem dL_law_1034 : decode cL_law 1034 = .ok (.iadd, 1) := by decide +kernel
theorem dL_law_1035 : decode cL_law 1035 = .ok (.iaload, 1) := by decide +kernel
theorem dL_law_1036 : decode cL_law 1036 = .ok (.aload_n 0, 1) := by decide +kernel
theorem dL_law_1037 : decode cL_law 1037 = .ok (.iload_n 3, 1) := by decide +kernel
theorem dL_law_1038 : decode cL_law 1038 = .ok (.bipush 6, 2) := by decide +kernel
theorem dL_law_1040 : decode cL_law 1040 = .ok (.iadd, 1) := by decide +kernel
theorem dL_law_1041 : decode cL_law 1041 = .ok (.iaload, 1) := by decide +kernel
theorem dL_law_1042 : decode cL_law 1042 = .ok (.invokevirtual 125, 3) := by decide +kernel
theorem dL_law_1045 : decode cL_law 1045 = .ok (.aload_n 2, 1) := by decide +kernel
theorem dL_law_1046 : decode cL_law 1046 = .ok (.aload_n 0, 1) := by decide +kernel
theorem dL_law_1047 : decode cL_law 1047 = .ok (.iload_n 3, 1) := by decide +kernel
theorem dL_law_1048 : decode cL_law 1048 = .ok (.iconst 1, 1) := by decide +kernel
theorem dL_law_1049 : decode cL_law 1049 = .ok (.iadd, 1) := by decide +kernel
theorem dL_law_1050 : decode cL_law 1050 = .ok (.iaload, 1) := by decide +kernel
theorem dL_law_1051 : decode cL_law 1051 = .ok (.aload_n 0, 1) := by decide +kernel
theorem dL_law_1052 : decode cL_law 1052 = .ok (.iload_n 3, 1) := by decide +kernel
theorem dL_law_1053 : decode cL_law 1053 = .ok (.iconst 2, 1) := by decide +kernel
theorem dL_law_1054 : decode cL_law 1054 = .ok (.iadd, 1) := by decide +kernel
theorem dL_law_1055 : decode cL_law 1055 = .ok (.iaload, 1) := by decide +kernel
theorem dL_law_1056 : decode cL_law 1056 = .ok (.aload_n 0, 1) := by decide +kernel
theorem dL_law_1057 : decode cL_law 1057 = .ok (.iload_n 3, 1) := by decide +kernel
theorem dL_law_1058 : decode cL_law 1058 = .ok (.iconst 3, 1) := by decide +kernel
theorem dL_law_1059 : decode cL_law 1059 = .ok (.iadd, 1) := by decide +kernel
theorem dL_law_1060 : decode cL_law 1060 = .ok (.iaload, 1) := by decide +kernel
theorem dL_law_1061 : decode cL_law 1061 = .ok (.aload_n 0, 1) := by decide +kernel
theorem dL_law_1062 : decode cL_law 1062 = .ok (.iload_n 3, 1) := by decide +kernel
theorem dL_law_1063 : decode cL_law 1063 = .ok (.iconst 4, 1) := by decide +kernel
theorem dL_law_1064 : decode cL_law 1064 = .ok (.iadd, 1) := by decide +kernel
theorem dL_law_1065 : decode cL_law 1065 = .ok (.iaload, 1) := by decide +kernel
theorem dL_law_1066 : decode cL_law 1066 = .ok (.aload_n 0, 1) := by decide +kernel
theorem dL_law_1067 : decode cL_law 1067 = .ok (.iload_n 3, 1) := by decide +kernel
theorem dL_law_1068 : decode cL_law 1068 = .ok (.iconst 5, 1) := by decide +kernel
theorem dL_law_1069 : decode cL_law 1069 = .ok (.iadd, 1) := by decide +kernel
theorem dL_law_1070 : decode cL_law 1070 = .ok (.iaload, 1) := by decide +kernel
theorem dL_law_1071 : decode cL_law 1071 = .ok (.aload_n 0, 1) := by decide +kernel
theorem dL_law_1072 : decode cL_law 1072 = .ok (.iload_n 3, 1) := by decide +kernel
theorem dL_law_1073 : decode cL_law 1073 = .ok (.bipush 6, 2) := by decide +kernel
theorem dL_law_1075 : decode cL_law 1075 = .ok (.iadd, 1) := by decide +kernel
theorem dL_law_1076 : decode cL_law 1076 = .ok (.iaload, 1) := by decide +kernel
theorem dL_law_1077 : decode cL_law 1077 = .ok (.invokevirtual 129, 3) := by decide +kernel
theorem dL_law_1080 : decode cL_law 1080 = .ok (.if_icmp .eq 306, 3) := by decide +kernel
theorem dL_law_1083 : decode cL_law 1083 = .ok (.iconst 0, 1) := by decide +kernel
theorem dL_law_1084 : decode cL_law 1084 = .ok (.ireturn, 1) := by decide +kernel
theorem dL_law_1085 : decode cL_law 1085 = .ok (.aload_n 1, 1) := by decide +kernel
theorem dL_law_1086 : decode cL_law 1086 = .ok (.aload_n 0, 1) := by decide +kernel
theorem dL_law_1087 : decode cL_law 1087 = .ok (.iload_n 3, 1) := by decide +kernel
theorem dL_law_1088 : decode cL_law 1088 = .ok (.iconst 1, 1) := by decide +kernel
theorem dL_law_1089 : decode cL_law 1089 = .ok (.iadd, 1) := by decide +kernel
theorem dL_law_1090 : decode cL_law 1090 = .ok (.iaload, 1) := by decide +kernel
theorem dL_law_1091 : decode cL_law 1091 = .ok (.aload_n 0, 1) := by decide +kernel
theorem dL_law_1092 : decode cL_law 1092 = .ok (.iload_n 3, 1) := by decide +kernel
theorem dL_law_1093 : decode cL_law 1093 = .ok (.iconst 2, 1) := by decide +kernel
theorem dL_law_1094 : decode cL_law 1094 = .ok (.iadd, 1) := by decide +kernel
theorem dL_law_1095 : decode cL_law 1095 = .ok (.iaload, 1) := by decide +kernel
theorem dL_law_1096 : decode cL_law 1096 = .ok (.aload_n 0, 1) := by decide +kernel
theorem dL_law_1097 : decode cL_law 1097 = .ok (.iload_n 3, 1) := by decide +kernel
theorem dL_law_1098 : decode cL_law 1098 = .ok (.iconst 3, 1) := by decide +kernel
theorem dL_law_1099 : decode cL_law 1099 = .ok (.iadd, 1) := by decide +kernel
theorem dL_law_1100 : decode cL_law 1100 = .ok (.iaload, 1) := by decide +kernel
theorem dL_law_1101 : decode cL_law 1101 = .ok (.aload_n 0, 1) := by decide +kernel
theorem dL_law_1102 : decode cL_law 1102 = .ok (.iload_n 3, 1) := by decide +kernel
theorem dL_law_1103 : decode cL_law 1103 = .ok (.iconst 4, 1) := by decide +kernel
theorem dL_law_1104 : decode cL_law 1104 = .ok (.iadd, 1) := by decide +kernel
theorem dL_law_1105 : decode cL_law 1105 = .ok (.iaload, 1) := by decide +kernel
theorem dL_law_1106 : decode cL_law 1106 = .ok (.invokevirtual 130, 3) := by decide +kernel
theorem dL_law_1109 : decode cL_law 1109 = .ok (.aload_n 2, 1) := by decide +kernel
theorem dL_law_1110 : decode cL_law 1110 = .ok (.aload_n 0, 1) := by decide +kernel
theorem dL_law_1111 : decode cL_law 1111 = .ok (.iload_n 3, 1) := by decide +kernel
theorem dL_law_1112 : decode cL_law 1112 = .ok (.iconst 1, 1) := by decide +kernel
theorem dL_law_1113 : decode cL_law 1113 = .ok (.iadd, 1) := by decide +kernel
theorem dL_law_1114 : decode cL_law 1114 = .ok (.iaload, 1) := by decide +kernel
theorem dL_law_1115 : decode cL_law 1115 = .ok (.aload_n 0, 1) := by decide +kernel
theorem dL_law_1116 : decode cL_law 1116 = .ok (.iload_n 3, 1) := by decide +kernel
theorem dL_law_1117 : decode cL_law 1117 = .ok (.iconst 2, 1) := by decide +kernel
theorem dL_law_1118 : decode cL_law 1118 = .ok (.iadd, 1) := by decide +kernel
theorem dL_law_1119 : decode cL_law 1119 = .ok (.iaload, 1) := by decide +kernel
theorem dL_law_1120 : decode cL_law 1120 = .ok (.aload_n 0, 1) := by decide +kernel
theorem dL_law_1121 : decode cL_law 1121 = .ok (.iload_n 3, 1) := by decide +kernel
theorem dL_law_1122 : decode cL_law 1122 = .ok (.iconst 3, 1) := by decide +kernel
theorem dL_law_1123 : decode cL_law 1123 = .ok (.iadd, 1) := by decide +kernel
theorem dL_law_1124 : decode cL_law 1124 = .ok (.iaload, 1) := by decide +kernel
theorem dL_law_1125 : decode cL_law 1125 = .ok (.aload_n 0, 1) := by decide +kernel
theorem dL_law_1126 : decode cL_law 1126 = .ok (.iload_n 3, 1) := by decide +kernel
theorem dL_law_1127 : decode cL_law 1127 = .ok (.iconst 4, 1) := by decide +kernel
theorem dL_law_1128 : decode cL_law 1128 = .ok (.iadd, 1) := by decide +kernel
theorem dL_law_1129 : decode cL_law 1129 = .ok (.iaload, 1) := by decide +kernel
theorem dL_law_1130 : decode cL_law 1130 = .ok (.invokevirtual 133, 3) := by decide +kernel
theorem dL_law_1133 : decode cL_law 1133 = .ok (.if_icmp .eq 253, 3) := by decide +kernel
theorem dL_law_1136 : decode cL_law 1136 = .ok (.iconst 0, 1) := by decide +kernel
theorem dL_law_1137 : decode cL_law 1137 = .ok (.ireturn, 1) := by decide +kernel
theorem dL_law_1138 : decode cL_law 1138 = .ok (.aload_n 1, 1) := by decide +kernel
theorem dL_law_1139 : decode cL_law 1139 = .ok (.aload_n 0, 1) := by decide +kernel
theorem dL_law_1140 : decode cL_law 1140 = .ok (.iload_n 3, 1) := by decide +kernel
theorem dL_law_1141 : decode cL_law 1141 = .ok (.iconst 1, 1) := by decide +kernel
theorem dL_law_1142 : decode cL_law 1142 = .ok (.iadd, 1) := by decide +kernel
theorem dL_law_1143 : decode cL_law 1143 = .ok (.iaload, 1) := by decide +kernel
theorem dL_law_1144 : decode cL_law 1144 = .ok (.invokevirtual 134, 3) := by decide +kernel
theorem dL_law_1147 : decode cL_law 1147 = .ok (.aload_n 2, 1) := by decide +kernel
theorem dL_law_1148 : decode cL_law 1148 = .ok (.aload_n 0, 1) := by decide +kernel
theorem dL_law_1149 : decode cL_law 1149 = .ok (.iload_n 3, 1) := by decide +kernel
theorem dL_law_1150 : decode cL_law 1150 = .ok (.iconst 1, 1) := by decide +kernel
theorem dL_law_1151 : decode cL_law 1151 = .ok (.iadd, 1) := by decide +kernel
theorem dL_law_1152 : decode cL_law 1152 = .ok (.iaload, 1) := by decide +kernel
theorem dL_law_1153 : decode cL_law 1153 = .ok (.invokevirtual 137, 3) := by decide +kernel
theorem dL_law_1156 : decode cL_law 1156 = .ok (.if_icmp .eq 230, 3) := by decide +kernel
theorem dL_law_1159 : decode cL_law 1159 = .ok (.iconst 0, 1) := by decide +kernel
theorem dL_law_1160 : decode cL_law 1160 = .ok (.ireturn, 1) := by decide +kernel
theorem dL_law_1161 : decode cL_law 1161 = .ok (.aload_n 1, 1) := by decide +kernel
