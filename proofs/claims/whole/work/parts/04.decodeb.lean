theorem dX5_branch_109 : decode cX5_branch 109 = .ok (.aload_n 0, 1) := by decide +kernel
theorem dX5_branch_110 : decode cX5_branch 110 = .ok (.getfield 9, 3) := by decide +kernel
theorem dX5_branch_113 : decode cX5_branch 113 = .ok (.bipush 64, 2) := by decide +kernel
theorem dX5_branch_115 : decode cX5_branch 115 = .ok (.iand, 1) := by decide +kernel
theorem dX5_branch_116 : decode cX5_branch 116 = .ok (.ifCond .ne 7, 3) := by decide +kernel
theorem dX5_branch_119 : decode cX5_branch 119 = .ok (.iconst 1, 1) := by decide +kernel
theorem dX5_branch_120 : decode cX5_branch 120 = .ok (.goto 4, 3) := by decide +kernel
theorem dX5_branch_123 : decode cX5_branch 123 = .ok (.iconst 0, 1) := by decide +kernel
theorem dX5_branch_124 : decode cX5_branch 124 = .ok (.iload_n 3, 1) := by decide +kernel
theorem dX5_branch_125 : decode cX5_branch 125 = .ok (.invokevirtual 197, 3) := by decide +kernel
theorem dX5_branch_128 : decode cX5_branch 128 = .ok (.goto 190, 3) := by decide +kernel
theorem dX5_branch_131 : decode cX5_branch 131 = .ok (.aload_n 0, 1) := by decide +kernel
theorem dX5_branch_132 : decode cX5_branch 132 = .ok (.aload_n 0, 1) := by decide +kernel
theorem dX5_branch_133 : decode cX5_branch 133 = .ok (.getfield 9, 3) := by decide +kernel
theorem dX5_branch_136 : decode cX5_branch 136 = .ok (.bipush 64, 2) := by decide +kernel
theorem dX5_branch_138 : decode cX5_branch 138 = .ok (.iand, 1) := by decide +kernel
theorem dX5_branch_139 : decode cX5_branch 139 = .ok (.ifCond .eq 7, 3) := by decide +kernel
theorem dX5_branch_142 : decode cX5_branch 142 = .ok (.iconst 1, 1) := by decide +kernel
theorem dX5_branch_143 : decode cX5_branch 143 = .ok (.goto 4, 3) := by decide +kernel
theorem dX5_branch_146 : decode cX5_branch 146 = .ok (.iconst 0, 1) := by decide +kernel
theorem dX5_branch_147 : decode cX5_branch 147 = .ok (.iload_n 3, 1) := by decide +kernel
theorem dX5_branch_148 : decode cX5_branch 148 = .ok (.invokevirtual 197, 3) := by decide +kernel
theorem dX5_branch_151 : decode cX5_branch 151 = .ok (.goto 167, 3) := by decide +kernel
theorem dX5_branch_154 : decode cX5_branch 154 = .ok (.aload_n 0, 1) := by decide +kernel
theorem dX5_branch_155 : decode cX5_branch 155 = .ok (.aload_n 0, 1) := by decide +kernel
theorem dX5_branch_156 : decode cX5_branch 156 = .ok (.getfield 9, 3) := by decide +kernel
theorem dX5_branch_159 : decode cX5_branch 159 = .ok (.iconst 1, 1) := by decide +kernel
theorem dX5_branch_160 : decode cX5_branch 160 = .ok (.iand, 1) := by decide +kernel
theorem dX5_branch_161 : decode cX5_branch 161 = .ok (.ifCond .ne 7, 3) := by decide +kernel
theorem dX5_branch_164 : decode cX5_branch 164 = .ok (.iconst 1, 1) := by decide +kernel
theorem dX5_branch_165 : decode cX5_branch 165 = .ok (.goto 4, 3) := by decide +kernel
theorem dX5_branch_168 : decode cX5_branch 168 = .ok (.iconst 0, 1) := by decide +kernel
theorem dX5_branch_169 : decode cX5_branch 169 = .ok (.iload_n 3, 1) := by decide +kernel
theorem dX5_branch_170 : decode cX5_branch 170 = .ok (.invokevirtual 197, 3) := by decide +kernel
theorem dX5_branch_173 : decode cX5_branch 173 = .ok (.goto 145, 3) := by decide +kernel
theorem dX5_branch_176 : decode cX5_branch 176 = .ok (.aload_n 0, 1) := by decide +kernel
theorem dX5_branch_177 : decode cX5_branch 177 = .ok (.aload_n 0, 1) := by decide +kernel
theorem dX5_branch_178 : decode cX5_branch 178 = .ok (.getfield 9, 3) := by decide +kernel
theorem dX5_branch_181 : decode cX5_branch 181 = .ok (.iconst 1, 1) := by decide +kernel
theorem dX5_branch_182 : decode cX5_branch 182 = .ok (.iand, 1) := by decide +kernel
theorem dX5_branch_183 : decode cX5_branch 183 = .ok (.ifCond .eq 7, 3) := by decide +kernel
theorem dX5_branch_186 : decode cX5_branch 186 = .ok (.iconst 1, 1) := by decide +kernel
theorem dX5_branch_187 : decode cX5_branch 187 = .ok (.goto 4, 3) := by decide +kernel
theorem dX5_branch_190 : decode cX5_branch 190 = .ok (.iconst 0, 1) := by decide +kernel
theorem dX5_branch_191 : decode cX5_branch 191 = .ok (.iload_n 3, 1) := by decide +kernel
theorem dX5_branch_192 : decode cX5_branch 192 = .ok (.invokevirtual 197, 3) := by decide +kernel
theorem dX5_branch_195 : decode cX5_branch 195 = .ok (.goto 123, 3) := by decide +kernel
theorem dX5_branch_198 : decode cX5_branch 198 = .ok (.aload_n 0, 1) := by decide +kernel
theorem dX5_branch_199 : decode cX5_branch 199 = .ok (.aload_n 0, 1) := by decide +kernel
theorem dX5_branch_200 : decode cX5_branch 200 = .ok (.getfield 9, 3) := by decide +kernel
theorem dX5_branch_203 : decode cX5_branch 203 = .ok (.iconst 2, 1) := by decide +kernel
theorem dX5_branch_204 : decode cX5_branch 204 = .ok (.iand, 1) := by decide +kernel
theorem dX5_branch_205 : decode cX5_branch 205 = .ok (.ifCond .ne 7, 3) := by decide +kernel
theorem dX5_branch_208 : decode cX5_branch 208 = .ok (.iconst 1, 1) := by decide +kernel
theorem dX5_branch_209 : decode cX5_branch 209 = .ok (.goto 4, 3) := by decide +kernel
theorem dX5_branch_212 : decode cX5_branch 212 = .ok (.iconst 0, 1) := by decide +kernel
theorem dX5_branch_213 : decode cX5_branch 213 = .ok (.iload_n 3, 1) := by decide +kernel
theorem dX5_branch_214 : decode cX5_branch 214 = .ok (.invokevirtual 197, 3) := by decide +kernel
theorem dX5_branch_217 : decode cX5_branch 217 = .ok (.goto 101, 3) := by decide +kernel
theorem dX5_branch_220 : decode cX5_branch 220 = .ok (.aload_n 0, 1) := by decide +kernel
theorem dX5_branch_221 : decode cX5_branch 221 = .ok (.aload_n 0, 1) := by decide +kernel
theorem dX5_branch_222 : decode cX5_branch 222 = .ok (.getfield 9, 3) := by decide +kernel
theorem dX5_branch_225 : decode cX5_branch 225 = .ok (.iconst 2, 1) := by decide +kernel
theorem dX5_branch_226 : decode cX5_branch 226 = .ok (.iand, 1) := by decide +kernel
theorem dX5_branch_227 : decode cX5_branch 227 = .ok (.ifCond .eq 7, 3) := by decide +kernel
theorem dX5_branch_230 : decode cX5_branch 230 = .ok (.iconst 1, 1) := by decide +kernel
theorem dX5_branch_231 : decode cX5_branch 231 = .ok (.goto 4, 3) := by decide +kernel
theorem dX5_branch_234 : decode cX5_branch 234 = .ok (.iconst 0, 1) := by decide +kernel
theorem dX5_branch_235 : decode cX5_branch 235 = .ok (.iload_n 3, 1) := by decide +kernel
theorem dX5_branch_236 : decode cX5_branch 236 = .ok (.invokevirtual 197, 3) := by decide +kernel
theorem dX5_branch_239 : decode cX5_branch 239 = .ok (.goto 79, 3) := by decide +kernel
theorem dX5_branch_242 : decode cX5_branch 242 = .ok (.aload_n 0, 1) := by decide +kernel
theorem dX5_branch_243 : decode cX5_branch 243 = .ok (.aload_n 0, 1) := by decide +kernel
theorem dX5_branch_244 : decode cX5_branch 244 = .ok (.getfield 20, 3) := by decide +kernel
theorem dX5_branch_247 : decode cX5_branch 247 = .ok (.iload_n 3, 1) := by decide +kernel
theorem dX5_branch_248 : decode cX5_branch 248 = .ok (.sipush 255, 3) := by decide +kernel
theorem dX5_branch_251 : decode cX5_branch 251 = .ok (.iand, 1) := by decide +kernel
theorem dX5_branch_252 : decode cX5_branch 252 = .ok (.invokevirtual 86, 3) := by decide +kernel
theorem dX5_branch_255 : decode cX5_branch 255 = .ok (.iload_n 2, 1) := by decide +kernel
theorem dX5_branch_256 : decode cX5_branch 256 = .ok (.ishr, 1) := by decide +kernel
theorem dX5_branch_257 : decode cX5_branch 257 = .ok (.iconst 1, 1) := by decide +kernel
theorem dX5_branch_258 : decode cX5_branch 258 = .ok (.iand, 1) := by decide +kernel
theorem dX5_branch_259 : decode cX5_branch 259 = .ok (.ifCond .ne 7, 3) := by decide +kernel
theorem dX5_branch_262 : decode cX5_branch 262 = .ok (.iconst 1, 1) := by decide +kernel
theorem dX5_branch_263 : decode cX5_branch 263 = .ok (.goto 4, 3) := by decide +kernel
theorem dX5_branch_266 : decode cX5_branch 266 = .ok (.iconst 0, 1) := by decide +kernel
theorem dX5_branch_267 : decode cX5_branch 267 = .ok (.iload_n 3, 1) := by decide +kernel
theorem dX5_branch_268 : decode cX5_branch 268 = .ok (.bipush 8, 2) := by decide +kernel
theorem dX5_branch_270 : decode cX5_branch 270 = .ok (.ishr, 1) := by decide +kernel
theorem dX5_branch_271 : decode cX5_branch 271 = .ok (.invokevirtual 197, 3) := by decide +kernel
theorem dX5_branch_274 : decode cX5_branch 274 = .ok (.goto 44, 3) := by decide +kernel
theorem dX5_branch_277 : decode cX5_branch 277 = .ok (.aload_n 0, 1) := by decide +kernel
theorem dX5_branch_278 : decode cX5_branch 278 = .ok (.aload_n 0, 1) := by decide +kernel
theorem dX5_branch_279 : decode cX5_branch 279 = .ok (.getfield 20, 3) := by decide +kernel
theorem dX5_branch_282 : decode cX5_branch 282 = .ok (.iload_n 3, 1) := by decide +kernel
theorem dX5_branch_283 : decode cX5_branch 283 = .ok (.sipush 255, 3) := by decide +kernel
theorem dX5_branch_286 : decode cX5_branch 286 = .ok (.iand, 1) := by decide +kernel
theorem dX5_branch_287 : decode cX5_branch 287 = .ok (.invokevirtual 86, 3) := by decide +kernel
theorem dX5_branch_290 : decode cX5_branch 290 = .ok (.iload_n 2, 1) := by decide +kernel
theorem dX5_branch_291 : decode cX5_branch 291 = .ok (.ishr, 1) := by decide +kernel
theorem dX5_branch_292 : decode cX5_branch 292 = .ok (.iconst 1, 1) := by decide +kernel
theorem dX5_branch_293 : decode cX5_branch 293 = .ok (.iand, 1) := by decide +kernel
theorem dX5_branch_294 : decode cX5_branch 294 = .ok (.ifCond .eq 7, 3) := by decide +kernel
theorem dX5_branch_297 : decode cX5_branch 297 = .ok (.iconst 1, 1) := by decide +kernel
theorem dX5_branch_298 : decode cX5_branch 298 = .ok (.goto 4, 3) := by decide +kernel
theorem dX5_branch_301 : decode cX5_branch 301 = .ok (.iconst 0, 1) := by decide +kernel
theorem dX5_branch_302 : decode cX5_branch 302 = .ok (.iload_n 3, 1) := by decide +kernel
theorem dX5_branch_303 : decode cX5_branch 303 = .ok (.bipush 8, 2) := by decide +kernel
theorem dX5_branch_305 : decode cX5_branch 305 = .ok (.ishr, 1) := by decide +kernel
theorem dX5_branch_306 : decode cX5_branch 306 = .ok (.invokevirtual 197, 3) := by decide +kernel
theorem dX5_branch_309 : decode cX5_branch 309 = .ok (.goto 9, 3) := by decide +kernel
theorem dX5_branch_312 : decode cX5_branch 312 = .ok (.aload_n 0, 1) := by decide +kernel
theorem dX5_branch_313 : decode cX5_branch 313 = .ok (.iconst 1, 1) := by decide +kernel
theorem dX5_branch_314 : decode cX5_branch 314 = .ok (.iload_n 3, 1) := by decide +kernel
theorem dX5_branch_315 : decode cX5_branch 315 = .ok (.invokevirtual 197, 3) := by decide +kernel
theorem dX5_branch_318 : decode cX5_branch 318 = .ok (.return_, 1) := by decide +kernel
theorem dX5_goIf_0 : decode cX5_goIf 0 = .ok (.iload_n 1, 1) := by decide +kernel
theorem dX5_goIf_1 : decode cX5_goIf 1 = .ok (.ifCond .ne 4, 3) := by decide +kernel
theorem dX5_goIf_4 : decode cX5_goIf 4 = .ok (.return_, 1) := by decide +kernel
theorem dX5_goIf_5 : decode cX5_goIf 5 = .ok (.aload_n 0, 1) := by decide +kernel
theorem dX5_goIf_6 : decode cX5_goIf 6 = .ok (.getfield 32, 3) := by decide +kernel
theorem dX5_goIf_9 : decode cX5_goIf 9 = .ok (.istore_n 3, 1) := by decide +kernel
theorem dX5_goIf_10 : decode cX5_goIf 10 = .ok (.aload_n 0, 1) := by decide +kernel
theorem dX5_goIf_11 : decode cX5_goIf 11 = .ok (.aload_n 0, 1) := by decide +kernel
theorem dX5_goIf_12 : decode cX5_goIf 12 = .ok (.getfield 32, 3) := by decide +kernel
theorem dX5_goIf_15 : decode cX5_goIf 15 = .ok (.iload_n 2, 1) := by decide +kernel
theorem dX5_goIf_16 : decode cX5_goIf 16 = .ok (.i2b, 1) := by decide +kernel
theorem dX5_goIf_17 : decode cX5_goIf 17 = .ok (.iadd, 1) := by decide +kernel
theorem dX5_goIf_18 : decode cX5_goIf 18 = .ok (.ldc 148, 2) := by decide +kernel
theorem dX5_goIf_20 : decode cX5_goIf 20 = .ok (.iand, 1) := by decide +kernel
theorem dX5_goIf_21 : decode cX5_goIf 21 = .ok (.putfield 32, 3) := by decide +kernel
theorem dX5_goIf_24 : decode cX5_goIf 24 = .ok (.aload_n 0, 1) := by decide +kernel
theorem dX5_goIf_25 : decode cX5_goIf 25 = .ok (.dup, 1) := by decide +kernel
theorem dX5_goIf_26 : decode cX5_goIf 26 = .ok (.getfield 57, 3) := by decide +kernel
theorem dX5_goIf_29 : decode cX5_goIf 29 = .ok (.aload_n 0, 1) := by decide +kernel
theorem dX5_goIf_30 : decode cX5_goIf 30 = .ok (.getfield 32, 3) := by decide +kernel
theorem dX5_goIf_33 : decode cX5_goIf 33 = .ok (.bipush 8, 2) := by decide +kernel
theorem dX5_goIf_35 : decode cX5_goIf 35 = .ok (.ishr, 1) := by decide +kernel
theorem dX5_goIf_36 : decode cX5_goIf 36 = .ok (.iload_n 3, 1) := by decide +kernel
theorem dX5_goIf_37 : decode cX5_goIf 37 = .ok (.bipush 8, 2) := by decide +kernel
theorem dX5_goIf_39 : decode cX5_goIf 39 = .ok (.ishr, 1) := by decide +kernel
theorem dX5_goIf_40 : decode cX5_goIf 40 = .ok (.if_icmp .ne 7, 3) := by decide +kernel
theorem dX5_goIf_43 : decode cX5_goIf 43 = .ok (.iconst 1, 1) := by decide +kernel
theorem dX5_goIf_44 : decode cX5_goIf 44 = .ok (.goto 4, 3) := by decide +kernel
theorem dX5_goIf_47 : decode cX5_goIf 47 = .ok (.iconst 2, 1) := by decide +kernel
theorem dX5_goIf_48 : decode cX5_goIf 48 = .ok (.iadd, 1) := by decide +kernel
theorem dX5_goIf_49 : decode cX5_goIf 49 = .ok (.putfield 57, 3) := by decide +kernel
theorem dX5_goIf_52 : decode cX5_goIf 52 = .ok (.return_, 1) := by decide +kernel
theorem dX5_jump_0 : decode cX5_jump 0 = .ok (.iload_n 1, 1) := by decide +kernel
theorem dX5_jump_1 : decode cX5_jump 1 = .ok (.tableswitch 148 112 116 #[35, 43, 55, 90, 116], 35) := by decide +kernel
theorem dX5_jump_36 : decode cX5_jump 36 = .ok (.aload_n 0, 1) := by decide +kernel
theorem dX5_jump_37 : decode cX5_jump 37 = .ok (.iload_n 2, 1) := by decide +kernel
theorem dX5_jump_38 : decode cX5_jump 38 = .ok (.putfield 32, 3) := by decide +kernel
theorem dX5_jump_41 : decode cX5_jump 41 = .ok (.goto 131, 3) := by decide +kernel
theorem dX5_jump_44 : decode cX5_jump 44 = .ok (.aload_n 0, 1) := by decide +kernel
theorem dX5_jump_45 : decode cX5_jump 45 = .ok (.aload_n 0, 1) := by decide +kernel
theorem dX5_jump_46 : decode cX5_jump 46 = .ok (.iload_n 2, 1) := by decide +kernel
theorem dX5_jump_47 : decode cX5_jump 47 = .ok (.invokevirtual 28, 3) := by decide +kernel
theorem dX5_jump_50 : decode cX5_jump 50 = .ok (.putfield 32, 3) := by decide +kernel
theorem dX5_jump_53 : decode cX5_jump 53 = .ok (.goto 119, 3) := by decide +kernel
theorem dX5_jump_56 : decode cX5_jump 56 = .ok (.aload_n 0, 1) := by decide +kernel
theorem dX5_jump_57 : decode cX5_jump 57 = .ok (.getfield 32, 3) := by decide +kernel
theorem dX5_jump_60 : decode cX5_jump 60 = .ok (.iconst 1, 1) := by decide +kernel
theorem dX5_jump_61 : decode cX5_jump 61 = .ok (.isub, 1) := by decide +kernel
theorem dX5_jump_62 : decode cX5_jump 62 = .ok (.ldc 148, 2) := by decide +kernel
theorem dX5_jump_64 : decode cX5_jump 64 = .ok (.iand, 1) := by decide +kernel
theorem dX5_jump_65 : decode cX5_jump 65 = .ok (.istore_n 3, 1) := by decide +kernel
theorem dX5_jump_66 : decode cX5_jump 66 = .ok (.aload_n 0, 1) := by decide +kernel
theorem dX5_jump_67 : decode cX5_jump 67 = .ok (.iload_n 3, 1) := by decide +kernel
theorem dX5_jump_68 : decode cX5_jump 68 = .ok (.bipush 8, 2) := by decide +kernel
theorem dX5_jump_70 : decode cX5_jump 70 = .ok (.ishr, 1) := by decide +kernel
theorem dX5_jump_71 : decode cX5_jump 71 = .ok (.invokevirtual 83, 3) := by decide +kernel
theorem dX5_jump_74 : decode cX5_jump 74 = .ok (.aload_n 0, 1) := by decide +kernel
theorem dX5_jump_75 : decode cX5_jump 75 = .ok (.iload_n 3, 1) := by decide +kernel
theorem dX5_jump_76 : decode cX5_jump 76 = .ok (.sipush 255, 3) := by decide +kernel
theorem dX5_jump_79 : decode cX5_jump 79 = .ok (.iand, 1) := by decide +kernel
theorem dX5_jump_80 : decode cX5_jump 80 = .ok (.invokevirtual 83, 3) := by decide +kernel
theorem dX5_jump_83 : decode cX5_jump 83 = .ok (.aload_n 0, 1) := by decide +kernel
theorem dX5_jump_84 : decode cX5_jump 84 = .ok (.iload_n 2, 1) := by decide +kernel
theorem dX5_jump_85 : decode cX5_jump 85 = .ok (.putfield 32, 3) := by decide +kernel
theorem dX5_jump_88 : decode cX5_jump 88 = .ok (.goto 84, 3) := by decide +kernel
theorem dX5_jump_91 : decode cX5_jump 91 = .ok (.aload_n 0, 1) := by decide +kernel
theorem dX5_jump_92 : decode cX5_jump 92 = .ok (.invokevirtual 194, 3) := by decide +kernel
theorem dX5_jump_95 : decode cX5_jump 95 = .ok (.istore_n 3, 1) := by decide +kernel
theorem dX5_jump_96 : decode cX5_jump 96 = .ok (.aload_n 0, 1) := by decide +kernel
theorem dX5_jump_97 : decode cX5_jump 97 = .ok (.iload_n 3, 1) := by decide +kernel
theorem dX5_jump_98 : decode cX5_jump 98 = .ok (.aload_n 0, 1) := by decide +kernel
theorem dX5_jump_99 : decode cX5_jump 99 = .ok (.invokevirtual 194, 3) := by decide +kernel
theorem dX5_jump_102 : decode cX5_jump 102 = .ok (.bipush 8, 2) := by decide +kernel
theorem dX5_jump_104 : decode cX5_jump 104 = .ok (.ishl, 1) := by decide +kernel
theorem dX5_jump_105 : decode cX5_jump 105 = .ok (.ior, 1) := by decide +kernel
theorem dX5_jump_106 : decode cX5_jump 106 = .ok (.iconst 1, 1) := by decide +kernel
theorem dX5_jump_107 : decode cX5_jump 107 = .ok (.iadd, 1) := by decide +kernel
theorem dX5_jump_108 : decode cX5_jump 108 = .ok (.ldc 148, 2) := by decide +kernel
theorem dX5_jump_110 : decode cX5_jump 110 = .ok (.iand, 1) := by decide +kernel
theorem dX5_jump_111 : decode cX5_jump 111 = .ok (.putfield 32, 3) := by decide +kernel
theorem dX5_jump_114 : decode cX5_jump 114 = .ok (.goto 58, 3) := by decide +kernel
theorem dX5_jump_117 : decode cX5_jump 117 = .ok (.aload_n 0, 1) := by decide +kernel
theorem dX5_jump_118 : decode cX5_jump 118 = .ok (.aload_n 0, 1) := by decide +kernel
theorem dX5_jump_119 : decode cX5_jump 119 = .ok (.invokevirtual 194, 3) := by decide +kernel
theorem dX5_jump_122 : decode cX5_jump 122 = .ok (.bipush 48, 2) := by decide +kernel
theorem dX5_jump_124 : decode cX5_jump 124 = .ok (.ior, 1) := by decide +kernel
theorem dX5_jump_125 : decode cX5_jump 125 = .ok (.putfield 9, 3) := by decide +kernel
theorem dX5_jump_128 : decode cX5_jump 128 = .ok (.aload_n 0, 1) := by decide +kernel
theorem dX5_jump_129 : decode cX5_jump 129 = .ok (.invokevirtual 194, 3) := by decide +kernel
theorem dX5_jump_132 : decode cX5_jump 132 = .ok (.istore_n 3, 1) := by decide +kernel
theorem dX5_jump_133 : decode cX5_jump 133 = .ok (.aload_n 0, 1) := by decide +kernel
theorem dX5_jump_134 : decode cX5_jump 134 = .ok (.iload_n 3, 1) := by decide +kernel
theorem dX5_jump_135 : decode cX5_jump 135 = .ok (.aload_n 0, 1) := by decide +kernel
theorem dX5_jump_136 : decode cX5_jump 136 = .ok (.invokevirtual 194, 3) := by decide +kernel
theorem dX5_jump_139 : decode cX5_jump 139 = .ok (.bipush 8, 2) := by decide +kernel
theorem dX5_jump_141 : decode cX5_jump 141 = .ok (.ishl, 1) := by decide +kernel
theorem dX5_jump_142 : decode cX5_jump 142 = .ok (.ior, 1) := by decide +kernel
theorem dX5_jump_143 : decode cX5_jump 143 = .ok (.putfield 32, 3) := by decide +kernel
theorem dX5_jump_146 : decode cX5_jump 146 = .ok (.goto 26, 3) := by decide +kernel
theorem dX5_jump_149 : decode cX5_jump 149 = .ok (.aload_n 0, 1) := by decide +kernel
theorem dX5_jump_150 : decode cX5_jump 150 = .ok (.aload_n 0, 1) := by decide +kernel
theorem dX5_jump_151 : decode cX5_jump 151 = .ok (.getfield 32, 3) := by decide +kernel
theorem dX5_jump_154 : decode cX5_jump 154 = .ok (.iconst 1, 1) := by decide +kernel
theorem dX5_jump_155 : decode cX5_jump 155 = .ok (.iadd, 1) := by decide +kernel
theorem dX5_jump_156 : decode cX5_jump 156 = .ok (.ldc 148, 2) := by decide +kernel
theorem dX5_jump_158 : decode cX5_jump 158 = .ok (.iand, 1) := by decide +kernel
theorem dX5_jump_159 : decode cX5_jump 159 = .ok (.putfield 32, 3) := by decide +kernel
theorem dX5_jump_162 : decode cX5_jump 162 = .ok (.aload_n 0, 1) := by decide +kernel
theorem dX5_jump_163 : decode cX5_jump 163 = .ok (.ldc 56, 2) := by decide +kernel
theorem dX5_jump_165 : decode cX5_jump 165 = .ok (.aload_n 0, 1) := by decide +kernel
theorem dX5_jump_166 : decode cX5_jump 166 = .ok (.getfield 9, 3) := by decide +kernel
theorem dX5_jump_169 : decode cX5_jump 169 = .ok (.invokevirtual 79, 3) := by decide +kernel
theorem dX5_jump_172 : decode cX5_jump 172 = .ok (.return_, 1) := by decide +kernel
theorem dX5_push_0 : decode cX5_push 0 = .ok (.aload_n 0, 1) := by decide +kernel
theorem dX5_push_1 : decode cX5_push 1 = .ok (.getfield 20, 3) := by decide +kernel
theorem dX5_push_4 : decode cX5_push 4 = .ok (.sipush 256, 3) := by decide +kernel
theorem dX5_push_7 : decode cX5_push 7 = .ok (.aload_n 0, 1) := by decide +kernel
theorem dX5_push_8 : decode cX5_push 8 = .ok (.getfield 24, 3) := by decide +kernel
theorem dX5_push_11 : decode cX5_push 11 = .ok (.iadd, 1) := by decide +kernel
theorem dX5_push_12 : decode cX5_push 12 = .ok (.iload_n 1, 1) := by decide +kernel
theorem dX5_push_13 : decode cX5_push 13 = .ok (.invokevirtual 125, 3) := by decide +kernel
theorem dX5_push_16 : decode cX5_push 16 = .ok (.aload_n 0, 1) := by decide +kernel
theorem dX5_push_17 : decode cX5_push 17 = .ok (.aload_n 0, 1) := by decide +kernel
theorem dX5_push_18 : decode cX5_push 18 = .ok (.getfield 24, 3) := by decide +kernel
theorem dX5_push_21 : decode cX5_push 21 = .ok (.iconst 1, 1) := by decide +kernel
theorem dX5_push_22 : decode cX5_push 22 = .ok (.isub, 1) := by decide +kernel
theorem dX5_push_23 : decode cX5_push 23 = .ok (.sipush 255, 3) := by decide +kernel
theorem dX5_push_26 : decode cX5_push 26 = .ok (.iand, 1) := by decide +kernel
theorem dX5_push_27 : decode cX5_push 27 = .ok (.putfield 24, 3) := by decide +kernel
theorem dX5_push_30 : decode cX5_push 30 = .ok (.return_, 1) := by decide +kernel
theorem dX5_pull_0 : decode cX5_pull 0 = .ok (.aload_n 0, 1) := by decide +kernel
theorem dX5_pull_1 : decode cX5_pull 1 = .ok (.aload_n 0, 1) := by decide +kernel
theorem dX5_pull_2 : decode cX5_pull 2 = .ok (.getfield 24, 3) := by decide +kernel
theorem dX5_pull_5 : decode cX5_pull 5 = .ok (.iconst 1, 1) := by decide +kernel
theorem dX5_pull_6 : decode cX5_pull 6 = .ok (.iadd, 1) := by decide +kernel
theorem dX5_pull_7 : decode cX5_pull 7 = .ok (.sipush 255, 3) := by decide +kernel
theorem dX5_pull_10 : decode cX5_pull 10 = .ok (.iand, 1) := by decide +kernel
theorem dX5_pull_11 : decode cX5_pull 11 = .ok (.putfield 24, 3) := by decide +kernel
theorem dX5_pull_14 : decode cX5_pull 14 = .ok (.aload_n 0, 1) := by decide +kernel
theorem dX5_pull_15 : decode cX5_pull 15 = .ok (.getfield 20, 3) := by decide +kernel
theorem dX5_pull_18 : decode cX5_pull 18 = .ok (.sipush 256, 3) := by decide +kernel
theorem dX5_pull_21 : decode cX5_pull 21 = .ok (.aload_n 0, 1) := by decide +kernel
theorem dX5_pull_22 : decode cX5_pull 22 = .ok (.getfield 24, 3) := by decide +kernel
theorem dX5_pull_25 : decode cX5_pull 25 = .ok (.iadd, 1) := by decide +kernel
theorem dX5_pull_26 : decode cX5_pull 26 = .ok (.invokevirtual 86, 3) := by decide +kernel
theorem dX5_pull_29 : decode cX5_pull 29 = .ok (.ireturn, 1) := by decide +kernel
theorem dX5_mark_0 : decode cX5_mark 0 = .ok (.aload_n 0, 1) := by decide +kernel
theorem dX5_mark_1 : decode cX5_mark 1 = .ok (.iload_n 2, 1) := by decide +kernel
theorem dX5_mark_2 : decode cX5_mark 2 = .ok (.ifCond .eq 12, 3) := by decide +kernel
theorem dX5_mark_5 : decode cX5_mark 5 = .ok (.aload_n 0, 1) := by decide +kernel
theorem dX5_mark_6 : decode cX5_mark 6 = .ok (.getfield 9, 3) := by decide +kernel
theorem dX5_mark_9 : decode cX5_mark 9 = .ok (.iload_n 1, 1) := by decide +kernel
theorem dX5_mark_10 : decode cX5_mark 10 = .ok (.ior, 1) := by decide +kernel
theorem dX5_mark_11 : decode cX5_mark 11 = .ok (.goto 11, 3) := by decide +kernel
theorem dX5_mark_14 : decode cX5_mark 14 = .ok (.aload_n 0, 1) := by decide +kernel
theorem dX5_mark_15 : decode cX5_mark 15 = .ok (.getfield 9, 3) := by decide +kernel
theorem dX5_mark_18 : decode cX5_mark 18 = .ok (.iload_n 1, 1) := by decide +kernel
theorem dX5_mark_19 : decode cX5_mark 19 = .ok (.iconst (-1), 1) := by decide +kernel
theorem dX5_mark_20 : decode cX5_mark 20 = .ok (.ixor, 1) := by decide +kernel
theorem dX5_mark_21 : decode cX5_mark 21 = .ok (.iand, 1) := by decide +kernel
theorem dX5_mark_22 : decode cX5_mark 22 = .ok (.putfield 9, 3) := by decide +kernel
theorem dX5_mark_25 : decode cX5_mark 25 = .ok (.return_, 1) := by decide +kernel
theorem dX5_shown_0 : decode cX5_shown 0 = .ok (.iload_n 1, 1) := by decide +kernel
theorem dX5_shown_1 : decode cX5_shown 1 = .ok (.sipush 255, 3) := by decide +kernel
theorem dX5_shown_4 : decode cX5_shown 4 = .ok (.iand, 1) := by decide +kernel
theorem dX5_shown_5 : decode cX5_shown 5 = .ok (.istore_n 2, 1) := by decide +kernel
theorem dX5_shown_6 : decode cX5_shown 6 = .ok (.aload_n 0, 1) := by decide +kernel
theorem dX5_shown_7 : decode cX5_shown 7 = .ok (.aload_n 0, 1) := by decide +kernel
theorem dX5_shown_8 : decode cX5_shown 8 = .ok (.getfield 9, 3) := by decide +kernel
theorem dX5_shown_11 : decode cX5_shown 11 = .ok (.sipush (-131), 3) := by decide +kernel
theorem dX5_shown_14 : decode cX5_shown 14 = .ok (.iand, 1) := by decide +kernel
theorem dX5_shown_15 : decode cX5_shown 15 = .ok (.iload_n 2, 1) := by decide +kernel
theorem dX5_shown_16 : decode cX5_shown 16 = .ok (.sipush 128, 3) := by decide +kernel
theorem dX5_shown_19 : decode cX5_shown 19 = .ok (.iand, 1) := by decide +kernel
theorem dX5_shown_20 : decode cX5_shown 20 = .ok (.ior, 1) := by decide +kernel
theorem dX5_shown_21 : decode cX5_shown 21 = .ok (.iload_n 2, 1) := by decide +kernel
theorem dX5_shown_22 : decode cX5_shown 22 = .ok (.ifCond .ne 7, 3) := by decide +kernel
theorem dX5_shown_25 : decode cX5_shown 25 = .ok (.iconst 2, 1) := by decide +kernel
theorem dX5_shown_26 : decode cX5_shown 26 = .ok (.goto 4, 3) := by decide +kernel
theorem dX5_shown_29 : decode cX5_shown 29 = .ok (.iconst 0, 1) := by decide +kernel
theorem dX5_shown_30 : decode cX5_shown 30 = .ok (.ior, 1) := by decide +kernel
theorem dX5_shown_31 : decode cX5_shown 31 = .ok (.putfield 9, 3) := by decide +kernel
theorem dX5_shown_34 : decode cX5_shown 34 = .ok (.iload_n 2, 1) := by decide +kernel
theorem dX5_shown_35 : decode cX5_shown 35 = .ok (.ireturn, 1) := by decide +kernel
theorem dX6_init_0 : decode cX6_init 0 = .ok (.aload_n 0, 1) := by decide +kernel
theorem dX6_init_1 : decode cX6_init 1 = .ok (.invokespecial 1, 3) := by decide +kernel
theorem dX6_init_4 : decode cX6_init 4 = .ok (.aload_n 0, 1) := by decide +kernel
theorem dX6_init_5 : decode cX6_init 5 = .ok (.ldc 9, 2) := by decide +kernel
theorem dX6_init_7 : decode cX6_init 7 = .ok (.putfield 10, 3) := by decide +kernel
theorem dX6_init_10 : decode cX6_init 10 = .ok (.aload_n 0, 1) := by decide +kernel
theorem dX6_init_11 : decode cX6_init 11 = .ok (.ldc 9, 2) := by decide +kernel
theorem dX6_init_13 : decode cX6_init 13 = .ok (.putfield 14, 3) := by decide +kernel
theorem dX6_init_16 : decode cX6_init 16 = .ok (.return_, 1) := by decide +kernel
theorem dX6_restart_0 : decode cX6_restart 0 = .ok (.aload_n 0, 1) := by decide +kernel
theorem dX6_restart_1 : decode cX6_restart 1 = .ok (.ldc 9, 2) := by decide +kernel
theorem dX6_restart_3 : decode cX6_restart 3 = .ok (.putfield 10, 3) := by decide +kernel
theorem dX6_restart_6 : decode cX6_restart 6 = .ok (.aload_n 0, 1) := by decide +kernel
theorem dX6_restart_7 : decode cX6_restart 7 = .ok (.ldc 9, 2) := by decide +kernel
theorem dX6_restart_9 : decode cX6_restart 9 = .ok (.putfield 14, 3) := by decide +kernel
theorem dX6_restart_12 : decode cX6_restart 12 = .ok (.aload_n 0, 1) := by decide +kernel
theorem dX6_restart_13 : decode cX6_restart 13 = .ok (.iconst 0, 1) := by decide +kernel
theorem dX6_restart_14 : decode cX6_restart 14 = .ok (.putfield 17, 3) := by decide +kernel
theorem dX6_restart_17 : decode cX6_restart 17 = .ok (.aload_n 0, 1) := by decide +kernel
theorem dX6_restart_18 : decode cX6_restart 18 = .ok (.iconst 0, 1) := by decide +kernel
theorem dX6_restart_19 : decode cX6_restart 19 = .ok (.putfield 20, 3) := by decide +kernel
theorem dX6_restart_22 : decode cX6_restart 22 = .ok (.aload_n 0, 1) := by decide +kernel
theorem dX6_restart_23 : decode cX6_restart 23 = .ok (.iconst 0, 1) := by decide +kernel
theorem dX6_restart_24 : decode cX6_restart 24 = .ok (.putfield 23, 3) := by decide +kernel
theorem dX6_restart_27 : decode cX6_restart 27 = .ok (.aload_n 0, 1) := by decide +kernel
theorem dX6_restart_28 : decode cX6_restart 28 = .ok (.iconst 0, 1) := by decide +kernel
theorem dX6_restart_29 : decode cX6_restart 29 = .ok (.putfield 26, 3) := by decide +kernel
theorem dX6_restart_32 : decode cX6_restart 32 = .ok (.aload_n 0, 1) := by decide +kernel
theorem dX6_restart_33 : decode cX6_restart 33 = .ok (.iconst 0, 1) := by decide +kernel
theorem dX6_restart_34 : decode cX6_restart 34 = .ok (.putfield 29, 3) := by decide +kernel
theorem dX6_restart_37 : decode cX6_restart 37 = .ok (.aload_n 0, 1) := by decide +kernel
theorem dX6_restart_38 : decode cX6_restart 38 = .ok (.iconst 0, 1) := by decide +kernel
theorem dX6_restart_39 : decode cX6_restart 39 = .ok (.putfield 32, 3) := by decide +kernel
theorem dX6_restart_42 : decode cX6_restart 42 = .ok (.aload_n 0, 1) := by decide +kernel
theorem dX6_restart_43 : decode cX6_restart 43 = .ok (.iconst 0, 1) := by decide +kernel
theorem dX6_restart_44 : decode cX6_restart 44 = .ok (.putfield 36, 3) := by decide +kernel
theorem dX6_restart_47 : decode cX6_restart 47 = .ok (.return_, 1) := by decide +kernel
theorem dX6_asks_0 : decode cX6_asks 0 = .ok (.aload_n 0, 1) := by decide +kernel
theorem dX6_asks_1 : decode cX6_asks 1 = .ok (.bipush 13, 2) := by decide +kernel
theorem dX6_asks_3 : decode cX6_asks 3 = .ok (.invokevirtual 39, 3) := by decide +kernel
theorem dX6_asks_6 : decode cX6_asks 6 = .ok (.sipush 128, 3) := by decide +kernel
theorem dX6_asks_9 : decode cX6_asks 9 = .ok (.iand, 1) := by decide +kernel
theorem dX6_asks_10 : decode cX6_asks 10 = .ok (.ifCond .eq 7, 3) := by decide +kernel
theorem dX6_asks_13 : decode cX6_asks 13 = .ok (.iconst 1, 1) := by decide +kernel
theorem dX6_asks_14 : decode cX6_asks 14 = .ok (.goto 4, 3) := by decide +kernel
theorem dX6_asks_17 : decode cX6_asks 17 = .ok (.iconst 0, 1) := by decide +kernel
theorem dX6_asks_18 : decode cX6_asks 18 = .ok (.ireturn, 1) := by decide +kernel
theorem dX6_peek_0 : decode cX6_peek 0 = .ok (.iload_n 1, 1) := by decide +kernel
theorem dX6_peek_1 : decode cX6_peek 1 = .ok (.tableswitch 170 4 14 #[59, 70, 80, 91, 101, 112, 170, 122, 170, 129, 159], 59) := by decide +kernel
theorem dX6_peek_60 : decode cX6_peek 60 = .ok (.aload_n 0, 1) := by decide +kernel
theorem dX6_peek_61 : decode cX6_peek 61 = .ok (.getfield 10, 3) := by decide +kernel
theorem dX6_peek_64 : decode cX6_peek 64 = .ok (.sipush 255, 3) := by decide +kernel
theorem dX6_peek_67 : decode cX6_peek 67 = .ok (.iand, 1) := by decide +kernel
theorem dX6_peek_68 : decode cX6_peek 68 = .ok (.goto 104, 3) := by decide +kernel
theorem dX6_peek_71 : decode cX6_peek 71 = .ok (.aload_n 0, 1) := by decide +kernel
theorem dX6_peek_72 : decode cX6_peek 72 = .ok (.getfield 10, 3) := by decide +kernel
theorem dX6_peek_75 : decode cX6_peek 75 = .ok (.bipush 8, 2) := by decide +kernel
theorem dX6_peek_77 : decode cX6_peek 77 = .ok (.ishr, 1) := by decide +kernel
theorem dX6_peek_78 : decode cX6_peek 78 = .ok (.goto 94, 3) := by decide +kernel
theorem dX6_peek_81 : decode cX6_peek 81 = .ok (.aload_n 0, 1) := by decide +kernel
theorem dX6_peek_82 : decode cX6_peek 82 = .ok (.getfield 17, 3) := by decide +kernel
theorem dX6_peek_85 : decode cX6_peek 85 = .ok (.sipush 255, 3) := by decide +kernel
theorem dX6_peek_88 : decode cX6_peek 88 = .ok (.iand, 1) := by decide +kernel
theorem dX6_peek_89 : decode cX6_peek 89 = .ok (.goto 83, 3) := by decide +kernel
theorem dX6_peek_92 : decode cX6_peek 92 = .ok (.aload_n 0, 1) := by decide +kernel
theorem dX6_peek_93 : decode cX6_peek 93 = .ok (.getfield 17, 3) := by decide +kernel
theorem dX6_peek_96 : decode cX6_peek 96 = .ok (.bipush 8, 2) := by decide +kernel
theorem dX6_peek_98 : decode cX6_peek 98 = .ok (.ishr, 1) := by decide +kernel
theorem dX6_peek_99 : decode cX6_peek 99 = .ok (.goto 73, 3) := by decide +kernel
theorem dX6_peek_102 : decode cX6_peek 102 = .ok (.aload_n 0, 1) := by decide +kernel
theorem dX6_peek_103 : decode cX6_peek 103 = .ok (.getfield 14, 3) := by decide +kernel
theorem dX6_peek_106 : decode cX6_peek 106 = .ok (.sipush 255, 3) := by decide +kernel
theorem dX6_peek_109 : decode cX6_peek 109 = .ok (.iand, 1) := by decide +kernel
theorem dX6_peek_110 : decode cX6_peek 110 = .ok (.goto 62, 3) := by decide +kernel
theorem dX6_peek_113 : decode cX6_peek 113 = .ok (.aload_n 0, 1) := by decide +kernel
theorem dX6_peek_114 : decode cX6_peek 114 = .ok (.getfield 14, 3) := by decide +kernel
theorem dX6_peek_117 : decode cX6_peek 117 = .ok (.bipush 8, 2) := by decide +kernel
theorem dX6_peek_119 : decode cX6_peek 119 = .ok (.ishr, 1) := by decide +kernel
theorem dX6_peek_120 : decode cX6_peek 120 = .ok (.goto 52, 3) := by decide +kernel
theorem dX6_peek_123 : decode cX6_peek 123 = .ok (.aload_n 0, 1) := by decide +kernel
theorem dX6_peek_124 : decode cX6_peek 124 = .ok (.getfield 29, 3) := by decide +kernel
theorem dX6_peek_127 : decode cX6_peek 127 = .ok (.goto 45, 3) := by decide +kernel
theorem dX6_peek_130 : decode cX6_peek 130 = .ok (.aload_n 0, 1) := by decide +kernel
theorem dX6_peek_131 : decode cX6_peek 131 = .ok (.getfield 20, 3) := by decide +kernel
theorem dX6_peek_134 : decode cX6_peek 134 = .ok (.aload_n 0, 1) := by decide +kernel
theorem dX6_peek_135 : decode cX6_peek 135 = .ok (.getfield 23, 3) := by decide +kernel
theorem dX6_peek_138 : decode cX6_peek 138 = .ok (.iand, 1) := by decide +kernel
theorem dX6_peek_139 : decode cX6_peek 139 = .ok (.ifCond .eq 14, 3) := by decide +kernel
theorem dX6_peek_142 : decode cX6_peek 142 = .ok (.aload_n 0, 1) := by decide +kernel
theorem dX6_peek_143 : decode cX6_peek 143 = .ok (.getfield 20, 3) := by decide +kernel
theorem dX6_peek_146 : decode cX6_peek 146 = .ok (.sipush 128, 3) := by decide +kernel
theorem dX6_peek_149 : decode cX6_peek 149 = .ok (.ior, 1) := by decide +kernel
theorem dX6_peek_150 : decode cX6_peek 150 = .ok (.goto 22, 3) := by decide +kernel
theorem dX6_peek_153 : decode cX6_peek 153 = .ok (.aload_n 0, 1) := by decide +kernel
theorem dX6_peek_154 : decode cX6_peek 154 = .ok (.getfield 20, 3) := by decide +kernel
theorem dX6_peek_157 : decode cX6_peek 157 = .ok (.goto 15, 3) := by decide +kernel
theorem dX6_peek_160 : decode cX6_peek 160 = .ok (.aload_n 0, 1) := by decide +kernel
theorem dX6_peek_161 : decode cX6_peek 161 = .ok (.getfield 23, 3) := by decide +kernel
theorem dX6_peek_164 : decode cX6_peek 164 = .ok (.sipush 128, 3) := by decide +kernel
theorem dX6_peek_167 : decode cX6_peek 167 = .ok (.ior, 1) := by decide +kernel
theorem dX6_peek_168 : decode cX6_peek 168 = .ok (.goto 4, 3) := by decide +kernel
theorem dX6_peek_171 : decode cX6_peek 171 = .ok (.iconst 0, 1) := by decide +kernel
theorem dX6_peek_172 : decode cX6_peek 172 = .ok (.ireturn, 1) := by decide +kernel
theorem dX6_afterReading_0 : decode cX6_afterReading 0 = .ok (.iload_n 1, 1) := by decide +kernel
theorem dX6_afterReading_1 : decode cX6_afterReading 1 = .ok (.iconst 4, 1) := by decide +kernel
theorem dX6_afterReading_2 : decode cX6_afterReading 2 = .ok (.if_icmp .ne 17, 3) := by decide +kernel
theorem dX6_afterReading_5 : decode cX6_afterReading 5 = .ok (.aload_n 0, 1) := by decide +kernel
theorem dX6_afterReading_6 : decode cX6_afterReading 6 = .ok (.dup, 1) := by decide +kernel
theorem dX6_afterReading_7 : decode cX6_afterReading 7 = .ok (.getfield 20, 3) := by decide +kernel
theorem dX6_afterReading_10 : decode cX6_afterReading 10 = .ok (.bipush (-65), 2) := by decide +kernel
theorem dX6_afterReading_12 : decode cX6_afterReading 12 = .ok (.iand, 1) := by decide +kernel
theorem dX6_afterReading_13 : decode cX6_afterReading 13 = .ok (.putfield 20, 3) := by decide +kernel
theorem dX6_afterReading_16 : decode cX6_afterReading 16 = .ok (.goto 20, 3) := by decide +kernel
theorem dX6_afterReading_19 : decode cX6_afterReading 19 = .ok (.iload_n 1, 1) := by decide +kernel
theorem dX6_afterReading_20 : decode cX6_afterReading 20 = .ok (.bipush 8, 2) := by decide +kernel
theorem dX6_afterReading_22 : decode cX6_afterReading 22 = .ok (.if_icmp .ne 14, 3) := by decide +kernel
theorem dX6_afterReading_25 : decode cX6_afterReading 25 = .ok (.aload_n 0, 1) := by decide +kernel
theorem dX6_afterReading_26 : decode cX6_afterReading 26 = .ok (.dup, 1) := by decide +kernel
theorem dX6_afterReading_27 : decode cX6_afterReading 27 = .ok (.getfield 20, 3) := by decide +kernel
theorem dX6_afterReading_30 : decode cX6_afterReading 30 = .ok (.bipush (-33), 2) := by decide +kernel
theorem dX6_afterReading_32 : decode cX6_afterReading 32 = .ok (.iand, 1) := by decide +kernel
theorem dX6_afterReading_33 : decode cX6_afterReading 33 = .ok (.putfield 20, 3) := by decide +kernel
theorem dX6_afterReading_36 : decode cX6_afterReading 36 = .ok (.return_, 1) := by decide +kernel
theorem dX6_write_0 : decode cX6_write 0 = .ok (.iload_n 1, 1) := by decide +kernel
theorem dX6_write_1 : decode cX6_write 1 = .ok (.tableswitch 248 4 14 #[59, 75, 59, 119, 150, 158, 248, 190, 248, 198, 213], 59) := by decide +kernel
theorem dX6_write_60 : decode cX6_write 60 = .ok (.aload_n 0, 1) := by decide +kernel
theorem dX6_write_61 : decode cX6_write 61 = .ok (.aload_n 0, 1) := by decide +kernel
theorem dX6_write_62 : decode cX6_write 62 = .ok (.getfield 17, 3) := by decide +kernel
theorem dX6_write_65 : decode cX6_write 65 = .ok (.ldc 43, 2) := by decide +kernel
theorem dX6_write_67 : decode cX6_write 67 = .ok (.iand, 1) := by decide +kernel
theorem dX6_write_68 : decode cX6_write 68 = .ok (.iload_n 2, 1) := by decide +kernel
theorem dX6_write_69 : decode cX6_write 69 = .ok (.ior, 1) := by decide +kernel
theorem dX6_write_70 : decode cX6_write 70 = .ok (.putfield 17, 3) := by decide +kernel
theorem dX6_write_73 : decode cX6_write 73 = .ok (.goto 176, 3) := by decide +kernel
theorem dX6_write_76 : decode cX6_write 76 = .ok (.aload_n 0, 1) := by decide +kernel
theorem dX6_write_77 : decode cX6_write 77 = .ok (.aload_n 0, 1) := by decide +kernel
theorem dX6_write_78 : decode cX6_write 78 = .ok (.getfield 17, 3) := by decide +kernel
theorem dX6_write_81 : decode cX6_write 81 = .ok (.sipush 255, 3) := by decide +kernel
theorem dX6_write_84 : decode cX6_write 84 = .ok (.iand, 1) := by decide +kernel
theorem dX6_write_85 : decode cX6_write 85 = .ok (.iload_n 2, 1) := by decide +kernel
theorem dX6_write_86 : decode cX6_write 86 = .ok (.bipush 8, 2) := by decide +kernel
theorem dX6_write_88 : decode cX6_write 88 = .ok (.ishl, 1) := by decide +kernel
theorem dX6_write_89 : decode cX6_write 89 = .ok (.ior, 1) := by decide +kernel
theorem dX6_write_90 : decode cX6_write 90 = .ok (.putfield 17, 3) := by decide +kernel
theorem dX6_write_93 : decode cX6_write 93 = .ok (.aload_n 0, 1) := by decide +kernel
theorem dX6_write_94 : decode cX6_write 94 = .ok (.aload_n 0, 1) := by decide +kernel
theorem dX6_write_95 : decode cX6_write 95 = .ok (.getfield 17, 3) := by decide +kernel
theorem dX6_write_98 : decode cX6_write 98 = .ok (.putfield 10, 3) := by decide +kernel
theorem dX6_write_101 : decode cX6_write 101 = .ok (.aload_n 0, 1) := by decide +kernel
theorem dX6_write_102 : decode cX6_write 102 = .ok (.iconst 1, 1) := by decide +kernel
theorem dX6_write_103 : decode cX6_write 103 = .ok (.putfield 32, 3) := by decide +kernel
theorem dX6_write_106 : decode cX6_write 106 = .ok (.aload_n 0, 1) := by decide +kernel
theorem dX6_write_107 : decode cX6_write 107 = .ok (.dup, 1) := by decide +kernel
theorem dX6_write_108 : decode cX6_write 108 = .ok (.getfield 20, 3) := by decide +kernel
theorem dX6_write_111 : decode cX6_write 111 = .ok (.bipush (-65), 2) := by decide +kernel
theorem dX6_write_113 : decode cX6_write 113 = .ok (.iand, 1) := by decide +kernel
theorem dX6_write_114 : decode cX6_write 114 = .ok (.putfield 20, 3) := by decide +kernel
theorem dX6_write_117 : decode cX6_write 117 = .ok (.goto 132, 3) := by decide +kernel
theorem dX6_write_120 : decode cX6_write 120 = .ok (.aload_n 0, 1) := by decide +kernel
theorem dX6_write_121 : decode cX6_write 121 = .ok (.aload_n 0, 1) := by decide +kernel
theorem dX6_write_122 : decode cX6_write 122 = .ok (.getfield 17, 3) := by decide +kernel
theorem dX6_write_125 : decode cX6_write 125 = .ok (.sipush 255, 3) := by decide +kernel
theorem dX6_write_128 : decode cX6_write 128 = .ok (.iand, 1) := by decide +kernel
theorem dX6_write_129 : decode cX6_write 129 = .ok (.iload_n 2, 1) := by decide +kernel
theorem dX6_write_130 : decode cX6_write 130 = .ok (.bipush 8, 2) := by decide +kernel
theorem dX6_write_132 : decode cX6_write 132 = .ok (.ishl, 1) := by decide +kernel
theorem dX6_write_133 : decode cX6_write 133 = .ok (.ior, 1) := by decide +kernel
theorem dX6_write_134 : decode cX6_write 134 = .ok (.putfield 17, 3) := by decide +kernel
theorem dX6_write_137 : decode cX6_write 137 = .ok (.aload_n 0, 1) := by decide +kernel
theorem dX6_write_138 : decode cX6_write 138 = .ok (.dup, 1) := by decide +kernel
theorem dX6_write_139 : decode cX6_write 139 = .ok (.getfield 20, 3) := by decide +kernel
theorem dX6_write_142 : decode cX6_write 142 = .ok (.bipush (-65), 2) := by decide +kernel
theorem dX6_write_144 : decode cX6_write 144 = .ok (.iand, 1) := by decide +kernel
theorem dX6_write_145 : decode cX6_write 145 = .ok (.putfield 20, 3) := by decide +kernel
theorem dX6_write_148 : decode cX6_write 148 = .ok (.goto 101, 3) := by decide +kernel
theorem dX6_write_151 : decode cX6_write 151 = .ok (.aload_n 0, 1) := by decide +kernel
theorem dX6_write_152 : decode cX6_write 152 = .ok (.iload_n 2, 1) := by decide +kernel
theorem dX6_write_153 : decode cX6_write 153 = .ok (.putfield 26, 3) := by decide +kernel
theorem dX6_write_156 : decode cX6_write 156 = .ok (.goto 93, 3) := by decide +kernel
theorem dX6_write_159 : decode cX6_write 159 = .ok (.aload_n 0, 1) := by decide +kernel
theorem dX6_write_160 : decode cX6_write 160 = .ok (.iload_n 2, 1) := by decide +kernel
theorem dX6_write_161 : decode cX6_write 161 = .ok (.bipush 8, 2) := by decide +kernel
theorem dX6_write_163 : decode cX6_write 163 = .ok (.ishl, 1) := by decide +kernel
theorem dX6_write_164 : decode cX6_write 164 = .ok (.aload_n 0, 1) := by decide +kernel
theorem dX6_write_165 : decode cX6_write 165 = .ok (.getfield 26, 3) := by decide +kernel
theorem dX6_write_168 : decode cX6_write 168 = .ok (.ior, 1) := by decide +kernel
theorem dX6_write_169 : decode cX6_write 169 = .ok (.putfield 14, 3) := by decide +kernel
theorem dX6_write_172 : decode cX6_write 172 = .ok (.aload_n 0, 1) := by decide +kernel
theorem dX6_write_173 : decode cX6_write 173 = .ok (.iconst 1, 1) := by decide +kernel
theorem dX6_write_174 : decode cX6_write 174 = .ok (.putfield 36, 3) := by decide +kernel
theorem dX6_write_177 : decode cX6_write 177 = .ok (.aload_n 0, 1) := by decide +kernel
theorem dX6_write_178 : decode cX6_write 178 = .ok (.dup, 1) := by decide +kernel
theorem dX6_write_179 : decode cX6_write 179 = .ok (.getfield 20, 3) := by decide +kernel
theorem dX6_write_182 : decode cX6_write 182 = .ok (.bipush (-33), 2) := by decide +kernel
theorem dX6_write_184 : decode cX6_write 184 = .ok (.iand, 1) := by decide +kernel
theorem dX6_write_185 : decode cX6_write 185 = .ok (.putfield 20, 3) := by decide +kernel
theorem dX6_write_188 : decode cX6_write 188 = .ok (.goto 61, 3) := by decide +kernel
theorem dX6_write_191 : decode cX6_write 191 = .ok (.aload_n 0, 1) := by decide +kernel
theorem dX6_write_192 : decode cX6_write 192 = .ok (.iload_n 2, 1) := by decide +kernel
theorem dX6_write_193 : decode cX6_write 193 = .ok (.putfield 29, 3) := by decide +kernel
theorem dX6_write_196 : decode cX6_write 196 = .ok (.goto 53, 3) := by decide +kernel
theorem dX6_write_199 : decode cX6_write 199 = .ok (.aload_n 0, 1) := by decide +kernel
theorem dX6_write_200 : decode cX6_write 200 = .ok (.dup, 1) := by decide +kernel
theorem dX6_write_201 : decode cX6_write 201 = .ok (.getfield 20, 3) := by decide +kernel
theorem dX6_write_204 : decode cX6_write 204 = .ok (.iload_n 2, 1) := by decide +kernel
theorem dX6_write_205 : decode cX6_write 205 = .ok (.iconst (-1), 1) := by decide +kernel
theorem dX6_write_206 : decode cX6_write 206 = .ok (.ixor, 1) := by decide +kernel
theorem dX6_write_207 : decode cX6_write 207 = .ok (.iand, 1) := by decide +kernel
theorem dX6_write_208 : decode cX6_write 208 = .ok (.putfield 20, 3) := by decide +kernel
theorem dX6_write_211 : decode cX6_write 211 = .ok (.goto 38, 3) := by decide +kernel
theorem dX6_write_214 : decode cX6_write 214 = .ok (.aload_n 0, 1) := by decide +kernel
theorem dX6_write_215 : decode cX6_write 215 = .ok (.iload_n 2, 1) := by decide +kernel
theorem dX6_write_216 : decode cX6_write 216 = .ok (.sipush 128, 3) := by decide +kernel
theorem dX6_write_219 : decode cX6_write 219 = .ok (.iand, 1) := by decide +kernel
theorem dX6_write_220 : decode cX6_write 220 = .ok (.ifCond .eq 15, 3) := by decide +kernel
theorem dX6_write_223 : decode cX6_write 223 = .ok (.aload_n 0, 1) := by decide +kernel
theorem dX6_write_224 : decode cX6_write 224 = .ok (.getfield 23, 3) := by decide +kernel
theorem dX6_write_227 : decode cX6_write 227 = .ok (.iload_n 2, 1) := by decide +kernel
theorem dX6_write_228 : decode cX6_write 228 = .ok (.bipush 127, 2) := by decide +kernel
theorem dX6_write_230 : decode cX6_write 230 = .ok (.iand, 1) := by decide +kernel
theorem dX6_write_231 : decode cX6_write 231 = .ok (.ior, 1) := by decide +kernel
theorem dX6_write_232 : decode cX6_write 232 = .ok (.goto 11, 3) := by decide +kernel
theorem dX6_write_235 : decode cX6_write 235 = .ok (.aload_n 0, 1) := by decide +kernel
theorem dX6_write_236 : decode cX6_write 236 = .ok (.getfield 23, 3) := by decide +kernel
theorem dX6_write_239 : decode cX6_write 239 = .ok (.iload_n 2, 1) := by decide +kernel
theorem dX6_write_240 : decode cX6_write 240 = .ok (.iconst (-1), 1) := by decide +kernel
theorem dX6_write_241 : decode cX6_write 241 = .ok (.ixor, 1) := by decide +kernel
theorem dX6_write_242 : decode cX6_write 242 = .ok (.iand, 1) := by decide +kernel
theorem dX6_write_243 : decode cX6_write 243 = .ok (.putfield 23, 3) := by decide +kernel
theorem dX6_write_246 : decode cX6_write 246 = .ok (.goto 3, 3) := by decide +kernel
theorem dX6_write_249 : decode cX6_write 249 = .ok (.return_, 1) := by decide +kernel
theorem dX6_pass_0 : decode cX6_pass 0 = .ok (.aload_n 0, 1) := by decide +kernel
theorem dX6_pass_1 : decode cX6_pass 1 = .ok (.getfield 10, 3) := by decide +kernel
theorem dX6_pass_4 : decode cX6_pass 4 = .ok (.iload_n 1, 1) := by decide +kernel
theorem dX6_pass_5 : decode cX6_pass 5 = .ok (.if_icmp .lt 16, 3) := by decide +kernel
theorem dX6_pass_8 : decode cX6_pass 8 = .ok (.aload_n 0, 1) := by decide +kernel
theorem dX6_pass_9 : decode cX6_pass 9 = .ok (.dup, 1) := by decide +kernel
theorem dX6_pass_10 : decode cX6_pass 10 = .ok (.getfield 10, 3) := by decide +kernel
theorem dX6_pass_13 : decode cX6_pass 13 = .ok (.iload_n 1, 1) := by decide +kernel
theorem dX6_pass_14 : decode cX6_pass 14 = .ok (.isub, 1) := by decide +kernel
theorem dX6_pass_15 : decode cX6_pass 15 = .ok (.putfield 10, 3) := by decide +kernel
theorem dX6_pass_18 : decode cX6_pass 18 = .ok (.goto 20, 3) := by decide +kernel
theorem dX6_pass_21 : decode cX6_pass 21 = .ok (.iconst 0, 1) := by decide +kernel
theorem dX6_pass_22 : decode cX6_pass 22 = .ok (.istore_n 2, 1) := by decide +kernel
theorem dX6_pass_23 : decode cX6_pass 23 = .ok (.iload_n 2, 1) := by decide +kernel
theorem dX6_pass_24 : decode cX6_pass 24 = .ok (.iload_n 1, 1) := by decide +kernel
theorem dX6_pass_25 : decode cX6_pass 25 = .ok (.if_icmp .ge 13, 3) := by decide +kernel
theorem dX6_pass_28 : decode cX6_pass 28 = .ok (.aload_n 0, 1) := by decide +kernel
theorem dX6_pass_29 : decode cX6_pass 29 = .ok (.invokevirtual 44, 3) := by decide +kernel
theorem dX6_pass_32 : decode cX6_pass 32 = .ok (.iinc 2 1, 3) := by decide +kernel
theorem dX6_pass_35 : decode cX6_pass 35 = .ok (.goto (-12), 3) := by decide +kernel
theorem dX6_pass_38 : decode cX6_pass 38 = .ok (.aload_n 0, 1) := by decide +kernel
theorem dX6_pass_39 : decode cX6_pass 39 = .ok (.getfield 14, 3) := by decide +kernel
theorem dX6_pass_42 : decode cX6_pass 42 = .ok (.iload_n 1, 1) := by decide +kernel
theorem dX6_pass_43 : decode cX6_pass 43 = .ok (.if_icmp .lt 16, 3) := by decide +kernel
theorem dX6_pass_46 : decode cX6_pass 46 = .ok (.aload_n 0, 1) := by decide +kernel
theorem dX6_pass_47 : decode cX6_pass 47 = .ok (.dup, 1) := by decide +kernel
theorem dX6_pass_48 : decode cX6_pass 48 = .ok (.getfield 14, 3) := by decide +kernel
theorem dX6_pass_51 : decode cX6_pass 51 = .ok (.iload_n 1, 1) := by decide +kernel
theorem dX6_pass_52 : decode cX6_pass 52 = .ok (.isub, 1) := by decide +kernel
theorem dX6_pass_53 : decode cX6_pass 53 = .ok (.putfield 14, 3) := by decide +kernel
theorem dX6_pass_56 : decode cX6_pass 56 = .ok (.goto 20, 3) := by decide +kernel
theorem dX6_pass_59 : decode cX6_pass 59 = .ok (.iconst 0, 1) := by decide +kernel
theorem dX6_pass_60 : decode cX6_pass 60 = .ok (.istore_n 2, 1) := by decide +kernel
theorem dX6_pass_61 : decode cX6_pass 61 = .ok (.iload_n 2, 1) := by decide +kernel
theorem dX6_pass_62 : decode cX6_pass 62 = .ok (.iload_n 1, 1) := by decide +kernel
theorem dX6_pass_63 : decode cX6_pass 63 = .ok (.if_icmp .ge 13, 3) := by decide +kernel
theorem dX6_pass_66 : decode cX6_pass 66 = .ok (.aload_n 0, 1) := by decide +kernel
theorem dX6_pass_67 : decode cX6_pass 67 = .ok (.invokevirtual 47, 3) := by decide +kernel
theorem dX6_pass_70 : decode cX6_pass 70 = .ok (.iinc 2 1, 3) := by decide +kernel
theorem dX6_pass_73 : decode cX6_pass 73 = .ok (.goto (-12), 3) := by decide +kernel
theorem dX6_pass_76 : decode cX6_pass 76 = .ok (.return_, 1) := by decide +kernel
theorem dX6_passOneOf1_0 : decode cX6_passOneOf1 0 = .ok (.aload_n 0, 1) := by decide +kernel
theorem dX6_passOneOf1_1 : decode cX6_passOneOf1 1 = .ok (.getfield 10, 3) := by decide +kernel
theorem dX6_passOneOf1_4 : decode cX6_passOneOf1 4 = .ok (.ifCond .eq 14, 3) := by decide +kernel
theorem dX6_passOneOf1_7 : decode cX6_passOneOf1 7 = .ok (.aload_n 0, 1) := by decide +kernel
theorem dX6_passOneOf1_8 : decode cX6_passOneOf1 8 = .ok (.dup, 1) := by decide +kernel
theorem dX6_passOneOf1_9 : decode cX6_passOneOf1 9 = .ok (.getfield 10, 3) := by decide +kernel
theorem dX6_passOneOf1_12 : decode cX6_passOneOf1 12 = .ok (.iconst 1, 1) := by decide +kernel
theorem dX6_passOneOf1_13 : decode cX6_passOneOf1 13 = .ok (.isub, 1) := by decide +kernel
theorem dX6_passOneOf1_14 : decode cX6_passOneOf1 14 = .ok (.putfield 10, 3) := by decide +kernel
theorem dX6_passOneOf1_17 : decode cX6_passOneOf1 17 = .ok (.return_, 1) := by decide +kernel
theorem dX6_passOneOf1_18 : decode cX6_passOneOf1 18 = .ok (.aload_n 0, 1) := by decide +kernel
theorem dX6_passOneOf1_19 : decode cX6_passOneOf1 19 = .ok (.getfield 29, 3) := by decide +kernel
theorem dX6_passOneOf1_22 : decode cX6_passOneOf1 22 = .ok (.bipush 64, 2) := by decide +kernel
theorem dX6_passOneOf1_24 : decode cX6_passOneOf1 24 = .ok (.iand, 1) := by decide +kernel
theorem dX6_passOneOf1_25 : decode cX6_passOneOf1 25 = .ok (.ifCond .eq 7, 3) := by decide +kernel
theorem dX6_passOneOf1_28 : decode cX6_passOneOf1 28 = .ok (.iconst 1, 1) := by decide +kernel
theorem dX6_passOneOf1_29 : decode cX6_passOneOf1 29 = .ok (.goto 4, 3) := by decide +kernel
theorem dX6_passOneOf1_32 : decode cX6_passOneOf1 32 = .ok (.iconst 0, 1) := by decide +kernel
theorem dX6_passOneOf1_33 : decode cX6_passOneOf1 33 = .ok (.istore_n 1, 1) := by decide +kernel
theorem dX6_passOneOf1_34 : decode cX6_passOneOf1 34 = .ok (.aload_n 0, 1) := by decide +kernel
theorem dX6_passOneOf1_35 : decode cX6_passOneOf1 35 = .ok (.iload_n 1, 1) := by decide +kernel
theorem dX6_passOneOf1_36 : decode cX6_passOneOf1 36 = .ok (.ifCond .eq 10, 3) := by decide +kernel
theorem dX6_passOneOf1_39 : decode cX6_passOneOf1 39 = .ok (.aload_n 0, 1) := by decide +kernel
theorem dX6_passOneOf1_40 : decode cX6_passOneOf1 40 = .ok (.getfield 17, 3) := by decide +kernel
theorem dX6_passOneOf1_43 : decode cX6_passOneOf1 43 = .ok (.goto 5, 3) := by decide +kernel
theorem dX6_passOneOf1_46 : decode cX6_passOneOf1 46 = .ok (.ldc 9, 2) := by decide +kernel
theorem dX6_passOneOf1_48 : decode cX6_passOneOf1 48 = .ok (.putfield 10, 3) := by decide +kernel
theorem dX6_passOneOf1_51 : decode cX6_passOneOf1 51 = .ok (.aload_n 0, 1) := by decide +kernel
theorem dX6_passOneOf1_52 : decode cX6_passOneOf1 52 = .ok (.getfield 32, 3) := by decide +kernel
theorem dX6_passOneOf1_55 : decode cX6_passOneOf1 55 = .ok (.ifCond .eq 19, 3) := by decide +kernel
theorem dX6_passOneOf1_58 : decode cX6_passOneOf1 58 = .ok (.aload_n 0, 1) := by decide +kernel
theorem dX6_passOneOf1_59 : decode cX6_passOneOf1 59 = .ok (.dup, 1) := by decide +kernel
theorem dX6_passOneOf1_60 : decode cX6_passOneOf1 60 = .ok (.getfield 20, 3) := by decide +kernel
theorem dX6_passOneOf1_63 : decode cX6_passOneOf1 63 = .ok (.bipush 64, 2) := by decide +kernel
theorem dX6_passOneOf1_65 : decode cX6_passOneOf1 65 = .ok (.ior, 1) := by decide +kernel
theorem dX6_passOneOf1_66 : decode cX6_passOneOf1 66 = .ok (.putfield 20, 3) := by decide +kernel
theorem dX6_passOneOf1_69 : decode cX6_passOneOf1 69 = .ok (.aload_n 0, 1) := by decide +kernel
theorem dX6_passOneOf1_70 : decode cX6_passOneOf1 70 = .ok (.iload_n 1, 1) := by decide +kernel
theorem dX6_passOneOf1_71 : decode cX6_passOneOf1 71 = .ok (.putfield 32, 3) := by decide +kernel
theorem dX6_passOneOf1_74 : decode cX6_passOneOf1 74 = .ok (.return_, 1) := by decide +kernel
theorem dX6_passOneOf2_0 : decode cX6_passOneOf2 0 = .ok (.aload_n 0, 1) := by decide +kernel
theorem dX6_passOneOf2_1 : decode cX6_passOneOf2 1 = .ok (.getfield 14, 3) := by decide +kernel
theorem dX6_passOneOf2_4 : decode cX6_passOneOf2 4 = .ok (.ifCond .eq 14, 3) := by decide +kernel
theorem dX6_passOneOf2_7 : decode cX6_passOneOf2 7 = .ok (.aload_n 0, 1) := by decide +kernel
theorem dX6_passOneOf2_8 : decode cX6_passOneOf2 8 = .ok (.dup, 1) := by decide +kernel
theorem dX6_passOneOf2_9 : decode cX6_passOneOf2 9 = .ok (.getfield 14, 3) := by decide +kernel
theorem dX6_passOneOf2_12 : decode cX6_passOneOf2 12 = .ok (.iconst 1, 1) := by decide +kernel
theorem dX6_passOneOf2_13 : decode cX6_passOneOf2 13 = .ok (.isub, 1) := by decide +kernel
theorem dX6_passOneOf2_14 : decode cX6_passOneOf2 14 = .ok (.putfield 14, 3) := by decide +kernel
theorem dX6_passOneOf2_17 : decode cX6_passOneOf2 17 = .ok (.return_, 1) := by decide +kernel
theorem dX6_passOneOf2_18 : decode cX6_passOneOf2 18 = .ok (.aload_n 0, 1) := by decide +kernel
theorem dX6_passOneOf2_19 : decode cX6_passOneOf2 19 = .ok (.ldc 9, 2) := by decide +kernel
theorem dX6_passOneOf2_21 : decode cX6_passOneOf2 21 = .ok (.putfield 14, 3) := by decide +kernel
theorem dX6_passOneOf2_24 : decode cX6_passOneOf2 24 = .ok (.aload_n 0, 1) := by decide +kernel
theorem dX6_passOneOf2_25 : decode cX6_passOneOf2 25 = .ok (.getfield 36, 3) := by decide +kernel
theorem dX6_passOneOf2_28 : decode cX6_passOneOf2 28 = .ok (.ifCond .eq 19, 3) := by decide +kernel
theorem dX6_passOneOf2_31 : decode cX6_passOneOf2 31 = .ok (.aload_n 0, 1) := by decide +kernel
theorem dX6_passOneOf2_32 : decode cX6_passOneOf2 32 = .ok (.dup, 1) := by decide +kernel
theorem dX6_passOneOf2_33 : decode cX6_passOneOf2 33 = .ok (.getfield 20, 3) := by decide +kernel
theorem dX6_passOneOf2_36 : decode cX6_passOneOf2 36 = .ok (.bipush 32, 2) := by decide +kernel
theorem dX6_passOneOf2_38 : decode cX6_passOneOf2 38 = .ok (.ior, 1) := by decide +kernel
theorem dX6_passOneOf2_39 : decode cX6_passOneOf2 39 = .ok (.putfield 20, 3) := by decide +kernel
theorem dX6_passOneOf2_42 : decode cX6_passOneOf2 42 = .ok (.aload_n 0, 1) := by decide +kernel
theorem dX6_passOneOf2_43 : decode cX6_passOneOf2 43 = .ok (.iconst 0, 1) := by decide +kernel
theorem dX6_passOneOf2_44 : decode cX6_passOneOf2 44 = .ok (.putfield 36, 3) := by decide +kernel
theorem dX6_passOneOf2_47 : decode cX6_passOneOf2 47 = .ok (.return_, 1) := by decide +kernel
theorem dX7_init_0 : decode cX7_init 0 = .ok (.aload_n 0, 1) := by decide +kernel
theorem dX7_init_1 : decode cX7_init 1 = .ok (.invokespecial 3, 3) := by decide +kernel
theorem dX7_init_4 : decode cX7_init 4 = .ok (.aload_n 0, 1) := by decide +kernel
theorem dX7_init_5 : decode cX7_init 5 = .ok (.bipush 32, 2) := by decide +kernel
theorem dX7_init_7 : decode cX7_init 7 = .ok (.newarray .int, 2) := by decide +kernel
theorem dX7_init_9 : decode cX7_init 9 = .ok (.putfield 11, 3) := by decide +kernel
theorem dX7_init_12 : decode cX7_init 12 = .ok (.return_, 1) := by decide +kernel
theorem dX7_note_0 : decode cX7_note 0 = .ok (.aload_n 0, 1) := by decide +kernel
theorem dX7_note_1 : decode cX7_note 1 = .ok (.getfield 11, 3) := by decide +kernel
theorem dX7_note_4 : decode cX7_note 4 = .ok (.aload_n 0, 1) := by decide +kernel
theorem dX7_note_5 : decode cX7_note 5 = .ok (.getfield 15, 3) := by decide +kernel
theorem dX7_note_8 : decode cX7_note 8 = .ok (.bipush 31, 2) := by decide +kernel
theorem dX7_note_10 : decode cX7_note 10 = .ok (.iand, 1) := by decide +kernel
theorem dX7_note_11 : decode cX7_note 11 = .ok (.iload_n 1, 1) := by decide +kernel
theorem dX7_note_12 : decode cX7_note 12 = .ok (.iastore, 1) := by decide +kernel
theorem dX7_note_13 : decode cX7_note 13 = .ok (.aload_n 0, 1) := by decide +kernel
theorem dX7_note_14 : decode cX7_note 14 = .ok (.dup, 1) := by decide +kernel
theorem dX7_note_15 : decode cX7_note 15 = .ok (.getfield 15, 3) := by decide +kernel
theorem dX7_note_18 : decode cX7_note 18 = .ok (.iconst 1, 1) := by decide +kernel
theorem dX7_note_19 : decode cX7_note 19 = .ok (.iadd, 1) := by decide +kernel
theorem dX7_note_20 : decode cX7_note 20 = .ok (.putfield 15, 3) := by decide +kernel
theorem dX7_note_23 : decode cX7_note 23 = .ok (.return_, 1) := by decide +kernel
theorem dX7_kept_0 : decode cX7_kept 0 = .ok (.aload_n 0, 1) := by decide +kernel
theorem dX7_kept_1 : decode cX7_kept 1 = .ok (.getfield 15, 3) := by decide +kernel
theorem dX7_kept_4 : decode cX7_kept 4 = .ok (.bipush 32, 2) := by decide +kernel
theorem dX7_kept_6 : decode cX7_kept 6 = .ok (.invokestatic 19, 3) := by decide +kernel
theorem dX7_kept_9 : decode cX7_kept 9 = .ok (.istore_n 2, 1) := by decide +kernel
theorem dX7_kept_10 : decode cX7_kept 10 = .ok (.iload_n 1, 1) := by decide +kernel
theorem dX7_kept_11 : decode cX7_kept 11 = .ok (.ifCond .lt 8, 3) := by decide +kernel
theorem dX7_kept_14 : decode cX7_kept 14 = .ok (.iload_n 1, 1) := by decide +kernel
theorem dX7_kept_15 : decode cX7_kept 15 = .ok (.iload_n 2, 1) := by decide +kernel
theorem dX7_kept_16 : decode cX7_kept 16 = .ok (.if_icmp .lt 7, 3) := by decide +kernel
theorem dX7_kept_19 : decode cX7_kept 19 = .ok (.iconst (-1), 1) := by decide +kernel
theorem dX7_kept_20 : decode cX7_kept 20 = .ok (.goto 19, 3) := by decide +kernel
theorem dX7_kept_23 : decode cX7_kept 23 = .ok (.aload_n 0, 1) := by decide +kernel
theorem dX7_kept_24 : decode cX7_kept 24 = .ok (.getfield 11, 3) := by decide +kernel
theorem dX7_kept_27 : decode cX7_kept 27 = .ok (.aload_n 0, 1) := by decide +kernel
theorem dX7_kept_28 : decode cX7_kept 28 = .ok (.getfield 15, 3) := by decide +kernel
theorem dX7_kept_31 : decode cX7_kept 31 = .ok (.iload_n 2, 1) := by decide +kernel
theorem dX7_kept_32 : decode cX7_kept 32 = .ok (.isub, 1) := by decide +kernel
theorem dX7_kept_33 : decode cX7_kept 33 = .ok (.iload_n 1, 1) := by decide +kernel
theorem dX7_kept_34 : decode cX7_kept 34 = .ok (.iadd, 1) := by decide +kernel
theorem dX7_kept_35 : decode cX7_kept 35 = .ok (.bipush 31, 2) := by decide +kernel
theorem dX7_kept_37 : decode cX7_kept 37 = .ok (.iand, 1) := by decide +kernel
theorem dX7_kept_38 : decode cX7_kept 38 = .ok (.iaload, 1) := by decide +kernel
theorem dX7_kept_39 : decode cX7_kept 39 = .ok (.ireturn, 1) := by decide +kernel
theorem dX8_init_0 : decode cX8_init 0 = .ok (.aload_n 0, 1) := by decide +kernel
theorem dX8_init_1 : decode cX8_init 1 = .ok (.invokespecial 1, 3) := by decide +kernel
theorem dX8_init_4 : decode cX8_init 4 = .ok (.aload_n 0, 1) := by decide +kernel
theorem dX8_init_5 : decode cX8_init 5 = .ok (.new 7, 3) := by decide +kernel
theorem dX8_init_8 : decode cX8_init 8 = .ok (.dup, 1) := by decide +kernel
theorem dX8_init_9 : decode cX8_init 9 = .ok (.invokespecial 9, 3) := by decide +kernel
theorem dX8_init_12 : decode cX8_init 12 = .ok (.putfield 10, 3) := by decide +kernel
theorem dX8_init_15 : decode cX8_init 15 = .ok (.aload_n 0, 1) := by decide +kernel
theorem dX8_init_16 : decode cX8_init 16 = .ok (.new 16, 3) := by decide +kernel
theorem dX8_init_19 : decode cX8_init 19 = .ok (.dup, 1) := by decide +kernel
theorem dX8_init_20 : decode cX8_init 20 = .ok (.aload_n 0, 1) := by decide +kernel
theorem dX8_init_21 : decode cX8_init 21 = .ok (.getfield 10, 3) := by decide +kernel
theorem dX8_init_24 : decode cX8_init 24 = .ok (.invokespecial 18, 3) := by decide +kernel
theorem dX8_init_27 : decode cX8_init 27 = .ok (.putfield 21, 3) := by decide +kernel
theorem dX8_init_30 : decode cX8_init 30 = .ok (.aload_n 0, 1) := by decide +kernel
theorem dX8_init_31 : decode cX8_init 31 = .ok (.new 25, 3) := by decide +kernel
theorem dX8_init_34 : decode cX8_init 34 = .ok (.dup, 1) := by decide +kernel
theorem dX8_init_35 : decode cX8_init 35 = .ok (.invokespecial 27, 3) := by decide +kernel
theorem dX8_init_38 : decode cX8_init 38 = .ok (.putfield 28, 3) := by decide +kernel
theorem dX8_init_41 : decode cX8_init 41 = .ok (.return_, 1) := by decide +kernel
theorem dX8_load_0 : decode cX8_load 0 = .ok (.iload 4, 2) := by decide +kernel
theorem dX8_load_2 : decode cX8_load 2 = .ok (.iconst 1, 1) := by decide +kernel
theorem dX8_load_3 : decode cX8_load 3 = .ok (.if_icmp .lt 10, 3) := by decide +kernel
theorem dX8_load_6 : decode cX8_load 6 = .ok (.iload 4, 2) := by decide +kernel
theorem dX8_load_8 : decode cX8_load 8 = .ok (.bipush 8, 2) := by decide +kernel
theorem dX8_load_10 : decode cX8_load 10 = .ok (.if_icmp .le 13, 3) := by decide +kernel
theorem dX8_load_13 : decode cX8_load 13 = .ok (.new 32, 3) := by decide +kernel
theorem dX8_load_16 : decode cX8_load 16 = .ok (.dup, 1) := by decide +kernel
theorem dX8_load_17 : decode cX8_load 17 = .ok (.ldc 34, 2) := by decide +kernel
theorem dX8_load_19 : decode cX8_load 19 = .ok (.invokespecial 36, 3) := by decide +kernel
theorem dX8_load_22 : decode cX8_load 22 = .ok (.athrow, 1) := by decide +kernel
theorem dX8_load_23 : decode cX8_load 23 = .ok (.iload_n 1, 1) := by decide +kernel
theorem dX8_load_24 : decode cX8_load 24 = .ok (.ifCond .lt 12, 3) := by decide +kernel
theorem dX8_load_27 : decode cX8_load 27 = .ok (.iload_n 1, 1) := by decide +kernel
theorem dX8_load_28 : decode cX8_load 28 = .ok (.ldc 39, 2) := by decide +kernel
theorem dX8_load_30 : decode cX8_load 30 = .ok (.iload 4, 2) := by decide +kernel
theorem dX8_load_32 : decode cX8_load 32 = .ok (.isub, 1) := by decide +kernel
theorem dX8_load_33 : decode cX8_load 33 = .ok (.if_icmp .le 13, 3) := by decide +kernel
theorem dX8_load_36 : decode cX8_load 36 = .ok (.new 32, 3) := by decide +kernel
theorem dX8_load_39 : decode cX8_load 39 = .ok (.dup, 1) := by decide +kernel
theorem dX8_load_40 : decode cX8_load 40 = .ok (.ldc 40, 2) := by decide +kernel
theorem dX8_load_42 : decode cX8_load 42 = .ok (.invokespecial 36, 3) := by decide +kernel
theorem dX8_load_45 : decode cX8_load 45 = .ok (.athrow, 1) := by decide +kernel
theorem dX8_load_46 : decode cX8_load 46 = .ok (.iconst 0, 1) := by decide +kernel
theorem dX8_load_47 : decode cX8_load 47 = .ok (.istore 5, 2) := by decide +kernel
theorem dX8_load_49 : decode cX8_load 49 = .ok (.iload 5, 2) := by decide +kernel
theorem dX8_load_51 : decode cX8_load 51 = .ok (.iload 4, 2) := by decide +kernel
theorem dX8_load_53 : decode cX8_load 53 = .ok (.if_icmp .ge 37, 3) := by decide +kernel
theorem dX8_load_56 : decode cX8_load 56 = .ok (.aload_n 0, 1) := by decide +kernel
theorem dX8_load_57 : decode cX8_load 57 = .ok (.getfield 10, 3) := by decide +kernel
theorem dX8_load_60 : decode cX8_load 60 = .ok (.iload_n 1, 1) := by decide +kernel
theorem dX8_load_61 : decode cX8_load 61 = .ok (.iload 5, 2) := by decide +kernel
theorem dX8_load_63 : decode cX8_load 63 = .ok (.iadd, 1) := by decide +kernel
theorem dX8_load_64 : decode cX8_load 64 = .ok (.lload_n 2, 1) := by decide +kernel
theorem dX8_load_65 : decode cX8_load 65 = .ok (.bipush 8, 2) := by decide +kernel
theorem dX8_load_67 : decode cX8_load 67 = .ok (.iload 4, 2) := by decide +kernel
theorem dX8_load_69 : decode cX8_load 69 = .ok (.iconst 1, 1) := by decide +kernel
theorem dX8_load_70 : decode cX8_load 70 = .ok (.isub, 1) := by decide +kernel
theorem dX8_load_71 : decode cX8_load 71 = .ok (.iload 5, 2) := by decide +kernel
theorem dX8_load_73 : decode cX8_load 73 = .ok (.isub, 1) := by decide +kernel
theorem dX8_load_74 : decode cX8_load 74 = .ok (.imul, 1) := by decide +kernel
theorem dX8_load_75 : decode cX8_load 75 = .ok (.lushr, 1) := by decide +kernel
theorem dX8_load_76 : decode cX8_load 76 = .ok (.l2i, 1) := by decide +kernel
theorem dX8_load_77 : decode cX8_load 77 = .ok (.sipush 255, 3) := by decide +kernel
theorem dX8_load_80 : decode cX8_load 80 = .ok (.iand, 1) := by decide +kernel
theorem dX8_load_81 : decode cX8_load 81 = .ok (.invokevirtual 42, 3) := by decide +kernel
theorem dX8_load_84 : decode cX8_load 84 = .ok (.iinc 5 1, 3) := by decide +kernel
theorem dX8_load_87 : decode cX8_load 87 = .ok (.goto (-38), 3) := by decide +kernel
theorem dX8_load_90 : decode cX8_load 90 = .ok (.return_, 1) := by decide +kernel
theorem dX8_reset_0 : decode cX8_reset 0 = .ok (.aload_n 0, 1) := by decide +kernel
theorem dX8_reset_1 : decode cX8_reset 1 = .ok (.getfield 10, 3) := by decide +kernel
theorem dX8_reset_4 : decode cX8_reset 4 = .ok (.invokevirtual 46, 3) := by decide +kernel
theorem dX8_reset_7 : decode cX8_reset 7 = .ok (.aload_n 0, 1) := by decide +kernel
theorem dX8_reset_8 : decode cX8_reset 8 = .ok (.getfield 21, 3) := by decide +kernel
theorem dX8_reset_11 : decode cX8_reset 11 = .ok (.invokevirtual 49, 3) := by decide +kernel
theorem dX8_reset_14 : decode cX8_reset 14 = .ok (.return_, 1) := by decide +kernel
theorem dX8_step_0 : decode cX8_step 0 = .ok (.aload_n 0, 1) := by decide +kernel
theorem dX8_step_1 : decode cX8_step 1 = .ok (.getfield 21, 3) := by decide +kernel
theorem dX8_step_4 : decode cX8_step 4 = .ok (.invokevirtual 50, 3) := by decide +kernel
theorem dX8_step_7 : decode cX8_step 7 = .ok (.ireturn, 1) := by decide +kernel
theorem dX8_run_0 : decode cX8_run 0 = .ok (.iload_n 1, 1) := by decide +kernel
theorem dX8_run_1 : decode cX8_run 1 = .ok (.ifCond .lt 9, 3) := by decide +kernel
theorem dX8_run_4 : decode cX8_run 4 = .ok (.iload_n 1, 1) := by decide +kernel
theorem dX8_run_5 : decode cX8_run 5 = .ok (.ldc 54, 2) := by decide +kernel
theorem dX8_run_7 : decode cX8_run 7 = .ok (.if_icmp .le 13, 3) := by decide +kernel
theorem dX8_run_10 : decode cX8_run 10 = .ok (.new 32, 3) := by decide +kernel
theorem dX8_run_13 : decode cX8_run 13 = .ok (.dup, 1) := by decide +kernel
theorem dX8_run_14 : decode cX8_run 14 = .ok (.ldc 55, 2) := by decide +kernel
theorem dX8_run_16 : decode cX8_run 16 = .ok (.invokespecial 36, 3) := by decide +kernel
theorem dX8_run_19 : decode cX8_run 19 = .ok (.athrow, 1) := by decide +kernel
theorem dX8_run_20 : decode cX8_run 20 = .ok (.aload_n 0, 1) := by decide +kernel
theorem dX8_run_21 : decode cX8_run 21 = .ok (.getfield 21, 3) := by decide +kernel
theorem dX8_run_24 : decode cX8_run 24 = .ok (.getfield 57, 3) := by decide +kernel
theorem dX8_run_27 : decode cX8_run 27 = .ok (.ifCond .eq 5, 3) := by decide +kernel
theorem dX8_run_30 : decode cX8_run 30 = .ok (.iconst 2, 1) := by decide +kernel
theorem dX8_run_31 : decode cX8_run 31 = .ok (.ireturn, 1) := by decide +kernel
theorem dX8_run_32 : decode cX8_run 32 = .ok (.iconst 0, 1) := by decide +kernel
theorem dX8_run_33 : decode cX8_run 33 = .ok (.istore_n 2, 1) := by decide +kernel
theorem dX8_run_34 : decode cX8_run 34 = .ok (.iload_n 2, 1) := by decide +kernel
theorem dX8_run_35 : decode cX8_run 35 = .ok (.iload_n 1, 1) := by decide +kernel
theorem dX8_run_36 : decode cX8_run 36 = .ok (.if_icmp .ge 48, 3) := by decide +kernel
theorem dX8_run_39 : decode cX8_run 39 = .ok (.aload_n 0, 1) := by decide +kernel
theorem dX8_run_40 : decode cX8_run 40 = .ok (.getfield 21, 3) := by decide +kernel
theorem dX8_run_43 : decode cX8_run 43 = .ok (.invokevirtual 50, 3) := by decide +kernel
theorem dX8_run_46 : decode cX8_run 46 = .ok (.pop, 1) := by decide +kernel
theorem dX8_run_47 : decode cX8_run 47 = .ok (.aload_n 0, 1) := by decide +kernel
theorem dX8_run_48 : decode cX8_run 48 = .ok (.getfield 21, 3) := by decide +kernel
theorem dX8_run_51 : decode cX8_run 51 = .ok (.getfield 57, 3) := by decide +kernel
theorem dX8_run_54 : decode cX8_run 54 = .ok (.ifCond .eq 5, 3) := by decide +kernel
theorem dX8_run_57 : decode cX8_run 57 = .ok (.iconst 2, 1) := by decide +kernel
theorem dX8_run_58 : decode cX8_run 58 = .ok (.ireturn, 1) := by decide +kernel
theorem dX8_run_59 : decode cX8_run 59 = .ok (.aload_n 0, 1) := by decide +kernel
theorem dX8_run_60 : decode cX8_run 60 = .ok (.getfield 28, 3) := by decide +kernel
theorem dX8_run_63 : decode cX8_run 63 = .ok (.aload_n 0, 1) := by decide +kernel
theorem dX8_run_64 : decode cX8_run 64 = .ok (.getfield 21, 3) := by decide +kernel
theorem dX8_run_67 : decode cX8_run 67 = .ok (.getfield 61, 3) := by decide +kernel
theorem dX8_run_70 : decode cX8_run 70 = .ok (.invokevirtual 65, 3) := by decide +kernel
theorem dX8_run_73 : decode cX8_run 73 = .ok (.ifCond .eq 5, 3) := by decide +kernel
theorem dX8_run_76 : decode cX8_run 76 = .ok (.iconst 1, 1) := by decide +kernel
theorem dX8_run_77 : decode cX8_run 77 = .ok (.ireturn, 1) := by decide +kernel
theorem dX8_run_78 : decode cX8_run 78 = .ok (.iinc 2 1, 3) := by decide +kernel
theorem dX8_run_81 : decode cX8_run 81 = .ok (.goto (-47), 3) := by decide +kernel
theorem dX8_run_84 : decode cX8_run 84 = .ok (.iconst 0, 1) := by decide +kernel
theorem dX8_run_85 : decode cX8_run 85 = .ok (.ireturn, 1) := by decide +kernel
theorem dX8_nmi_0 : decode cX8_nmi 0 = .ok (.aload_n 0, 1) := by decide +kernel
theorem dX8_nmi_1 : decode cX8_nmi 1 = .ok (.getfield 21, 3) := by decide +kernel
theorem dX8_nmi_4 : decode cX8_nmi 4 = .ok (.iconst 1, 1) := by decide +kernel
theorem dX8_nmi_5 : decode cX8_nmi 5 = .ok (.putfield 69, 3) := by decide +kernel
theorem dX8_nmi_8 : decode cX8_nmi 8 = .ok (.return_, 1) := by decide +kernel
theorem dX8_receive_0 : decode cX8_receive 0 = .ok (.aload_n 0, 1) := by decide +kernel
theorem dX8_receive_1 : decode cX8_receive 1 = .ok (.getfield 10, 3) := by decide +kernel
theorem dX8_receive_4 : decode cX8_receive 4 = .ok (.getfield 72, 3) := by decide +kernel
theorem dX8_receive_7 : decode cX8_receive 7 = .ok (.iload_n 1, 1) := by decide +kernel
theorem dX8_receive_8 : decode cX8_receive 8 = .ok (.invokevirtual 76, 3) := by decide +kernel
theorem dX8_receive_11 : decode cX8_receive 11 = .ok (.ireturn, 1) := by decide +kernel
theorem dX8_sent_0 : decode cX8_sent 0 = .ok (.aload_n 0, 1) := by decide +kernel
theorem dX8_sent_1 : decode cX8_sent 1 = .ok (.getfield 10, 3) := by decide +kernel
theorem dX8_sent_4 : decode cX8_sent 4 = .ok (.getfield 72, 3) := by decide +kernel
theorem dX8_sent_7 : decode cX8_sent 7 = .ok (.iload_n 1, 1) := by decide +kernel
theorem dX8_sent_8 : decode cX8_sent 8 = .ok (.invokevirtual 82, 3) := by decide +kernel
theorem dX8_sent_11 : decode cX8_sent 11 = .ok (.ireturn, 1) := by decide +kernel
theorem dX8_look_0 : decode cX8_look 0 = .ok (.iload_n 1, 1) := by decide +kernel
theorem dX8_look_1 : decode cX8_look 1 = .ok (.invokestatic 85, 3) := by decide +kernel
theorem dX8_look_4 : decode cX8_look 4 = .ok (.ifCond .ne 13, 3) := by decide +kernel
theorem dX8_look_7 : decode cX8_look 7 = .ok (.new 32, 3) := by decide +kernel
theorem dX8_look_10 : decode cX8_look 10 = .ok (.dup, 1) := by decide +kernel
theorem dX8_look_11 : decode cX8_look 11 = .ok (.ldc 88, 2) := by decide +kernel
theorem dX8_look_13 : decode cX8_look 13 = .ok (.invokespecial 36, 3) := by decide +kernel
theorem dX8_look_16 : decode cX8_look 16 = .ok (.athrow, 1) := by decide +kernel
theorem dX8_look_17 : decode cX8_look 17 = .ok (.aload_n 0, 1) := by decide +kernel
theorem dX8_look_18 : decode cX8_look 18 = .ok (.getfield 10, 3) := by decide +kernel
theorem dX8_look_21 : decode cX8_look 21 = .ok (.iload_n 1, 1) := by decide +kernel
theorem dX8_look_22 : decode cX8_look 22 = .ok (.invokevirtual 90, 3) := by decide +kernel
theorem dX8_look_25 : decode cX8_look 25 = .ok (.ireturn, 1) := by decide +kernel
theorem dX8_register_0 : decode cX8_register 0 = .ok (.iload_n 1, 1) := by decide +kernel
theorem dX8_register_1 : decode cX8_register 1 = .ok (.tableswitch 99 0 5 #[39, 49, 59, 69, 79, 89], 39) := by decide +kernel
theorem dX8_register_40 : decode cX8_register 40 = .ok (.aload_n 0, 1) := by decide +kernel
theorem dX8_register_41 : decode cX8_register 41 = .ok (.getfield 21, 3) := by decide +kernel
theorem dX8_register_44 : decode cX8_register 44 = .ok (.getfield 93, 3) := by decide +kernel
theorem dX8_register_47 : decode cX8_register 47 = .ok (.goto 54, 3) := by decide +kernel
theorem dX8_register_50 : decode cX8_register 50 = .ok (.aload_n 0, 1) := by decide +kernel
theorem dX8_register_51 : decode cX8_register 51 = .ok (.getfield 21, 3) := by decide +kernel
theorem dX8_register_54 : decode cX8_register 54 = .ok (.getfield 96, 3) := by decide +kernel
theorem dX8_register_57 : decode cX8_register 57 = .ok (.goto 44, 3) := by decide +kernel
theorem dX8_register_60 : decode cX8_register 60 = .ok (.aload_n 0, 1) := by decide +kernel
theorem dX8_register_61 : decode cX8_register 61 = .ok (.getfield 21, 3) := by decide +kernel
theorem dX8_register_64 : decode cX8_register 64 = .ok (.getfield 99, 3) := by decide +kernel
theorem dX8_register_67 : decode cX8_register 67 = .ok (.goto 34, 3) := by decide +kernel
theorem dX8_register_70 : decode cX8_register 70 = .ok (.aload_n 0, 1) := by decide +kernel
theorem dX8_register_71 : decode cX8_register 71 = .ok (.getfield 21, 3) := by decide +kernel
theorem dX8_register_74 : decode cX8_register 74 = .ok (.getfield 102, 3) := by decide +kernel
theorem dX8_register_77 : decode cX8_register 77 = .ok (.goto 24, 3) := by decide +kernel
theorem dX8_register_80 : decode cX8_register 80 = .ok (.aload_n 0, 1) := by decide +kernel
theorem dX8_register_81 : decode cX8_register 81 = .ok (.getfield 21, 3) := by decide +kernel
theorem dX8_register_84 : decode cX8_register 84 = .ok (.getfield 105, 3) := by decide +kernel
theorem dX8_register_87 : decode cX8_register 87 = .ok (.goto 14, 3) := by decide +kernel
theorem dX8_register_90 : decode cX8_register 90 = .ok (.aload_n 0, 1) := by decide +kernel
theorem dX8_register_91 : decode cX8_register 91 = .ok (.getfield 21, 3) := by decide +kernel
theorem dX8_register_94 : decode cX8_register 94 = .ok (.getfield 61, 3) := by decide +kernel
theorem dX8_register_97 : decode cX8_register 97 = .ok (.goto 4, 3) := by decide +kernel
theorem dX8_register_100 : decode cX8_register 100 = .ok (.iconst (-1), 1) := by decide +kernel
theorem dX8_register_101 : decode cX8_register 101 = .ok (.ireturn, 1) := by decide +kernel
theorem dX8_set_0 : decode cX8_set 0 = .ok (.iload_n 1, 1) := by decide +kernel
theorem dX8_set_1 : decode cX8_set 1 = .ok (.tableswitch 131 0 5 #[39, 54, 69, 84, 99, 117], 39) := by decide +kernel
theorem dX8_set_40 : decode cX8_set 40 = .ok (.aload_n 0, 1) := by decide +kernel
theorem dX8_set_41 : decode cX8_set 41 = .ok (.getfield 21, 3) := by decide +kernel
theorem dX8_set_44 : decode cX8_set 44 = .ok (.iload_n 2, 1) := by decide +kernel
theorem dX8_set_45 : decode cX8_set 45 = .ok (.sipush 255, 3) := by decide +kernel
theorem dX8_set_48 : decode cX8_set 48 = .ok (.iand, 1) := by decide +kernel
theorem dX8_set_49 : decode cX8_set 49 = .ok (.putfield 93, 3) := by decide +kernel
theorem dX8_set_52 : decode cX8_set 52 = .ok (.goto 90, 3) := by decide +kernel
theorem dX8_set_55 : decode cX8_set 55 = .ok (.aload_n 0, 1) := by decide +kernel
theorem dX8_set_56 : decode cX8_set 56 = .ok (.getfield 21, 3) := by decide +kernel
theorem dX8_set_59 : decode cX8_set 59 = .ok (.iload_n 2, 1) := by decide +kernel
theorem dX8_set_60 : decode cX8_set 60 = .ok (.sipush 255, 3) := by decide +kernel
theorem dX8_set_63 : decode cX8_set 63 = .ok (.iand, 1) := by decide +kernel
theorem dX8_set_64 : decode cX8_set 64 = .ok (.putfield 96, 3) := by decide +kernel
theorem dX8_set_67 : decode cX8_set 67 = .ok (.goto 75, 3) := by decide +kernel
theorem dX8_set_70 : decode cX8_set 70 = .ok (.aload_n 0, 1) := by decide +kernel
theorem dX8_set_71 : decode cX8_set 71 = .ok (.getfield 21, 3) := by decide +kernel
theorem dX8_set_74 : decode cX8_set 74 = .ok (.iload_n 2, 1) := by decide +kernel
theorem dX8_set_75 : decode cX8_set 75 = .ok (.sipush 255, 3) := by decide +kernel
theorem dX8_set_78 : decode cX8_set 78 = .ok (.iand, 1) := by decide +kernel
theorem dX8_set_79 : decode cX8_set 79 = .ok (.putfield 99, 3) := by decide +kernel
theorem dX8_set_82 : decode cX8_set 82 = .ok (.goto 60, 3) := by decide +kernel
theorem dX8_set_85 : decode cX8_set 85 = .ok (.aload_n 0, 1) := by decide +kernel
theorem dX8_set_86 : decode cX8_set 86 = .ok (.getfield 21, 3) := by decide +kernel
theorem dX8_set_89 : decode cX8_set 89 = .ok (.iload_n 2, 1) := by decide +kernel
theorem dX8_set_90 : decode cX8_set 90 = .ok (.sipush 255, 3) := by decide +kernel
theorem dX8_set_93 : decode cX8_set 93 = .ok (.iand, 1) := by decide +kernel
theorem dX8_set_94 : decode cX8_set 94 = .ok (.putfield 102, 3) := by decide +kernel
theorem dX8_set_97 : decode cX8_set 97 = .ok (.goto 45, 3) := by decide +kernel
theorem dX8_set_100 : decode cX8_set 100 = .ok (.aload_n 0, 1) := by decide +kernel
theorem dX8_set_101 : decode cX8_set 101 = .ok (.getfield 21, 3) := by decide +kernel
theorem dX8_set_104 : decode cX8_set 104 = .ok (.iload_n 2, 1) := by decide +kernel
theorem dX8_set_105 : decode cX8_set 105 = .ok (.sipush 255, 3) := by decide +kernel
theorem dX8_set_108 : decode cX8_set 108 = .ok (.iand, 1) := by decide +kernel
theorem dX8_set_109 : decode cX8_set 109 = .ok (.bipush 48, 2) := by decide +kernel
theorem dX8_set_111 : decode cX8_set 111 = .ok (.ior, 1) := by decide +kernel
theorem dX8_set_112 : decode cX8_set 112 = .ok (.putfield 105, 3) := by decide +kernel
theorem dX8_set_115 : decode cX8_set 115 = .ok (.goto 27, 3) := by decide +kernel
theorem dX8_set_118 : decode cX8_set 118 = .ok (.aload_n 0, 1) := by decide +kernel
theorem dX8_set_119 : decode cX8_set 119 = .ok (.getfield 21, 3) := by decide +kernel
theorem dX8_set_122 : decode cX8_set 122 = .ok (.iload_n 2, 1) := by decide +kernel
theorem dX8_set_123 : decode cX8_set 123 = .ok (.ldc 108, 2) := by decide +kernel
theorem dX8_set_125 : decode cX8_set 125 = .ok (.iand, 1) := by decide +kernel
theorem dX8_set_126 : decode cX8_set 126 = .ok (.putfield 61, 3) := by decide +kernel
theorem dX8_set_129 : decode cX8_set 129 = .ok (.goto 13, 3) := by decide +kernel
theorem dX8_set_132 : decode cX8_set 132 = .ok (.new 32, 3) := by decide +kernel
theorem dX8_set_135 : decode cX8_set 135 = .ok (.dup, 1) := by decide +kernel
theorem dX8_set_136 : decode cX8_set 136 = .ok (.ldc 109, 2) := by decide +kernel
theorem dX8_set_138 : decode cX8_set 138 = .ok (.invokespecial 36, 3) := by decide +kernel
theorem dX8_set_141 : decode cX8_set 141 = .ok (.athrow, 1) := by decide +kernel
theorem dX8_set_142 : decode cX8_set 142 = .ok (.return_, 1) := by decide +kernel
theorem dX8_setBreak_0 : decode cX8_setBreak 0 = .ok (.iload_n 1, 1) := by decide +kernel
theorem dX8_setBreak_1 : decode cX8_setBreak 1 = .ok (.invokestatic 85, 3) := by decide +kernel
theorem dX8_setBreak_4 : decode cX8_setBreak 4 = .ok (.ifCond .eq 18, 3) := by decide +kernel
theorem dX8_setBreak_7 : decode cX8_setBreak 7 = .ok (.aload_n 0, 1) := by decide +kernel
theorem dX8_setBreak_8 : decode cX8_setBreak 8 = .ok (.getfield 28, 3) := by decide +kernel
theorem dX8_setBreak_11 : decode cX8_setBreak 11 = .ok (.iload_n 1, 1) := by decide +kernel
theorem dX8_setBreak_12 : decode cX8_setBreak 12 = .ok (.invokevirtual 111, 3) := by decide +kernel
theorem dX8_setBreak_15 : decode cX8_setBreak 15 = .ok (.ifCond .eq 7, 3) := by decide +kernel
theorem dX8_setBreak_18 : decode cX8_setBreak 18 = .ok (.iconst 1, 1) := by decide +kernel
theorem dX8_setBreak_19 : decode cX8_setBreak 19 = .ok (.goto 4, 3) := by decide +kernel
theorem dX8_setBreak_22 : decode cX8_setBreak 22 = .ok (.iconst 0, 1) := by decide +kernel
theorem dX8_setBreak_23 : decode cX8_setBreak 23 = .ok (.ireturn, 1) := by decide +kernel
theorem dX8_clearBreak_0 : decode cX8_clearBreak 0 = .ok (.aload_n 0, 1) := by decide +kernel
theorem dX8_clearBreak_1 : decode cX8_clearBreak 1 = .ok (.getfield 28, 3) := by decide +kernel
theorem dX8_clearBreak_4 : decode cX8_clearBreak 4 = .ok (.iload_n 1, 1) := by decide +kernel
theorem dX8_clearBreak_5 : decode cX8_clearBreak 5 = .ok (.invokevirtual 114, 3) := by decide +kernel
theorem dX8_clearBreak_8 : decode cX8_clearBreak 8 = .ok (.ireturn, 1) := by decide +kernel
theorem dX8_trace_0 : decode cX8_trace 0 = .ok (.aload_n 0, 1) := by decide +kernel
theorem dX8_trace_1 : decode cX8_trace 1 = .ok (.getfield 21, 3) := by decide +kernel
theorem dX8_trace_4 : decode cX8_trace 4 = .ok (.getfield 117, 3) := by decide +kernel
theorem dX8_trace_7 : decode cX8_trace 7 = .ok (.iload_n 1, 1) := by decide +kernel
theorem dX8_trace_8 : decode cX8_trace 8 = .ok (.invokevirtual 121, 3) := by decide +kernel
theorem dX8_trace_11 : decode cX8_trace 11 = .ok (.ireturn, 1) := by decide +kernel
theorem dX8_count_0 : decode cX8_count 0 = .ok (.iload_n 1, 1) := by decide +kernel
theorem dX8_count_1 : decode cX8_count 1 = .ok (.tableswitch 284 0 14 #[75, 85, 99, 113, 127, 138, 152, 166, 180, 194, 208, 226, 244, 262, 273], 75) := by decide +kernel
theorem dX8_count_76 : decode cX8_count 76 = .ok (.aload_n 0, 1) := by decide +kernel
theorem dX8_count_77 : decode cX8_count 77 = .ok (.getfield 21, 3) := by decide +kernel
theorem dX8_count_80 : decode cX8_count 80 = .ok (.getfield 126, 3) := by decide +kernel
theorem dX8_count_83 : decode cX8_count 83 = .ok (.goto 205, 3) := by decide +kernel
theorem dX8_count_86 : decode cX8_count 86 = .ok (.aload_n 0, 1) := by decide +kernel
theorem dX8_count_87 : decode cX8_count 87 = .ok (.getfield 21, 3) := by decide +kernel
theorem dX8_count_90 : decode cX8_count 90 = .ok (.getfield 117, 3) := by decide +kernel
theorem dX8_count_93 : decode cX8_count 93 = .ok (.getfield 130, 3) := by decide +kernel
theorem dX8_count_96 : decode cX8_count 96 = .ok (.i2l, 1) := by decide +kernel
theorem dX8_count_97 : decode cX8_count 97 = .ok (.goto 191, 3) := by decide +kernel
theorem dX8_count_100 : decode cX8_count 100 = .ok (.aload_n 0, 1) := by decide +kernel
theorem dX8_count_101 : decode cX8_count 101 = .ok (.getfield 10, 3) := by decide +kernel
theorem dX8_count_104 : decode cX8_count 104 = .ok (.getfield 72, 3) := by decide +kernel
theorem dX8_count_107 : decode cX8_count 107 = .ok (.getfield 133, 3) := by decide +kernel
theorem dX8_count_110 : decode cX8_count 110 = .ok (.i2l, 1) := by decide +kernel
theorem dX8_count_111 : decode cX8_count 111 = .ok (.goto 177, 3) := by decide +kernel
theorem dX8_count_114 : decode cX8_count 114 = .ok (.aload_n 0, 1) := by decide +kernel
theorem dX8_count_115 : decode cX8_count 115 = .ok (.getfield 10, 3) := by decide +kernel
theorem dX8_count_118 : decode cX8_count 118 = .ok (.getfield 72, 3) := by decide +kernel
theorem dX8_count_121 : decode cX8_count 121 = .ok (.getfield 136, 3) := by decide +kernel
theorem dX8_count_124 : decode cX8_count 124 = .ok (.i2l, 1) := by decide +kernel
theorem dX8_count_125 : decode cX8_count 125 = .ok (.goto 163, 3) := by decide +kernel
theorem dX8_count_128 : decode cX8_count 128 = .ok (.aload_n 0, 1) := by decide +kernel
theorem dX8_count_129 : decode cX8_count 129 = .ok (.getfield 10, 3) := by decide +kernel
theorem dX8_count_132 : decode cX8_count 132 = .ok (.getfield 139, 3) := by decide +kernel
theorem dX8_count_135 : decode cX8_count 135 = .ok (.i2l, 1) := by decide +kernel
theorem dX8_count_136 : decode cX8_count 136 = .ok (.goto 152, 3) := by decide +kernel
theorem dX8_count_139 : decode cX8_count 139 = .ok (.aload_n 0, 1) := by decide +kernel
theorem dX8_count_140 : decode cX8_count 140 = .ok (.getfield 10, 3) := by decide +kernel
theorem dX8_count_143 : decode cX8_count 143 = .ok (.getfield 142, 3) := by decide +kernel
theorem dX8_count_146 : decode cX8_count 146 = .ok (.getfield 146, 3) := by decide +kernel
theorem dX8_count_149 : decode cX8_count 149 = .ok (.i2l, 1) := by decide +kernel
theorem dX8_count_150 : decode cX8_count 150 = .ok (.goto 138, 3) := by decide +kernel
theorem dX8_count_153 : decode cX8_count 153 = .ok (.aload_n 0, 1) := by decide +kernel
theorem dX8_count_154 : decode cX8_count 154 = .ok (.getfield 10, 3) := by decide +kernel
theorem dX8_count_157 : decode cX8_count 157 = .ok (.getfield 142, 3) := by decide +kernel
theorem dX8_count_160 : decode cX8_count 160 = .ok (.getfield 151, 3) := by decide +kernel
theorem dX8_count_163 : decode cX8_count 163 = .ok (.i2l, 1) := by decide +kernel
theorem dX8_count_164 : decode cX8_count 164 = .ok (.goto 124, 3) := by decide +kernel
theorem dX8_count_167 : decode cX8_count 167 = .ok (.aload_n 0, 1) := by decide +kernel
theorem dX8_count_168 : decode cX8_count 168 = .ok (.getfield 10, 3) := by decide +kernel
theorem dX8_count_171 : decode cX8_count 171 = .ok (.getfield 142, 3) := by decide +kernel
theorem dX8_count_174 : decode cX8_count 174 = .ok (.getfield 154, 3) := by decide +kernel
theorem dX8_count_177 : decode cX8_count 177 = .ok (.i2l, 1) := by decide +kernel
theorem dX8_count_178 : decode cX8_count 178 = .ok (.goto 110, 3) := by decide +kernel
theorem dX8_count_181 : decode cX8_count 181 = .ok (.aload_n 0, 1) := by decide +kernel
theorem dX8_count_182 : decode cX8_count 182 = .ok (.getfield 10, 3) := by decide +kernel
theorem dX8_count_185 : decode cX8_count 185 = .ok (.getfield 142, 3) := by decide +kernel
theorem dX8_count_188 : decode cX8_count 188 = .ok (.getfield 157, 3) := by decide +kernel
theorem dX8_count_191 : decode cX8_count 191 = .ok (.i2l, 1) := by decide +kernel
theorem dX8_count_192 : decode cX8_count 192 = .ok (.goto 96, 3) := by decide +kernel
theorem dX8_count_195 : decode cX8_count 195 = .ok (.aload_n 0, 1) := by decide +kernel
theorem dX8_count_196 : decode cX8_count 196 = .ok (.getfield 10, 3) := by decide +kernel
theorem dX8_count_199 : decode cX8_count 199 = .ok (.getfield 142, 3) := by decide +kernel
theorem dX8_count_202 : decode cX8_count 202 = .ok (.getfield 160, 3) := by decide +kernel
theorem dX8_count_205 : decode cX8_count 205 = .ok (.i2l, 1) := by decide +kernel
theorem dX8_count_206 : decode cX8_count 206 = .ok (.goto 82, 3) := by decide +kernel
theorem dX8_count_209 : decode cX8_count 209 = .ok (.aload_n 0, 1) := by decide +kernel
theorem dX8_count_210 : decode cX8_count 210 = .ok (.getfield 21, 3) := by decide +kernel
theorem dX8_count_213 : decode cX8_count 213 = .ok (.getfield 163, 3) := by decide +kernel
theorem dX8_count_216 : decode cX8_count 216 = .ok (.ifCond .eq 7, 3) := by decide +kernel
theorem dX8_count_219 : decode cX8_count 219 = .ok (.lconst 1, 1) := by decide +kernel
theorem dX8_count_220 : decode cX8_count 220 = .ok (.goto 68, 3) := by decide +kernel
theorem dX8_count_223 : decode cX8_count 223 = .ok (.lconst 0, 1) := by decide +kernel
theorem dX8_count_224 : decode cX8_count 224 = .ok (.goto 64, 3) := by decide +kernel
theorem dX8_count_227 : decode cX8_count 227 = .ok (.aload_n 0, 1) := by decide +kernel
theorem dX8_count_228 : decode cX8_count 228 = .ok (.getfield 21, 3) := by decide +kernel
theorem dX8_count_231 : decode cX8_count 231 = .ok (.getfield 57, 3) := by decide +kernel
theorem dX8_count_234 : decode cX8_count 234 = .ok (.ifCond .eq 7, 3) := by decide +kernel
theorem dX8_count_237 : decode cX8_count 237 = .ok (.lconst 1, 1) := by decide +kernel
theorem dX8_count_238 : decode cX8_count 238 = .ok (.goto 50, 3) := by decide +kernel
theorem dX8_count_241 : decode cX8_count 241 = .ok (.lconst 0, 1) := by decide +kernel
theorem dX8_count_242 : decode cX8_count 242 = .ok (.goto 46, 3) := by decide +kernel
theorem dX8_count_245 : decode cX8_count 245 = .ok (.aload_n 0, 1) := by decide +kernel
theorem dX8_count_246 : decode cX8_count 246 = .ok (.getfield 21, 3) := by decide +kernel
theorem dX8_count_249 : decode cX8_count 249 = .ok (.getfield 69, 3) := by decide +kernel
theorem dX8_count_252 : decode cX8_count 252 = .ok (.ifCond .eq 7, 3) := by decide +kernel
theorem dX8_count_255 : decode cX8_count 255 = .ok (.lconst 1, 1) := by decide +kernel
theorem dX8_count_256 : decode cX8_count 256 = .ok (.goto 32, 3) := by decide +kernel
theorem dX8_count_259 : decode cX8_count 259 = .ok (.lconst 0, 1) := by decide +kernel
theorem dX8_count_260 : decode cX8_count 260 = .ok (.goto 28, 3) := by decide +kernel
theorem dX8_count_263 : decode cX8_count 263 = .ok (.aload_n 0, 1) := by decide +kernel
theorem dX8_count_264 : decode cX8_count 264 = .ok (.getfield 28, 3) := by decide +kernel
theorem dX8_count_267 : decode cX8_count 267 = .ok (.getfield 166, 3) := by decide +kernel
theorem dX8_count_270 : decode cX8_count 270 = .ok (.i2l, 1) := by decide +kernel
theorem dX8_count_271 : decode cX8_count 271 = .ok (.goto 17, 3) := by decide +kernel
theorem dX8_count_274 : decode cX8_count 274 = .ok (.aload_n 0, 1) := by decide +kernel
theorem dX8_count_275 : decode cX8_count 275 = .ok (.getfield 21, 3) := by decide +kernel
theorem dX8_count_278 : decode cX8_count 278 = .ok (.getfield 169, 3) := by decide +kernel
theorem dX8_count_281 : decode cX8_count 281 = .ok (.i2l, 1) := by decide +kernel
theorem dX8_count_282 : decode cX8_count 282 = .ok (.goto 6, 3) := by decide +kernel
theorem dX8_count_285 : decode cX8_count 285 = .ok (.ldc2_w 172, 3) := by decide +kernel
theorem dX8_count_288 : decode cX8_count 288 = .ok (.lreturn, 1) := by decide +kernel
theorem dX8_isAddress_0 : decode cX8_isAddress 0 = .ok (.iload_n 0, 1) := by decide +kernel
theorem dX8_isAddress_1 : decode cX8_isAddress 1 = .ok (.ifCond .lt 13, 3) := by decide +kernel
theorem dX8_isAddress_4 : decode cX8_isAddress 4 = .ok (.iload_n 0, 1) := by decide +kernel
theorem dX8_isAddress_5 : decode cX8_isAddress 5 = .ok (.ldc 39, 2) := by decide +kernel
theorem dX8_isAddress_7 : decode cX8_isAddress 7 = .ok (.if_icmp .ge 7, 3) := by decide +kernel
theorem dX8_isAddress_10 : decode cX8_isAddress 10 = .ok (.iconst 1, 1) := by decide +kernel
theorem dX8_isAddress_11 : decode cX8_isAddress 11 = .ok (.goto 4, 3) := by decide +kernel
theorem dX8_isAddress_14 : decode cX8_isAddress 14 = .ok (.iconst 0, 1) := by decide +kernel
theorem dX8_isAddress_15 : decode cX8_isAddress 15 = .ok (.ireturn, 1) := by decide +kernel
theorem dX9_init_0 : decode cX9_init 0 = .ok (.aload_n 0, 1) := by decide +kernel
theorem dX9_init_1 : decode cX9_init 1 = .ok (.invokespecial 1, 3) := by decide +kernel
theorem dX9_init_4 : decode cX9_init 4 = .ok (.aload_n 0, 1) := by decide +kernel
theorem dX9_init_5 : decode cX9_init 5 = .ok (.ldc 7, 2) := by decide +kernel
theorem dX9_init_7 : decode cX9_init 7 = .ok (.newarray .int, 2) := by decide +kernel
theorem dX9_init_9 : decode cX9_init 9 = .ok (.putfield 8, 3) := by decide +kernel
theorem dX9_init_12 : decode cX9_init 12 = .ok (.aload_n 0, 1) := by decide +kernel
theorem dX9_init_13 : decode cX9_init 13 = .ok (.iconst 4, 1) := by decide +kernel
theorem dX9_init_14 : decode cX9_init 14 = .ok (.newarray .int, 2) := by decide +kernel
theorem dX9_init_16 : decode cX9_init 16 = .ok (.putfield 14, 3) := by decide +kernel
theorem dX9_init_19 : decode cX9_init 19 = .ok (.aload_n 0, 1) := by decide +kernel
theorem dX9_init_20 : decode cX9_init 20 = .ok (.bipush 64, 2) := by decide +kernel
theorem dX9_init_22 : decode cX9_init 22 = .ok (.newarray .int, 2) := by decide +kernel
theorem dX9_init_24 : decode cX9_init 24 = .ok (.putfield 17, 3) := by decide +kernel
theorem dX9_init_27 : decode cX9_init 27 = .ok (.aload_n 0, 1) := by decide +kernel
theorem dX9_init_28 : decode cX9_init 28 = .ok (.sipush 256, 3) := by decide +kernel
theorem dX9_init_31 : decode cX9_init 31 = .ok (.newarray .int, 2) := by decide +kernel
theorem dX9_init_33 : decode cX9_init 33 = .ok (.putfield 20, 3) := by decide +kernel
theorem dX9_init_36 : decode cX9_init 36 = .ok (.aload_n 0, 1) := by decide +kernel
theorem dX9_init_37 : decode cX9_init 37 = .ok (.bipush 16, 2) := by decide +kernel
theorem dX9_init_39 : decode cX9_init 39 = .ok (.newarray .int, 2) := by decide +kernel
theorem dX9_init_41 : decode cX9_init 41 = .ok (.putfield 23, 3) := by decide +kernel
theorem dX9_init_44 : decode cX9_init 44 = .ok (.aload_n 0, 1) := by decide +kernel
theorem dX9_init_45 : decode cX9_init 45 = .ok (.bipush 32, 2) := by decide +kernel
theorem dX9_init_47 : decode cX9_init 47 = .ok (.newarray .int, 2) := by decide +kernel
theorem dX9_init_49 : decode cX9_init 49 = .ok (.putfield 26, 3) := by decide +kernel
theorem dX9_init_52 : decode cX9_init 52 = .ok (.aload_n 0, 1) := by decide +kernel
theorem dX9_init_53 : decode cX9_init 53 = .ok (.invokevirtual 29, 3) := by decide +kernel
theorem dX9_init_56 : decode cX9_init 56 = .ok (.return_, 1) := by decide +kernel
theorem dX9_thrown_0 : decode cX9_thrown 0 = .ok (.aload_n 0, 1) := by decide +kernel
theorem dX9_thrown_1 : decode cX9_thrown 1 = .ok (.getfield 32, 3) := by decide +kernel
theorem dX9_thrown_4 : decode cX9_thrown 4 = .ok (.ireturn, 1) := by decide +kernel
theorem dX9_fails_0 : decode cX9_fails 0 = .ok (.aload_n 0, 1) := by decide +kernel
theorem dX9_fails_1 : decode cX9_fails 1 = .ok (.iload_n 1, 1) := by decide +kernel
theorem dX9_fails_2 : decode cX9_fails 2 = .ok (.ifCond .eq 7, 3) := by decide +kernel
theorem dX9_fails_5 : decode cX9_fails 5 = .ok (.iconst 1, 1) := by decide +kernel
theorem dX9_fails_6 : decode cX9_fails 6 = .ok (.goto 4, 3) := by decide +kernel
theorem dX9_fails_9 : decode cX9_fails 9 = .ok (.iconst 0, 1) := by decide +kernel
theorem dX9_fails_10 : decode cX9_fails 10 = .ok (.putfield 32, 3) := by decide +kernel
theorem dX9_fails_13 : decode cX9_fails 13 = .ok (.iload_n 1, 1) := by decide +kernel
theorem dX9_fails_14 : decode cX9_fails 14 = .ok (.ireturn, 1) := by decide +kernel
theorem dX9_clearDevices_0 : decode cX9_clearDevices 0 = .ok (.aload_n 0, 1) := by decide +kernel
theorem dX9_clearDevices_1 : decode cX9_clearDevices 1 = .ok (.ldc 36, 2) := by decide +kernel
theorem dX9_clearDevices_3 : decode cX9_clearDevices 3 = .ok (.putfield 37, 3) := by decide +kernel
theorem dX9_clearDevices_6 : decode cX9_clearDevices 6 = .ok (.aload_n 0, 1) := by decide +kernel
theorem dX9_clearDevices_7 : decode cX9_clearDevices 7 = .ok (.ldc 36, 2) := by decide +kernel
theorem dX9_clearDevices_9 : decode cX9_clearDevices 9 = .ok (.putfield 40, 3) := by decide +kernel
theorem dX9_clearDevices_12 : decode cX9_clearDevices 12 = .ok (.aload_n 0, 1) := by decide +kernel
theorem dX9_clearDevices_13 : decode cX9_clearDevices 13 = .ok (.aload_n 0, 1) := by decide +kernel
theorem dX9_clearDevices_14 : decode cX9_clearDevices 14 = .ok (.aload_n 0, 1) := by decide +kernel
theorem dX9_clearDevices_15 : decode cX9_clearDevices 15 = .ok (.aload_n 0, 1) := by decide +kernel
theorem dX9_clearDevices_16 : decode cX9_clearDevices 16 = .ok (.aload_n 0, 1) := by decide +kernel
theorem dX9_clearDevices_17 : decode cX9_clearDevices 17 = .ok (.aload_n 0, 1) := by decide +kernel
theorem dX9_clearDevices_18 : decode cX9_clearDevices 18 = .ok (.aload_n 0, 1) := by decide +kernel
theorem dX9_clearDevices_19 : decode cX9_clearDevices 19 = .ok (.aload_n 0, 1) := by decide +kernel
theorem dX9_clearDevices_20 : decode cX9_clearDevices 20 = .ok (.iconst 0, 1) := by decide +kernel
theorem dX9_clearDevices_21 : decode cX9_clearDevices 21 = .ok (.dup_x1, 1) := by decide +kernel
theorem dX9_clearDevices_22 : decode cX9_clearDevices 22 = .ok (.putfield 43, 3) := by decide +kernel
theorem dX9_clearDevices_25 : decode cX9_clearDevices 25 = .ok (.dup_x1, 1) := by decide +kernel
theorem dX9_clearDevices_26 : decode cX9_clearDevices 26 = .ok (.putfield 46, 3) := by decide +kernel
theorem dX9_clearDevices_29 : decode cX9_clearDevices 29 = .ok (.dup_x1, 1) := by decide +kernel
theorem dX9_clearDevices_30 : decode cX9_clearDevices 30 = .ok (.putfield 49, 3) := by decide +kernel
theorem dX9_clearDevices_33 : decode cX9_clearDevices 33 = .ok (.dup_x1, 1) := by decide +kernel
theorem dX9_clearDevices_34 : decode cX9_clearDevices 34 = .ok (.putfield 52, 3) := by decide +kernel
theorem dX9_clearDevices_37 : decode cX9_clearDevices 37 = .ok (.dup_x1, 1) := by decide +kernel
theorem dX9_clearDevices_38 : decode cX9_clearDevices 38 = .ok (.putfield 55, 3) := by decide +kernel
theorem dX9_clearDevices_41 : decode cX9_clearDevices 41 = .ok (.dup_x1, 1) := by decide +kernel
theorem dX9_clearDevices_42 : decode cX9_clearDevices 42 = .ok (.putfield 58, 3) := by decide +kernel
theorem dX9_clearDevices_45 : decode cX9_clearDevices 45 = .ok (.dup_x1, 1) := by decide +kernel
theorem dX9_clearDevices_46 : decode cX9_clearDevices 46 = .ok (.putfield 61, 3) := by decide +kernel
theorem dX9_clearDevices_49 : decode cX9_clearDevices 49 = .ok (.putfield 64, 3) := by decide +kernel
theorem dX9_clearDevices_52 : decode cX9_clearDevices 52 = .ok (.aload_n 0, 1) := by decide +kernel
theorem dX9_clearDevices_53 : decode cX9_clearDevices 53 = .ok (.iconst 0, 1) := by decide +kernel
theorem dX9_clearDevices_54 : decode cX9_clearDevices 54 = .ok (.putfield 67, 3) := by decide +kernel
theorem dX9_clearDevices_57 : decode cX9_clearDevices 57 = .ok (.aload_n 0, 1) := by decide +kernel
theorem dX9_clearDevices_58 : decode cX9_clearDevices 58 = .ok (.iconst 0, 1) := by decide +kernel
theorem dX9_clearDevices_59 : decode cX9_clearDevices 59 = .ok (.putfield 71, 3) := by decide +kernel
theorem dX9_clearDevices_62 : decode cX9_clearDevices 62 = .ok (.return_, 1) := by decide +kernel
theorem dX9_cell_0 : decode cX9_cell 0 = .ok (.iload_n 1, 1) := by decide +kernel
theorem dX9_cell_1 : decode cX9_cell 1 = .ok (.ldc 74, 2) := by decide +kernel
theorem dX9_cell_3 : decode cX9_cell 3 = .ok (.if_icmp .ge 7, 3) := by decide +kernel
theorem dX9_cell_6 : decode cX9_cell 6 = .ok (.iload_n 1, 1) := by decide +kernel
theorem dX9_cell_7 : decode cX9_cell 7 = .ok (.goto 45, 3) := by decide +kernel
theorem dX9_cell_10 : decode cX9_cell 10 = .ok (.iload_n 1, 1) := by decide +kernel
theorem dX9_cell_11 : decode cX9_cell 11 = .ok (.ldc 75, 2) := by decide +kernel
theorem dX9_cell_13 : decode cX9_cell 13 = .ok (.if_icmp .ge 22, 3) := by decide +kernel
theorem dX9_cell_16 : decode cX9_cell 16 = .ok (.ldc 74, 2) := by decide +kernel
theorem dX9_cell_18 : decode cX9_cell 18 = .ok (.sipush 8192, 3) := by decide +kernel
theorem dX9_cell_21 : decode cX9_cell 21 = .ok (.aload_n 0, 1) := by decide +kernel
theorem dX9_cell_22 : decode cX9_cell 22 = .ok (.getfield 43, 3) := by decide +kernel
theorem dX9_cell_25 : decode cX9_cell 25 = .ok (.imul, 1) := by decide +kernel
theorem dX9_cell_26 : decode cX9_cell 26 = .ok (.iadd, 1) := by decide +kernel
theorem dX9_cell_27 : decode cX9_cell 27 = .ok (.iload_n 1, 1) := by decide +kernel
theorem dX9_cell_28 : decode cX9_cell 28 = .ok (.iadd, 1) := by decide +kernel
theorem dX9_cell_29 : decode cX9_cell 29 = .ok (.ldc 74, 2) := by decide +kernel
theorem dX9_cell_31 : decode cX9_cell 31 = .ok (.isub, 1) := by decide +kernel
theorem dX9_cell_32 : decode cX9_cell 32 = .ok (.goto 20, 3) := by decide +kernel
theorem dX9_cell_35 : decode cX9_cell 35 = .ok (.iload_n 1, 1) := by decide +kernel
theorem dX9_cell_36 : decode cX9_cell 36 = .ok (.ldc 76, 2) := by decide +kernel
theorem dX9_cell_38 : decode cX9_cell 38 = .ok (.if_icmp .ge 7, 3) := by decide +kernel
theorem dX9_cell_41 : decode cX9_cell 41 = .ok (.iconst (-1), 1) := by decide +kernel
theorem dX9_cell_42 : decode cX9_cell 42 = .ok (.goto 10, 3) := by decide +kernel
theorem dX9_cell_45 : decode cX9_cell 45 = .ok (.ldc 77, 2) := by decide +kernel
theorem dX9_cell_47 : decode cX9_cell 47 = .ok (.iload_n 1, 1) := by decide +kernel
theorem dX9_cell_48 : decode cX9_cell 48 = .ok (.iadd, 1) := by decide +kernel
theorem dX9_cell_49 : decode cX9_cell 49 = .ok (.ldc 76, 2) := by decide +kernel
theorem dX9_cell_51 : decode cX9_cell 51 = .ok (.isub, 1) := by decide +kernel
theorem dX9_cell_52 : decode cX9_cell 52 = .ok (.ireturn, 1) := by decide +kernel
theorem dX9_asks_0 : decode cX9_asks 0 = .ok (.aload_n 0, 1) := by decide +kernel
theorem dX9_asks_1 : decode cX9_asks 1 = .ok (.getfield 46, 3) := by decide +kernel
theorem dX9_asks_4 : decode cX9_asks 4 = .ok (.ifCond .le 17, 3) := by decide +kernel
theorem dX9_asks_7 : decode cX9_asks 7 = .ok (.aload_n 0, 1) := by decide +kernel
theorem dX9_asks_8 : decode cX9_asks 8 = .ok (.getfield 49, 3) := by decide +kernel
theorem dX9_asks_11 : decode cX9_asks 11 = .ok (.iconst 3, 1) := by decide +kernel
theorem dX9_asks_12 : decode cX9_asks 12 = .ok (.iand, 1) := by decide +kernel
theorem dX9_asks_13 : decode cX9_asks 13 = .ok (.iconst 1, 1) := by decide +kernel
theorem dX9_asks_14 : decode cX9_asks 14 = .ok (.if_icmp .ne 7, 3) := by decide +kernel
theorem dX9_asks_17 : decode cX9_asks 17 = .ok (.iconst 1, 1) := by decide +kernel
theorem dX9_asks_18 : decode cX9_asks 18 = .ok (.goto 4, 3) := by decide +kernel
theorem dX9_asks_21 : decode cX9_asks 21 = .ok (.iconst 0, 1) := by decide +kernel
theorem dX9_asks_22 : decode cX9_asks 22 = .ok (.ireturn, 1) := by decide +kernel
theorem dX9_flags_0 : decode cX9_flags 0 = .ok (.aload_n 0, 1) := by decide +kernel
theorem dX9_flags_1 : decode cX9_flags 1 = .ok (.getfield 55, 3) := by decide +kernel
theorem dX9_flags_4 : decode cX9_flags 4 = .ok (.aload_n 0, 1) := by decide +kernel
theorem dX9_flags_5 : decode cX9_flags 5 = .ok (.getfield 52, 3) := by decide +kernel
theorem dX9_flags_8 : decode cX9_flags 8 = .ok (.iand, 1) := by decide +kernel
theorem dX9_flags_9 : decode cX9_flags 9 = .ok (.ifCond .ne 10, 3) := by decide +kernel
theorem dX9_flags_12 : decode cX9_flags 12 = .ok (.aload_n 0, 1) := by decide +kernel
theorem dX9_flags_13 : decode cX9_flags 13 = .ok (.getfield 55, 3) := by decide +kernel
theorem dX9_flags_16 : decode cX9_flags 16 = .ok (.goto 11, 3) := by decide +kernel
theorem dX9_flags_19 : decode cX9_flags 19 = .ok (.aload_n 0, 1) := by decide +kernel
theorem dX9_flags_20 : decode cX9_flags 20 = .ok (.getfield 55, 3) := by decide +kernel
theorem dX9_flags_23 : decode cX9_flags 23 = .ok (.sipush 128, 3) := by decide +kernel
theorem dX9_flags_26 : decode cX9_flags 26 = .ok (.ior, 1) := by decide +kernel
theorem dX9_flags_27 : decode cX9_flags 27 = .ok (.ireturn, 1) := by decide +kernel
theorem dX9_see_0 : decode cX9_see 0 = .ok (.aload_n 0, 1) := by decide +kernel
theorem dX9_see_1 : decode cX9_see 1 = .ok (.iload_n 1, 1) := by decide +kernel
theorem dX9_see_2 : decode cX9_see 2 = .ok (.invokevirtual 78, 3) := by decide +kernel
theorem dX9_see_5 : decode cX9_see 5 = .ok (.ifCond .lt 14, 3) := by decide +kernel
theorem dX9_see_8 : decode cX9_see 8 = .ok (.aload_n 0, 1) := by decide +kernel
theorem dX9_see_9 : decode cX9_see 9 = .ok (.getfield 8, 3) := by decide +kernel
theorem dX9_see_12 : decode cX9_see 12 = .ok (.aload_n 0, 1) := by decide +kernel
theorem dX9_see_13 : decode cX9_see 13 = .ok (.iload_n 1, 1) := by decide +kernel
theorem dX9_see_14 : decode cX9_see 14 = .ok (.invokevirtual 78, 3) := by decide +kernel
theorem dX9_see_17 : decode cX9_see 17 = .ok (.iaload, 1) := by decide +kernel
theorem dX9_see_18 : decode cX9_see 18 = .ok (.ireturn, 1) := by decide +kernel
theorem dX9_see_19 : decode cX9_see 19 = .ok (.iload_n 1, 1) := by decide +kernel
theorem dX9_see_20 : decode cX9_see 20 = .ok (.ldc 75, 2) := by decide +kernel
theorem dX9_see_22 : decode cX9_see 22 = .ok (.isub, 1) := by decide +kernel
theorem dX9_see_23 : decode cX9_see 23 = .ok (.tableswitch 259 4 32 #[129, 138, 146, 155, 163, 172, 259, 180, 259, 185, 190, 259, 199, 217, 249, 259, 259, 259, 259, 259, 259, 259, 259, 259, 259, 259, 259, 259, 254], 129) := by decide +kernel
theorem dX9_see_152 : decode cX9_see 152 = .ok (.aload_n 0, 1) := by decide +kernel
theorem dX9_see_153 : decode cX9_see 153 = .ok (.getfield 37, 3) := by decide +kernel
theorem dX9_see_156 : decode cX9_see 156 = .ok (.sipush 255, 3) := by decide +kernel
theorem dX9_see_159 : decode cX9_see 159 = .ok (.iand, 1) := by decide +kernel
theorem dX9_see_160 : decode cX9_see 160 = .ok (.ireturn, 1) := by decide +kernel
theorem dX9_see_161 : decode cX9_see 161 = .ok (.aload_n 0, 1) := by decide +kernel
theorem dX9_see_162 : decode cX9_see 162 = .ok (.getfield 37, 3) := by decide +kernel
theorem dX9_see_165 : decode cX9_see 165 = .ok (.bipush 8, 2) := by decide +kernel
theorem dX9_see_167 : decode cX9_see 167 = .ok (.ishr, 1) := by decide +kernel
theorem dX9_see_168 : decode cX9_see 168 = .ok (.ireturn, 1) := by decide +kernel
theorem dX9_see_169 : decode cX9_see 169 = .ok (.aload_n 0, 1) := by decide +kernel
theorem dX9_see_170 : decode cX9_see 170 = .ok (.getfield 64, 3) := by decide +kernel
theorem dX9_see_173 : decode cX9_see 173 = .ok (.sipush 255, 3) := by decide +kernel
theorem dX9_see_176 : decode cX9_see 176 = .ok (.iand, 1) := by decide +kernel
theorem dX9_see_177 : decode cX9_see 177 = .ok (.ireturn, 1) := by decide +kernel
theorem dX9_see_178 : decode cX9_see 178 = .ok (.aload_n 0, 1) := by decide +kernel
theorem dX9_see_179 : decode cX9_see 179 = .ok (.getfield 64, 3) := by decide +kernel
theorem dX9_see_182 : decode cX9_see 182 = .ok (.bipush 8, 2) := by decide +kernel
theorem dX9_see_184 : decode cX9_see 184 = .ok (.ishr, 1) := by decide +kernel
theorem dX9_see_185 : decode cX9_see 185 = .ok (.ireturn, 1) := by decide +kernel
theorem dX9_see_186 : decode cX9_see 186 = .ok (.aload_n 0, 1) := by decide +kernel
theorem dX9_see_187 : decode cX9_see 187 = .ok (.getfield 40, 3) := by decide +kernel
theorem dX9_see_190 : decode cX9_see 190 = .ok (.sipush 255, 3) := by decide +kernel
theorem dX9_see_193 : decode cX9_see 193 = .ok (.iand, 1) := by decide +kernel
theorem dX9_see_194 : decode cX9_see 194 = .ok (.ireturn, 1) := by decide +kernel
theorem dX9_see_195 : decode cX9_see 195 = .ok (.aload_n 0, 1) := by decide +kernel
theorem dX9_see_196 : decode cX9_see 196 = .ok (.getfield 40, 3) := by decide +kernel
theorem dX9_see_199 : decode cX9_see 199 = .ok (.bipush 8, 2) := by decide +kernel
theorem dX9_see_201 : decode cX9_see 201 = .ok (.ishr, 1) := by decide +kernel
theorem dX9_see_202 : decode cX9_see 202 = .ok (.ireturn, 1) := by decide +kernel
theorem dX9_see_203 : decode cX9_see 203 = .ok (.aload_n 0, 1) := by decide +kernel
theorem dX9_see_204 : decode cX9_see 204 = .ok (.getfield 58, 3) := by decide +kernel
theorem dX9_see_207 : decode cX9_see 207 = .ok (.ireturn, 1) := by decide +kernel
theorem dX9_see_208 : decode cX9_see 208 = .ok (.aload_n 0, 1) := by decide +kernel
theorem dX9_see_209 : decode cX9_see 209 = .ok (.invokevirtual 82, 3) := by decide +kernel
theorem dX9_see_212 : decode cX9_see 212 = .ok (.ireturn, 1) := by decide +kernel
theorem dX9_see_213 : decode cX9_see 213 = .ok (.aload_n 0, 1) := by decide +kernel
theorem dX9_see_214 : decode cX9_see 214 = .ok (.getfield 52, 3) := by decide +kernel
theorem dX9_see_217 : decode cX9_see 217 = .ok (.sipush 128, 3) := by decide +kernel
theorem dX9_see_220 : decode cX9_see 220 = .ok (.ior, 1) := by decide +kernel
theorem dX9_see_221 : decode cX9_see 221 = .ok (.ireturn, 1) := by decide +kernel
theorem dX9_see_222 : decode cX9_see 222 = .ok (.aload_n 0, 1) := by decide +kernel
theorem dX9_see_223 : decode cX9_see 223 = .ok (.getfield 46, 3) := by decide +kernel
theorem dX9_see_226 : decode cX9_see 226 = .ok (.ifCond .le 12, 3) := by decide +kernel
theorem dX9_see_229 : decode cX9_see 229 = .ok (.aload_n 0, 1) := by decide +kernel
theorem dX9_see_230 : decode cX9_see 230 = .ok (.getfield 17, 3) := by decide +kernel
theorem dX9_see_233 : decode cX9_see 233 = .ok (.iconst 0, 1) := by decide +kernel
theorem dX9_see_234 : decode cX9_see 234 = .ok (.iaload, 1) := by decide +kernel
theorem dX9_see_235 : decode cX9_see 235 = .ok (.goto 4, 3) := by decide +kernel
theorem dX9_see_238 : decode cX9_see 238 = .ok (.iconst 0, 1) := by decide +kernel
theorem dX9_see_239 : decode cX9_see 239 = .ok (.ireturn, 1) := by decide +kernel
theorem dX9_see_240 : decode cX9_see 240 = .ok (.bipush 16, 2) := by decide +kernel
theorem dX9_see_242 : decode cX9_see 242 = .ok (.aload_n 0, 1) := by decide +kernel
theorem dX9_see_243 : decode cX9_see 243 = .ok (.getfield 46, 3) := by decide +kernel
theorem dX9_see_246 : decode cX9_see 246 = .ok (.ifCond .le 8, 3) := by decide +kernel
theorem dX9_see_249 : decode cX9_see 249 = .ok (.bipush 8, 2) := by decide +kernel
theorem dX9_see_251 : decode cX9_see 251 = .ok (.goto 4, 3) := by decide +kernel
theorem dX9_see_254 : decode cX9_see 254 = .ok (.iconst 0, 1) := by decide +kernel
theorem dX9_see_255 : decode cX9_see 255 = .ok (.iadd, 1) := by decide +kernel
theorem dX9_see_256 : decode cX9_see 256 = .ok (.aload_n 0, 1) := by decide +kernel
theorem dX9_see_257 : decode cX9_see 257 = .ok (.invokevirtual 86, 3) := by decide +kernel
theorem dX9_see_260 : decode cX9_see 260 = .ok (.ifCond .eq 9, 3) := by decide +kernel
theorem dX9_see_263 : decode cX9_see 263 = .ok (.sipush 128, 3) := by decide +kernel
theorem dX9_see_266 : decode cX9_see 266 = .ok (.goto 4, 3) := by decide +kernel
theorem dX9_see_269 : decode cX9_see 269 = .ok (.iconst 0, 1) := by decide +kernel
theorem dX9_see_270 : decode cX9_see 270 = .ok (.iadd, 1) := by decide +kernel
theorem dX9_see_271 : decode cX9_see 271 = .ok (.ireturn, 1) := by decide +kernel
theorem dX9_see_272 : decode cX9_see 272 = .ok (.aload_n 0, 1) := by decide +kernel
theorem dX9_see_273 : decode cX9_see 273 = .ok (.getfield 49, 3) := by decide +kernel
theorem dX9_see_276 : decode cX9_see 276 = .ok (.ireturn, 1) := by decide +kernel
theorem dX9_see_277 : decode cX9_see 277 = .ok (.aload_n 0, 1) := by decide +kernel
theorem dX9_see_278 : decode cX9_see 278 = .ok (.getfield 43, 3) := by decide +kernel
theorem dX9_see_281 : decode cX9_see 281 = .ok (.ireturn, 1) := by decide +kernel
theorem dX9_see_282 : decode cX9_see 282 = .ok (.iconst 0, 1) := by decide +kernel
theorem dX9_see_283 : decode cX9_see 283 = .ok (.ireturn, 1) := by decide +kernel
theorem dX9_read_0 : decode cX9_read 0 = .ok (.aload_n 0, 1) := by decide +kernel
theorem dX9_read_1 : decode cX9_read 1 = .ok (.iload_n 1, 1) := by decide +kernel
theorem dX9_read_2 : decode cX9_read 2 = .ok (.invokevirtual 90, 3) := by decide +kernel
theorem dX9_read_5 : decode cX9_read 5 = .ok (.istore_n 2, 1) := by decide +kernel
theorem dX9_read_6 : decode cX9_read 6 = .ok (.iload_n 1, 1) := by decide +kernel
theorem dX9_read_7 : decode cX9_read 7 = .ok (.ldc 93, 2) := by decide +kernel
theorem dX9_read_9 : decode cX9_read 9 = .ok (.if_icmp .ne 14, 3) := by decide +kernel
theorem dX9_read_12 : decode cX9_read 12 = .ok (.aload_n 0, 1) := by decide +kernel
theorem dX9_read_13 : decode cX9_read 13 = .ok (.dup, 1) := by decide +kernel
theorem dX9_read_14 : decode cX9_read 14 = .ok (.getfield 55, 3) := by decide +kernel
theorem dX9_read_17 : decode cX9_read 17 = .ok (.bipush (-65), 2) := by decide +kernel
theorem dX9_read_19 : decode cX9_read 19 = .ok (.iand, 1) := by decide +kernel
theorem dX9_read_20 : decode cX9_read 20 = .ok (.putfield 55, 3) := by decide +kernel
theorem dX9_read_23 : decode cX9_read 23 = .ok (.iload_n 1, 1) := by decide +kernel
theorem dX9_read_24 : decode cX9_read 24 = .ok (.ldc 94, 2) := by decide +kernel
theorem dX9_read_26 : decode cX9_read 26 = .ok (.if_icmp .ne 14, 3) := by decide +kernel
theorem dX9_read_29 : decode cX9_read 29 = .ok (.aload_n 0, 1) := by decide +kernel
theorem dX9_read_30 : decode cX9_read 30 = .ok (.dup, 1) := by decide +kernel
theorem dX9_read_31 : decode cX9_read 31 = .ok (.getfield 55, 3) := by decide +kernel
theorem dX9_read_34 : decode cX9_read 34 = .ok (.bipush (-33), 2) := by decide +kernel
theorem dX9_read_36 : decode cX9_read 36 = .ok (.iand, 1) := by decide +kernel
theorem dX9_read_37 : decode cX9_read 37 = .ok (.putfield 55, 3) := by decide +kernel
theorem dX9_read_40 : decode cX9_read 40 = .ok (.iload_n 1, 1) := by decide +kernel
theorem dX9_read_41 : decode cX9_read 41 = .ok (.ldc 95, 2) := by decide +kernel
theorem dX9_read_43 : decode cX9_read 43 = .ok (.if_icmp .ne 50, 3) := by decide +kernel
theorem dX9_read_46 : decode cX9_read 46 = .ok (.aload_n 0, 1) := by decide +kernel
theorem dX9_read_47 : decode cX9_read 47 = .ok (.getfield 46, 3) := by decide +kernel
theorem dX9_read_50 : decode cX9_read 50 = .ok (.ifCond .le 43, 3) := by decide +kernel
theorem dX9_read_53 : decode cX9_read 53 = .ok (.aload_n 0, 1) := by decide +kernel
theorem dX9_read_54 : decode cX9_read 54 = .ok (.dup, 1) := by decide +kernel
theorem dX9_read_55 : decode cX9_read 55 = .ok (.getfield 46, 3) := by decide +kernel
theorem dX9_read_58 : decode cX9_read 58 = .ok (.iconst 1, 1) := by decide +kernel
theorem dX9_read_59 : decode cX9_read 59 = .ok (.isub, 1) := by decide +kernel
theorem dX9_read_60 : decode cX9_read 60 = .ok (.putfield 46, 3) := by decide +kernel
theorem dX9_read_63 : decode cX9_read 63 = .ok (.iconst 0, 1) := by decide +kernel
theorem dX9_read_64 : decode cX9_read 64 = .ok (.istore_n 3, 1) := by decide +kernel
theorem dX9_read_65 : decode cX9_read 65 = .ok (.iload_n 3, 1) := by decide +kernel
theorem dX9_read_66 : decode cX9_read 66 = .ok (.aload_n 0, 1) := by decide +kernel
theorem dX9_read_67 : decode cX9_read 67 = .ok (.getfield 46, 3) := by decide +kernel
theorem dX9_read_70 : decode cX9_read 70 = .ok (.if_icmp .ge 23, 3) := by decide +kernel
theorem dX9_read_73 : decode cX9_read 73 = .ok (.aload_n 0, 1) := by decide +kernel
theorem dX9_read_74 : decode cX9_read 74 = .ok (.getfield 17, 3) := by decide +kernel
theorem dX9_read_77 : decode cX9_read 77 = .ok (.iload_n 3, 1) := by decide +kernel
theorem dX9_read_78 : decode cX9_read 78 = .ok (.aload_n 0, 1) := by decide +kernel
theorem dX9_read_79 : decode cX9_read 79 = .ok (.getfield 17, 3) := by decide +kernel
theorem dX9_read_82 : decode cX9_read 82 = .ok (.iload_n 3, 1) := by decide +kernel
theorem dX9_read_83 : decode cX9_read 83 = .ok (.iconst 1, 1) := by decide +kernel
theorem dX9_read_84 : decode cX9_read 84 = .ok (.iadd, 1) := by decide +kernel
theorem dX9_read_85 : decode cX9_read 85 = .ok (.iaload, 1) := by decide +kernel
theorem dX9_read_86 : decode cX9_read 86 = .ok (.iastore, 1) := by decide +kernel
theorem dX9_read_87 : decode cX9_read 87 = .ok (.iinc 3 1, 3) := by decide +kernel
theorem dX9_read_90 : decode cX9_read 90 = .ok (.goto (-25), 3) := by decide +kernel
theorem dX9_read_93 : decode cX9_read 93 = .ok (.iload_n 2, 1) := by decide +kernel
theorem dX9_read_94 : decode cX9_read 94 = .ok (.ireturn, 1) := by decide +kernel
theorem dX9_write_0 : decode cX9_write 0 = .ok (.iload_n 1, 1) := by decide +kernel
theorem dX9_write_1 : decode cX9_write 1 = .ok (.ldc 75, 2) := by decide +kernel
theorem dX9_write_3 : decode cX9_write 3 = .ok (.if_icmp .ge 15, 3) := by decide +kernel
theorem dX9_write_6 : decode cX9_write 6 = .ok (.aload_n 0, 1) := by decide +kernel
theorem dX9_write_7 : decode cX9_write 7 = .ok (.getfield 8, 3) := by decide +kernel
theorem dX9_write_10 : decode cX9_write 10 = .ok (.aload_n 0, 1) := by decide +kernel
theorem dX9_write_11 : decode cX9_write 11 = .ok (.iload_n 1, 1) := by decide +kernel
theorem dX9_write_12 : decode cX9_write 12 = .ok (.invokevirtual 78, 3) := by decide +kernel
theorem dX9_write_15 : decode cX9_write 15 = .ok (.iload_n 2, 1) := by decide +kernel
theorem dX9_write_16 : decode cX9_write 16 = .ok (.iastore, 1) := by decide +kernel
theorem dX9_write_17 : decode cX9_write 17 = .ok (.return_, 1) := by decide +kernel
theorem dX9_write_18 : decode cX9_write 18 = .ok (.iload_n 1, 1) := by decide +kernel
theorem dX9_write_19 : decode cX9_write 19 = .ok (.ldc 75, 2) := by decide +kernel
theorem dX9_write_21 : decode cX9_write 21 = .ok (.isub, 1) := by decide +kernel
theorem dX9_write_22 : decode cX9_write 22 = .ok (.tableswitch 370 4 32 #[130, 146, 130, 190, 221, 229, 370, 261, 370, 269, 284, 370, 317, 344, 352, 370, 370, 370, 370, 370, 370, 370, 370, 370, 370, 370, 370, 370, 360], 130) := by decide +kernel
theorem dX9_write_152 : decode cX9_write 152 = .ok (.aload_n 0, 1) := by decide +kernel
theorem dX9_write_153 : decode cX9_write 153 = .ok (.aload_n 0, 1) := by decide +kernel
theorem dX9_write_154 : decode cX9_write 154 = .ok (.getfield 64, 3) := by decide +kernel
theorem dX9_write_157 : decode cX9_write 157 = .ok (.ldc 96, 2) := by decide +kernel
theorem dX9_write_159 : decode cX9_write 159 = .ok (.iand, 1) := by decide +kernel
theorem dX9_write_160 : decode cX9_write 160 = .ok (.iload_n 2, 1) := by decide +kernel
theorem dX9_write_161 : decode cX9_write 161 = .ok (.ior, 1) := by decide +kernel
theorem dX9_write_162 : decode cX9_write 162 = .ok (.putfield 64, 3) := by decide +kernel
theorem dX9_write_165 : decode cX9_write 165 = .ok (.goto 227, 3) := by decide +kernel
theorem dX9_write_168 : decode cX9_write 168 = .ok (.aload_n 0, 1) := by decide +kernel
theorem dX9_write_169 : decode cX9_write 169 = .ok (.aload_n 0, 1) := by decide +kernel
theorem dX9_write_170 : decode cX9_write 170 = .ok (.getfield 64, 3) := by decide +kernel
theorem dX9_write_173 : decode cX9_write 173 = .ok (.sipush 255, 3) := by decide +kernel
theorem dX9_write_176 : decode cX9_write 176 = .ok (.iand, 1) := by decide +kernel
theorem dX9_write_177 : decode cX9_write 177 = .ok (.iload_n 2, 1) := by decide +kernel
theorem dX9_write_178 : decode cX9_write 178 = .ok (.bipush 8, 2) := by decide +kernel
theorem dX9_write_180 : decode cX9_write 180 = .ok (.ishl, 1) := by decide +kernel
theorem dX9_write_181 : decode cX9_write 181 = .ok (.ior, 1) := by decide +kernel
theorem dX9_write_182 : decode cX9_write 182 = .ok (.putfield 64, 3) := by decide +kernel
theorem dX9_write_185 : decode cX9_write 185 = .ok (.aload_n 0, 1) := by decide +kernel
theorem dX9_write_186 : decode cX9_write 186 = .ok (.aload_n 0, 1) := by decide +kernel
theorem dX9_write_187 : decode cX9_write 187 = .ok (.getfield 64, 3) := by decide +kernel
theorem dX9_write_190 : decode cX9_write 190 = .ok (.putfield 37, 3) := by decide +kernel
theorem dX9_write_193 : decode cX9_write 193 = .ok (.aload_n 0, 1) := by decide +kernel
theorem dX9_write_194 : decode cX9_write 194 = .ok (.iconst 1, 1) := by decide +kernel
theorem dX9_write_195 : decode cX9_write 195 = .ok (.putfield 67, 3) := by decide +kernel
theorem dX9_write_198 : decode cX9_write 198 = .ok (.aload_n 0, 1) := by decide +kernel
theorem dX9_write_199 : decode cX9_write 199 = .ok (.dup, 1) := by decide +kernel
theorem dX9_write_200 : decode cX9_write 200 = .ok (.getfield 55, 3) := by decide +kernel
theorem dX9_write_203 : decode cX9_write 203 = .ok (.bipush (-65), 2) := by decide +kernel
theorem dX9_write_205 : decode cX9_write 205 = .ok (.iand, 1) := by decide +kernel
theorem dX9_write_206 : decode cX9_write 206 = .ok (.putfield 55, 3) := by decide +kernel
theorem dX9_write_209 : decode cX9_write 209 = .ok (.goto 183, 3) := by decide +kernel
theorem dX9_write_212 : decode cX9_write 212 = .ok (.aload_n 0, 1) := by decide +kernel
theorem dX9_write_213 : decode cX9_write 213 = .ok (.aload_n 0, 1) := by decide +kernel
theorem dX9_write_214 : decode cX9_write 214 = .ok (.getfield 64, 3) := by decide +kernel
theorem dX9_write_217 : decode cX9_write 217 = .ok (.sipush 255, 3) := by decide +kernel
theorem dX9_write_220 : decode cX9_write 220 = .ok (.iand, 1) := by decide +kernel
theorem dX9_write_221 : decode cX9_write 221 = .ok (.iload_n 2, 1) := by decide +kernel
theorem dX9_write_222 : decode cX9_write 222 = .ok (.bipush 8, 2) := by decide +kernel
theorem dX9_write_224 : decode cX9_write 224 = .ok (.ishl, 1) := by decide +kernel
theorem dX9_write_225 : decode cX9_write 225 = .ok (.ior, 1) := by decide +kernel
theorem dX9_write_226 : decode cX9_write 226 = .ok (.putfield 64, 3) := by decide +kernel
theorem dX9_write_229 : decode cX9_write 229 = .ok (.aload_n 0, 1) := by decide +kernel
theorem dX9_write_230 : decode cX9_write 230 = .ok (.dup, 1) := by decide +kernel
theorem dX9_write_231 : decode cX9_write 231 = .ok (.getfield 55, 3) := by decide +kernel
theorem dX9_write_234 : decode cX9_write 234 = .ok (.bipush (-65), 2) := by decide +kernel
theorem dX9_write_236 : decode cX9_write 236 = .ok (.iand, 1) := by decide +kernel
theorem dX9_write_237 : decode cX9_write 237 = .ok (.putfield 55, 3) := by decide +kernel
theorem dX9_write_240 : decode cX9_write 240 = .ok (.goto 152, 3) := by decide +kernel
theorem dX9_write_243 : decode cX9_write 243 = .ok (.aload_n 0, 1) := by decide +kernel
theorem dX9_write_244 : decode cX9_write 244 = .ok (.iload_n 2, 1) := by decide +kernel
theorem dX9_write_245 : decode cX9_write 245 = .ok (.putfield 61, 3) := by decide +kernel
theorem dX9_write_248 : decode cX9_write 248 = .ok (.goto 144, 3) := by decide +kernel
theorem dX9_write_251 : decode cX9_write 251 = .ok (.aload_n 0, 1) := by decide +kernel
theorem dX9_write_252 : decode cX9_write 252 = .ok (.iload_n 2, 1) := by decide +kernel
theorem dX9_write_253 : decode cX9_write 253 = .ok (.bipush 8, 2) := by decide +kernel
theorem dX9_write_255 : decode cX9_write 255 = .ok (.ishl, 1) := by decide +kernel
theorem dX9_write_256 : decode cX9_write 256 = .ok (.aload_n 0, 1) := by decide +kernel
theorem dX9_write_257 : decode cX9_write 257 = .ok (.getfield 61, 3) := by decide +kernel
theorem dX9_write_260 : decode cX9_write 260 = .ok (.ior, 1) := by decide +kernel
theorem dX9_write_261 : decode cX9_write 261 = .ok (.putfield 40, 3) := by decide +kernel
theorem dX9_write_264 : decode cX9_write 264 = .ok (.aload_n 0, 1) := by decide +kernel
theorem dX9_write_265 : decode cX9_write 265 = .ok (.iconst 1, 1) := by decide +kernel
theorem dX9_write_266 : decode cX9_write 266 = .ok (.putfield 71, 3) := by decide +kernel
theorem dX9_write_269 : decode cX9_write 269 = .ok (.aload_n 0, 1) := by decide +kernel
theorem dX9_write_270 : decode cX9_write 270 = .ok (.dup, 1) := by decide +kernel
theorem dX9_write_271 : decode cX9_write 271 = .ok (.getfield 55, 3) := by decide +kernel
theorem dX9_write_274 : decode cX9_write 274 = .ok (.bipush (-33), 2) := by decide +kernel
theorem dX9_write_276 : decode cX9_write 276 = .ok (.iand, 1) := by decide +kernel
theorem dX9_write_277 : decode cX9_write 277 = .ok (.putfield 55, 3) := by decide +kernel
theorem dX9_write_280 : decode cX9_write 280 = .ok (.goto 112, 3) := by decide +kernel
theorem dX9_write_283 : decode cX9_write 283 = .ok (.aload_n 0, 1) := by decide +kernel
theorem dX9_write_284 : decode cX9_write 284 = .ok (.iload_n 2, 1) := by decide +kernel
theorem dX9_write_285 : decode cX9_write 285 = .ok (.putfield 58, 3) := by decide +kernel
theorem dX9_write_288 : decode cX9_write 288 = .ok (.goto 104, 3) := by decide +kernel
theorem dX9_write_291 : decode cX9_write 291 = .ok (.aload_n 0, 1) := by decide +kernel
theorem dX9_write_292 : decode cX9_write 292 = .ok (.dup, 1) := by decide +kernel
theorem dX9_write_293 : decode cX9_write 293 = .ok (.getfield 55, 3) := by decide +kernel
theorem dX9_write_296 : decode cX9_write 296 = .ok (.iload_n 2, 1) := by decide +kernel
theorem dX9_write_297 : decode cX9_write 297 = .ok (.iconst (-1), 1) := by decide +kernel
theorem dX9_write_298 : decode cX9_write 298 = .ok (.ixor, 1) := by decide +kernel
theorem dX9_write_299 : decode cX9_write 299 = .ok (.iand, 1) := by decide +kernel
theorem dX9_write_300 : decode cX9_write 300 = .ok (.putfield 55, 3) := by decide +kernel
theorem dX9_write_303 : decode cX9_write 303 = .ok (.goto 89, 3) := by decide +kernel
theorem dX9_write_306 : decode cX9_write 306 = .ok (.aload_n 0, 1) := by decide +kernel
theorem dX9_write_307 : decode cX9_write 307 = .ok (.iload_n 2, 1) := by decide +kernel
theorem dX9_write_308 : decode cX9_write 308 = .ok (.bipush 127, 2) := by decide +kernel
theorem dX9_write_310 : decode cX9_write 310 = .ok (.if_icmp .le 15, 3) := by decide +kernel
theorem dX9_write_313 : decode cX9_write 313 = .ok (.aload_n 0, 1) := by decide +kernel
theorem dX9_write_314 : decode cX9_write 314 = .ok (.getfield 52, 3) := by decide +kernel
theorem dX9_write_317 : decode cX9_write 317 = .ok (.iload_n 2, 1) := by decide +kernel
theorem dX9_write_318 : decode cX9_write 318 = .ok (.bipush 127, 2) := by decide +kernel
theorem dX9_write_320 : decode cX9_write 320 = .ok (.iand, 1) := by decide +kernel
theorem dX9_write_321 : decode cX9_write 321 = .ok (.ior, 1) := by decide +kernel
theorem dX9_write_322 : decode cX9_write 322 = .ok (.goto 11, 3) := by decide +kernel
theorem dX9_write_325 : decode cX9_write 325 = .ok (.aload_n 0, 1) := by decide +kernel
theorem dX9_write_326 : decode cX9_write 326 = .ok (.getfield 52, 3) := by decide +kernel
theorem dX9_write_329 : decode cX9_write 329 = .ok (.iload_n 2, 1) := by decide +kernel
theorem dX9_write_330 : decode cX9_write 330 = .ok (.iconst (-1), 1) := by decide +kernel
theorem dX9_write_331 : decode cX9_write 331 = .ok (.ixor, 1) := by decide +kernel
theorem dX9_write_332 : decode cX9_write 332 = .ok (.iand, 1) := by decide +kernel
theorem dX9_write_333 : decode cX9_write 333 = .ok (.putfield 52, 3) := by decide +kernel
theorem dX9_write_336 : decode cX9_write 336 = .ok (.goto 56, 3) := by decide +kernel
theorem dX9_write_339 : decode cX9_write 339 = .ok (.aload_n 0, 1) := by decide +kernel
theorem dX9_write_340 : decode cX9_write 340 = .ok (.getfield 20, 3) := by decide +kernel
theorem dX9_write_343 : decode cX9_write 343 = .ok (.aload_n 0, 1) := by decide +kernel
theorem dX9_write_344 : decode cX9_write 344 = .ok (.getfield 97, 3) := by decide +kernel
theorem dX9_write_347 : decode cX9_write 347 = .ok (.sipush 256, 3) := by decide +kernel
theorem dX9_write_350 : decode cX9_write 350 = .ok (.irem, 1) := by decide +kernel
theorem dX9_write_351 : decode cX9_write 351 = .ok (.iload_n 2, 1) := by decide +kernel
theorem dX9_write_352 : decode cX9_write 352 = .ok (.iastore, 1) := by decide +kernel
theorem dX9_write_353 : decode cX9_write 353 = .ok (.aload_n 0, 1) := by decide +kernel
theorem dX9_write_354 : decode cX9_write 354 = .ok (.dup, 1) := by decide +kernel
theorem dX9_write_355 : decode cX9_write 355 = .ok (.getfield 97, 3) := by decide +kernel
theorem dX9_write_358 : decode cX9_write 358 = .ok (.iconst 1, 1) := by decide +kernel
theorem dX9_write_359 : decode cX9_write 359 = .ok (.iadd, 1) := by decide +kernel
theorem dX9_write_360 : decode cX9_write 360 = .ok (.putfield 97, 3) := by decide +kernel
theorem dX9_write_363 : decode cX9_write 363 = .ok (.goto 29, 3) := by decide +kernel
theorem dX9_write_366 : decode cX9_write 366 = .ok (.aload_n 0, 1) := by decide +kernel
theorem dX9_write_367 : decode cX9_write 367 = .ok (.iconst 0, 1) := by decide +kernel
theorem dX9_write_368 : decode cX9_write 368 = .ok (.putfield 49, 3) := by decide +kernel
theorem dX9_write_371 : decode cX9_write 371 = .ok (.goto 21, 3) := by decide +kernel
theorem dX9_write_374 : decode cX9_write 374 = .ok (.aload_n 0, 1) := by decide +kernel
theorem dX9_write_375 : decode cX9_write 375 = .ok (.iload_n 2, 1) := by decide +kernel
theorem dX9_write_376 : decode cX9_write 376 = .ok (.putfield 49, 3) := by decide +kernel
theorem dX9_write_379 : decode cX9_write 379 = .ok (.goto 13, 3) := by decide +kernel
theorem dX9_write_382 : decode cX9_write 382 = .ok (.aload_n 0, 1) := by decide +kernel
theorem dX9_write_383 : decode cX9_write 383 = .ok (.iload_n 2, 1) := by decide +kernel
theorem dX9_write_384 : decode cX9_write 384 = .ok (.iconst 3, 1) := by decide +kernel
theorem dX9_write_385 : decode cX9_write 385 = .ok (.iand, 1) := by decide +kernel
theorem dX9_write_386 : decode cX9_write 386 = .ok (.putfield 43, 3) := by decide +kernel
theorem dX9_write_389 : decode cX9_write 389 = .ok (.goto 3, 3) := by decide +kernel
theorem dX9_write_392 : decode cX9_write 392 = .ok (.return_, 1) := by decide +kernel
theorem dX9_wordAt_0 : decode cX9_wordAt 0 = .ok (.aload_n 0, 1) := by decide +kernel
theorem dX9_wordAt_1 : decode cX9_wordAt 1 = .ok (.iload_n 1, 1) := by decide +kernel
theorem dX9_wordAt_2 : decode cX9_wordAt 2 = .ok (.ldc 36, 2) := by decide +kernel
theorem dX9_wordAt_4 : decode cX9_wordAt 4 = .ok (.iand, 1) := by decide +kernel
theorem dX9_wordAt_5 : decode cX9_wordAt 5 = .ok (.invokevirtual 100, 3) := by decide +kernel
theorem dX9_wordAt_8 : decode cX9_wordAt 8 = .ok (.istore_n 2, 1) := by decide +kernel
theorem dX9_wordAt_9 : decode cX9_wordAt 9 = .ok (.iload_n 2, 1) := by decide +kernel
theorem dX9_wordAt_10 : decode cX9_wordAt 10 = .ok (.aload_n 0, 1) := by decide +kernel
theorem dX9_wordAt_11 : decode cX9_wordAt 11 = .ok (.iload_n 1, 1) := by decide +kernel
theorem dX9_wordAt_12 : decode cX9_wordAt 12 = .ok (.iconst 1, 1) := by decide +kernel
theorem dX9_wordAt_13 : decode cX9_wordAt 13 = .ok (.iadd, 1) := by decide +kernel
theorem dX9_wordAt_14 : decode cX9_wordAt 14 = .ok (.ldc 36, 2) := by decide +kernel
theorem dX9_wordAt_16 : decode cX9_wordAt 16 = .ok (.iand, 1) := by decide +kernel
theorem dX9_wordAt_17 : decode cX9_wordAt 17 = .ok (.invokevirtual 100, 3) := by decide +kernel
theorem dX9_wordAt_20 : decode cX9_wordAt 20 = .ok (.bipush 8, 2) := by decide +kernel
theorem dX9_wordAt_22 : decode cX9_wordAt 22 = .ok (.ishl, 1) := by decide +kernel
theorem dX9_wordAt_23 : decode cX9_wordAt 23 = .ok (.ior, 1) := by decide +kernel
theorem dX9_wordAt_24 : decode cX9_wordAt 24 = .ok (.ireturn, 1) := by decide +kernel
theorem dX9_zeroWord_0 : decode cX9_zeroWord 0 = .ok (.aload_n 0, 1) := by decide +kernel
theorem dX9_zeroWord_1 : decode cX9_zeroWord 1 = .ok (.iload_n 1, 1) := by decide +kernel
theorem dX9_zeroWord_2 : decode cX9_zeroWord 2 = .ok (.sipush 255, 3) := by decide +kernel
theorem dX9_zeroWord_5 : decode cX9_zeroWord 5 = .ok (.iand, 1) := by decide +kernel
theorem dX9_zeroWord_6 : decode cX9_zeroWord 6 = .ok (.invokevirtual 100, 3) := by decide +kernel
theorem dX9_zeroWord_9 : decode cX9_zeroWord 9 = .ok (.istore_n 2, 1) := by decide +kernel
theorem dX9_zeroWord_10 : decode cX9_zeroWord 10 = .ok (.iload_n 2, 1) := by decide +kernel
theorem dX9_zeroWord_11 : decode cX9_zeroWord 11 = .ok (.aload_n 0, 1) := by decide +kernel
theorem dX9_zeroWord_12 : decode cX9_zeroWord 12 = .ok (.iload_n 1, 1) := by decide +kernel
theorem dX9_zeroWord_13 : decode cX9_zeroWord 13 = .ok (.iconst 1, 1) := by decide +kernel
theorem dX9_zeroWord_14 : decode cX9_zeroWord 14 = .ok (.iadd, 1) := by decide +kernel
theorem dX9_zeroWord_15 : decode cX9_zeroWord 15 = .ok (.sipush 255, 3) := by decide +kernel
theorem dX9_zeroWord_18 : decode cX9_zeroWord 18 = .ok (.iand, 1) := by decide +kernel
theorem dX9_zeroWord_19 : decode cX9_zeroWord 19 = .ok (.invokevirtual 100, 3) := by decide +kernel
theorem dX9_zeroWord_22 : decode cX9_zeroWord 22 = .ok (.bipush 8, 2) := by decide +kernel
theorem dX9_zeroWord_24 : decode cX9_zeroWord 24 = .ok (.ishl, 1) := by decide +kernel
theorem dX9_zeroWord_25 : decode cX9_zeroWord 25 = .ok (.ior, 1) := by decide +kernel
theorem dX9_zeroWord_26 : decode cX9_zeroWord 26 = .ok (.ireturn, 1) := by decide +kernel
theorem dX9_push_0 : decode cX9_push 0 = .ok (.aload_n 0, 1) := by decide +kernel
theorem dX9_push_1 : decode cX9_push 1 = .ok (.sipush 256, 3) := by decide +kernel
theorem dX9_push_4 : decode cX9_push 4 = .ok (.aload_n 0, 1) := by decide +kernel
theorem dX9_push_5 : decode cX9_push 5 = .ok (.getfield 14, 3) := by decide +kernel
theorem dX9_push_8 : decode cX9_push 8 = .ok (.iconst 3, 1) := by decide +kernel
theorem dX9_push_9 : decode cX9_push 9 = .ok (.iaload, 1) := by decide +kernel
theorem dX9_push_10 : decode cX9_push 10 = .ok (.iadd, 1) := by decide +kernel
theorem dX9_push_11 : decode cX9_push 11 = .ok (.iload_n 1, 1) := by decide +kernel
theorem dX9_push_12 : decode cX9_push 12 = .ok (.invokevirtual 103, 3) := by decide +kernel
theorem dX9_push_15 : decode cX9_push 15 = .ok (.aload_n 0, 1) := by decide +kernel
theorem dX9_push_16 : decode cX9_push 16 = .ok (.getfield 14, 3) := by decide +kernel
theorem dX9_push_19 : decode cX9_push 19 = .ok (.iconst 3, 1) := by decide +kernel
theorem dX9_push_20 : decode cX9_push 20 = .ok (.aload_n 0, 1) := by decide +kernel
theorem dX9_push_21 : decode cX9_push 21 = .ok (.getfield 14, 3) := by decide +kernel
theorem dX9_push_24 : decode cX9_push 24 = .ok (.iconst 3, 1) := by decide +kernel
theorem dX9_push_25 : decode cX9_push 25 = .ok (.iaload, 1) := by decide +kernel
theorem dX9_push_26 : decode cX9_push 26 = .ok (.iconst 1, 1) := by decide +kernel
theorem dX9_push_27 : decode cX9_push 27 = .ok (.isub, 1) := by decide +kernel
theorem dX9_push_28 : decode cX9_push 28 = .ok (.sipush 255, 3) := by decide +kernel
theorem dX9_push_31 : decode cX9_push 31 = .ok (.iand, 1) := by decide +kernel
theorem dX9_push_32 : decode cX9_push 32 = .ok (.iastore, 1) := by decide +kernel
theorem dX9_push_33 : decode cX9_push 33 = .ok (.return_, 1) := by decide +kernel
theorem dX9_pull_0 : decode cX9_pull 0 = .ok (.aload_n 0, 1) := by decide +kernel
theorem dX9_pull_1 : decode cX9_pull 1 = .ok (.getfield 14, 3) := by decide +kernel
theorem dX9_pull_4 : decode cX9_pull 4 = .ok (.iconst 3, 1) := by decide +kernel
theorem dX9_pull_5 : decode cX9_pull 5 = .ok (.aload_n 0, 1) := by decide +kernel
theorem dX9_pull_6 : decode cX9_pull 6 = .ok (.getfield 14, 3) := by decide +kernel
theorem dX9_pull_9 : decode cX9_pull 9 = .ok (.iconst 3, 1) := by decide +kernel
theorem dX9_pull_10 : decode cX9_pull 10 = .ok (.iaload, 1) := by decide +kernel
theorem dX9_pull_11 : decode cX9_pull 11 = .ok (.iconst 1, 1) := by decide +kernel
theorem dX9_pull_12 : decode cX9_pull 12 = .ok (.iadd, 1) := by decide +kernel
theorem dX9_pull_13 : decode cX9_pull 13 = .ok (.sipush 255, 3) := by decide +kernel
theorem dX9_pull_16 : decode cX9_pull 16 = .ok (.iand, 1) := by decide +kernel
theorem dX9_pull_17 : decode cX9_pull 17 = .ok (.iastore, 1) := by decide +kernel
theorem dX9_pull_18 : decode cX9_pull 18 = .ok (.aload_n 0, 1) := by decide +kernel
theorem dX9_pull_19 : decode cX9_pull 19 = .ok (.sipush 256, 3) := by decide +kernel
theorem dX9_pull_22 : decode cX9_pull 22 = .ok (.aload_n 0, 1) := by decide +kernel
theorem dX9_pull_23 : decode cX9_pull 23 = .ok (.getfield 14, 3) := by decide +kernel
theorem dX9_pull_26 : decode cX9_pull 26 = .ok (.iconst 3, 1) := by decide +kernel
theorem dX9_pull_27 : decode cX9_pull 27 = .ok (.iaload, 1) := by decide +kernel
theorem dX9_pull_28 : decode cX9_pull 28 = .ok (.iadd, 1) := by decide +kernel
theorem dX9_pull_29 : decode cX9_pull 29 = .ok (.invokevirtual 100, 3) := by decide +kernel
theorem dX9_pull_32 : decode cX9_pull 32 = .ok (.ireturn, 1) := by decide +kernel
theorem dX9_flag_0 : decode cX9_flag 0 = .ok (.aload_n 0, 1) := by decide +kernel
theorem dX9_flag_1 : decode cX9_flag 1 = .ok (.iload_n 2, 1) := by decide +kernel
theorem dX9_flag_2 : decode cX9_flag 2 = .ok (.ifCond .eq 12, 3) := by decide +kernel
theorem dX9_flag_5 : decode cX9_flag 5 = .ok (.aload_n 0, 1) := by decide +kernel
theorem dX9_flag_6 : decode cX9_flag 6 = .ok (.getfield 107, 3) := by decide +kernel
theorem dX9_flag_9 : decode cX9_flag 9 = .ok (.iload_n 1, 1) := by decide +kernel
theorem dX9_flag_10 : decode cX9_flag 10 = .ok (.ior, 1) := by decide +kernel
theorem dX9_flag_11 : decode cX9_flag 11 = .ok (.goto 11, 3) := by decide +kernel
theorem dX9_flag_14 : decode cX9_flag 14 = .ok (.aload_n 0, 1) := by decide +kernel
theorem dX9_flag_15 : decode cX9_flag 15 = .ok (.getfield 107, 3) := by decide +kernel
theorem dX9_flag_18 : decode cX9_flag 18 = .ok (.iload_n 1, 1) := by decide +kernel
theorem dX9_flag_19 : decode cX9_flag 19 = .ok (.iconst (-1), 1) := by decide +kernel
theorem dX9_flag_20 : decode cX9_flag 20 = .ok (.ixor, 1) := by decide +kernel
theorem dX9_flag_21 : decode cX9_flag 21 = .ok (.iand, 1) := by decide +kernel
theorem dX9_flag_22 : decode cX9_flag 22 = .ok (.putfield 107, 3) := by decide +kernel
theorem dX9_flag_25 : decode cX9_flag 25 = .ok (.return_, 1) := by decide +kernel
theorem dX9_is_0 : decode cX9_is 0 = .ok (.aload_n 0, 1) := by decide +kernel
theorem dX9_is_1 : decode cX9_is 1 = .ok (.getfield 107, 3) := by decide +kernel
theorem dX9_is_4 : decode cX9_is 4 = .ok (.iload_n 1, 1) := by decide +kernel
theorem dX9_is_5 : decode cX9_is 5 = .ok (.iand, 1) := by decide +kernel
theorem dX9_is_6 : decode cX9_is 6 = .ok (.ifCond .eq 7, 3) := by decide +kernel
theorem dX9_is_9 : decode cX9_is 9 = .ok (.iconst 1, 1) := by decide +kernel
theorem dX9_is_10 : decode cX9_is 10 = .ok (.goto 4, 3) := by decide +kernel
theorem dX9_is_13 : decode cX9_is 13 = .ok (.iconst 0, 1) := by decide +kernel
theorem dX9_is_14 : decode cX9_is 14 = .ok (.ireturn, 1) := by decide +kernel
theorem dX9_carry_0 : decode cX9_carry 0 = .ok (.aload_n 0, 1) := by decide +kernel
theorem dX9_carry_1 : decode cX9_carry 1 = .ok (.getfield 107, 3) := by decide +kernel
theorem dX9_carry_4 : decode cX9_carry 4 = .ok (.iconst 1, 1) := by decide +kernel
theorem dX9_carry_5 : decode cX9_carry 5 = .ok (.iand, 1) := by decide +kernel
theorem dX9_carry_6 : decode cX9_carry 6 = .ok (.ireturn, 1) := by decide +kernel
theorem dX9_tested_0 : decode cX9_tested 0 = .ok (.aload_n 0, 1) := by decide +kernel
theorem dX9_tested_1 : decode cX9_tested 1 = .ok (.sipush 128, 3) := by decide +kernel
theorem dX9_tested_4 : decode cX9_tested 4 = .ok (.iload_n 1, 1) := by decide +kernel
theorem dX9_tested_5 : decode cX9_tested 5 = .ok (.bipush 127, 2) := by decide +kernel
theorem dX9_tested_7 : decode cX9_tested 7 = .ok (.if_icmp .le 7, 3) := by decide +kernel
theorem dX9_tested_10 : decode cX9_tested 10 = .ok (.iconst 1, 1) := by decide +kernel
theorem dX9_tested_11 : decode cX9_tested 11 = .ok (.goto 4, 3) := by decide +kernel
theorem dX9_tested_14 : decode cX9_tested 14 = .ok (.iconst 0, 1) := by decide +kernel
theorem dX9_tested_15 : decode cX9_tested 15 = .ok (.invokevirtual 110, 3) := by decide +kernel
theorem dX9_tested_18 : decode cX9_tested 18 = .ok (.aload_n 0, 1) := by decide +kernel
theorem dX9_tested_19 : decode cX9_tested 19 = .ok (.iconst 2, 1) := by decide +kernel
theorem dX9_tested_20 : decode cX9_tested 20 = .ok (.iload_n 1, 1) := by decide +kernel
theorem dX9_tested_21 : decode cX9_tested 21 = .ok (.ifCond .ne 7, 3) := by decide +kernel
theorem dX9_tested_24 : decode cX9_tested 24 = .ok (.iconst 1, 1) := by decide +kernel
theorem dX9_tested_25 : decode cX9_tested 25 = .ok (.goto 4, 3) := by decide +kernel
theorem dX9_tested_28 : decode cX9_tested 28 = .ok (.iconst 0, 1) := by decide +kernel
theorem dX9_tested_29 : decode cX9_tested 29 = .ok (.invokevirtual 110, 3) := by decide +kernel
theorem dX9_tested_32 : decode cX9_tested 32 = .ok (.iload_n 1, 1) := by decide +kernel
