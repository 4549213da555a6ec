theorem dX12_readAct_186 : decode cX12_readAct 186 = .ok (.aload_n 0, 1) := by decide +kernel
theorem dX12_readAct_187 : decode cX12_readAct 187 = .ok (.aload_n 0, 1) := by decide +kernel
theorem dX12_readAct_188 : decode cX12_readAct 188 = .ok (.getfield 117, 3) := by decide +kernel
theorem dX12_readAct_191 : decode cX12_readAct 191 = .ok (.invokevirtual 139, 3) := by decide +kernel
theorem dX12_readAct_194 : decode cX12_readAct 194 = .ok (.return_, 1) := by decide +kernel
theorem dX12_mountedAt_0 : decode cX12_mountedAt 0 = .ok (.aload_n 0, 1) := by decide +kernel
theorem dX12_mountedAt_1 : decode cX12_mountedAt 1 = .ok (.aload_n 0, 1) := by decide +kernel
theorem dX12_mountedAt_2 : decode cX12_mountedAt 2 = .ok (.getfield 9, 3) := by decide +kernel
theorem dX12_mountedAt_5 : decode cX12_mountedAt 5 = .ok (.iload_n 1, 1) := by decide +kernel
theorem dX12_mountedAt_6 : decode cX12_mountedAt 6 = .ok (.invokevirtual 225, 3) := by decide +kernel
theorem dX12_mountedAt_9 : decode cX12_mountedAt 9 = .ok (.ifCond .eq 21, 3) := by decide +kernel
theorem dX12_mountedAt_12 : decode cX12_mountedAt 12 = .ok (.aload_n 0, 1) := by decide +kernel
theorem dX12_mountedAt_13 : decode cX12_mountedAt 13 = .ok (.getfield 9, 3) := by decide +kernel
theorem dX12_mountedAt_16 : decode cX12_mountedAt 16 = .ok (.aload_n 0, 1) := by decide +kernel
theorem dX12_mountedAt_17 : decode cX12_mountedAt 17 = .ok (.getfield 203, 3) := by decide +kernel
theorem dX12_mountedAt_20 : decode cX12_mountedAt 20 = .ok (.aload_n 0, 1) := by decide +kernel
theorem dX12_mountedAt_21 : decode cX12_mountedAt 21 = .ok (.getfield 206, 3) := by decide +kernel
theorem dX12_mountedAt_24 : decode cX12_mountedAt 24 = .ok (.invokestatic 212, 3) := by decide +kernel
theorem dX12_mountedAt_27 : decode cX12_mountedAt 27 = .ok (.goto 5, 3) := by decide +kernel
theorem dX12_mountedAt_30 : decode cX12_mountedAt 30 = .ok (.bipush 24, 2) := by decide +kernel
theorem dX12_mountedAt_32 : decode cX12_mountedAt 32 = .ok (.ireturn, 1) := by decide +kernel
theorem dX12_act_0 : decode cX12_act 0 = .ok (.aload_n 0, 1) := by decide +kernel
theorem dX12_act_1 : decode cX12_act 1 = .ok (.getfield 51, 3) := by decide +kernel
theorem dX12_act_4 : decode cX12_act 4 = .ok (.iload_n 1, 1) := by decide +kernel
theorem dX12_act_5 : decode cX12_act 5 = .ok (.iaload, 1) := by decide +kernel
theorem dX12_act_6 : decode cX12_act 6 = .ok (.istore_n 2, 1) := by decide +kernel
theorem dX12_act_7 : decode cX12_act 7 = .ok (.iload_n 2, 1) := by decide +kernel
theorem dX12_act_8 : decode cX12_act 8 = .ok (.bipush 109, 2) := by decide +kernel
theorem dX12_act_10 : decode cX12_act 10 = .ok (.if_icmp .eq 9, 3) := by decide +kernel
theorem dX12_act_13 : decode cX12_act 13 = .ok (.iload_n 2, 1) := by decide +kernel
theorem dX12_act_14 : decode cX12_act 14 = .ok (.bipush 117, 2) := by decide +kernel
theorem dX12_act_16 : decode cX12_act 16 = .ok (.if_icmp .ne 118, 3) := by decide +kernel
theorem dX12_act_19 : decode cX12_act 19 = .ok (.aload_n 0, 1) := by decide +kernel
theorem dX12_act_20 : decode cX12_act 20 = .ok (.aload_n 0, 1) := by decide +kernel
theorem dX12_act_21 : decode cX12_act 21 = .ok (.getfield 9, 3) := by decide +kernel
theorem dX12_act_24 : decode cX12_act 24 = .ok (.aload_n 0, 1) := by decide +kernel
theorem dX12_act_25 : decode cX12_act 25 = .ok (.getfield 51, 3) := by decide +kernel
theorem dX12_act_28 : decode cX12_act 28 = .ok (.iload_n 1, 1) := by decide +kernel
theorem dX12_act_29 : decode cX12_act 29 = .ok (.iconst 1, 1) := by decide +kernel
theorem dX12_act_30 : decode cX12_act 30 = .ok (.iadd, 1) := by decide +kernel
theorem dX12_act_31 : decode cX12_act 31 = .ok (.iaload, 1) := by decide +kernel
theorem dX12_act_32 : decode cX12_act 32 = .ok (.invokevirtual 225, 3) := by decide +kernel
theorem dX12_act_35 : decode cX12_act 35 = .ok (.ifCond .ne 5, 3) := by decide +kernel
theorem dX12_act_38 : decode cX12_act 38 = .ok (.iconst 0, 1) := by decide +kernel
theorem dX12_act_39 : decode cX12_act 39 = .ok (.ireturn, 1) := by decide +kernel
theorem dX12_act_40 : decode cX12_act 40 = .ok (.iload_n 2, 1) := by decide +kernel
theorem dX12_act_41 : decode cX12_act 41 = .ok (.bipush 109, 2) := by decide +kernel
theorem dX12_act_43 : decode cX12_act 43 = .ok (.if_icmp .ne 22, 3) := by decide +kernel
theorem dX12_act_46 : decode cX12_act 46 = .ok (.aload_n 0, 1) := by decide +kernel
theorem dX12_act_47 : decode cX12_act 47 = .ok (.aload_n 0, 1) := by decide +kernel
theorem dX12_act_48 : decode cX12_act 48 = .ok (.getfield 9, 3) := by decide +kernel
theorem dX12_act_51 : decode cX12_act 51 = .ok (.aload_n 0, 1) := by decide +kernel
theorem dX12_act_52 : decode cX12_act 52 = .ok (.getfield 203, 3) := by decide +kernel
theorem dX12_act_55 : decode cX12_act 55 = .ok (.aload_n 0, 1) := by decide +kernel
theorem dX12_act_56 : decode cX12_act 56 = .ok (.getfield 206, 3) := by decide +kernel
theorem dX12_act_59 : decode cX12_act 59 = .ok (.invokevirtual 283, 3) := by decide +kernel
theorem dX12_act_62 : decode cX12_act 62 = .ok (.goto 18, 3) := by decide +kernel
theorem dX12_act_65 : decode cX12_act 65 = .ok (.aload_n 0, 1) := by decide +kernel
theorem dX12_act_66 : decode cX12_act 66 = .ok (.getfield 9, 3) := by decide +kernel
theorem dX12_act_69 : decode cX12_act 69 = .ok (.aload_n 0, 1) := by decide +kernel
theorem dX12_act_70 : decode cX12_act 70 = .ok (.getfield 203, 3) := by decide +kernel
theorem dX12_act_73 : decode cX12_act 73 = .ok (.aload_n 0, 1) := by decide +kernel
theorem dX12_act_74 : decode cX12_act 74 = .ok (.getfield 206, 3) := by decide +kernel
theorem dX12_act_77 : decode cX12_act 77 = .ok (.invokestatic 329, 3) := by decide +kernel
theorem dX12_act_80 : decode cX12_act 80 = .ok (.istore_n 3, 1) := by decide +kernel
theorem dX12_act_81 : decode cX12_act 81 = .ok (.iload_n 3, 1) := by decide +kernel
theorem dX12_act_82 : decode cX12_act 82 = .ok (.ifCond .ge 5, 3) := by decide +kernel
theorem dX12_act_85 : decode cX12_act 85 = .ok (.iconst 0, 1) := by decide +kernel
theorem dX12_act_86 : decode cX12_act 86 = .ok (.ireturn, 1) := by decide +kernel
theorem dX12_act_87 : decode cX12_act 87 = .ok (.iload_n 2, 1) := by decide +kernel
theorem dX12_act_88 : decode cX12_act 88 = .ok (.bipush 109, 2) := by decide +kernel
theorem dX12_act_90 : decode cX12_act 90 = .ok (.if_icmp .ne 25, 3) := by decide +kernel
theorem dX12_act_93 : decode cX12_act 93 = .ok (.aload_n 0, 1) := by decide +kernel
theorem dX12_act_94 : decode cX12_act 94 = .ok (.aload_n 0, 1) := by decide +kernel
theorem dX12_act_95 : decode cX12_act 95 = .ok (.getfield 9, 3) := by decide +kernel
theorem dX12_act_98 : decode cX12_act 98 = .ok (.bipush 24, 2) := by decide +kernel
theorem dX12_act_100 : decode cX12_act 100 = .ok (.aload_n 0, 1) := by decide +kernel
theorem dX12_act_101 : decode cX12_act 101 = .ok (.getfield 203, 3) := by decide +kernel
theorem dX12_act_104 : decode cX12_act 104 = .ok (.aload_n 0, 1) := by decide +kernel
theorem dX12_act_105 : decode cX12_act 105 = .ok (.getfield 206, 3) := by decide +kernel
theorem dX12_act_108 : decode cX12_act 108 = .ok (.invokevirtual 290, 3) := by decide +kernel
theorem dX12_act_111 : decode cX12_act 111 = .ok (.pop, 1) := by decide +kernel
theorem dX12_act_112 : decode cX12_act 112 = .ok (.goto 20, 3) := by decide +kernel
theorem dX12_act_115 : decode cX12_act 115 = .ok (.aload_n 0, 1) := by decide +kernel
theorem dX12_act_116 : decode cX12_act 116 = .ok (.aload_n 0, 1) := by decide +kernel
theorem dX12_act_117 : decode cX12_act 117 = .ok (.getfield 9, 3) := by decide +kernel
theorem dX12_act_120 : decode cX12_act 120 = .ok (.aload_n 0, 1) := by decide +kernel
theorem dX12_act_121 : decode cX12_act 121 = .ok (.getfield 203, 3) := by decide +kernel
theorem dX12_act_124 : decode cX12_act 124 = .ok (.aload_n 0, 1) := by decide +kernel
theorem dX12_act_125 : decode cX12_act 125 = .ok (.getfield 206, 3) := by decide +kernel
theorem dX12_act_128 : decode cX12_act 128 = .ok (.invokevirtual 332, 3) := by decide +kernel
theorem dX12_act_131 : decode cX12_act 131 = .ok (.pop, 1) := by decide +kernel
theorem dX12_act_132 : decode cX12_act 132 = .ok (.iconst 1, 1) := by decide +kernel
theorem dX12_act_133 : decode cX12_act 133 = .ok (.ireturn, 1) := by decide +kernel
theorem dX12_act_134 : decode cX12_act 134 = .ok (.aload_n 0, 1) := by decide +kernel
theorem dX12_act_135 : decode cX12_act 135 = .ok (.aload_n 0, 1) := by decide +kernel
theorem dX12_act_136 : decode cX12_act 136 = .ok (.getfield 51, 3) := by decide +kernel
theorem dX12_act_139 : decode cX12_act 139 = .ok (.iload_n 1, 1) := by decide +kernel
theorem dX12_act_140 : decode cX12_act 140 = .ok (.iconst 1, 1) := by decide +kernel
theorem dX12_act_141 : decode cX12_act 141 = .ok (.iadd, 1) := by decide +kernel
theorem dX12_act_142 : decode cX12_act 142 = .ok (.iaload, 1) := by decide +kernel
theorem dX12_act_143 : decode cX12_act 143 = .ok (.invokevirtual 351, 3) := by decide +kernel
theorem dX12_act_146 : decode cX12_act 146 = .ok (.istore_n 3, 1) := by decide +kernel
theorem dX12_act_147 : decode cX12_act 147 = .ok (.iload_n 3, 1) := by decide +kernel
theorem dX12_act_148 : decode cX12_act 148 = .ok (.bipush 24, 2) := by decide +kernel
theorem dX12_act_150 : decode cX12_act 150 = .ok (.if_icmp .ne 5, 3) := by decide +kernel
theorem dX12_act_153 : decode cX12_act 153 = .ok (.iconst 0, 1) := by decide +kernel
theorem dX12_act_154 : decode cX12_act 154 = .ok (.ireturn, 1) := by decide +kernel
theorem dX12_act_155 : decode cX12_act 155 = .ok (.iload_n 2, 1) := by decide +kernel
theorem dX12_act_156 : decode cX12_act 156 = .ok (.bipush 107, 2) := by decide +kernel
theorem dX12_act_158 : decode cX12_act 158 = .ok (.if_icmp .ne 42, 3) := by decide +kernel
theorem dX12_act_161 : decode cX12_act 161 = .ok (.aload_n 0, 1) := by decide +kernel
theorem dX12_act_162 : decode cX12_act 162 = .ok (.getfield 9, 3) := by decide +kernel
theorem dX12_act_165 : decode cX12_act 165 = .ok (.iload_n 3, 1) := by decide +kernel
theorem dX12_act_166 : decode cX12_act 166 = .ok (.aload_n 0, 1) := by decide +kernel
theorem dX12_act_167 : decode cX12_act 167 = .ok (.getfield 51, 3) := by decide +kernel
theorem dX12_act_170 : decode cX12_act 170 = .ok (.iload_n 1, 1) := by decide +kernel
theorem dX12_act_171 : decode cX12_act 171 = .ok (.iconst 3, 1) := by decide +kernel
theorem dX12_act_172 : decode cX12_act 172 = .ok (.iadd, 1) := by decide +kernel
theorem dX12_act_173 : decode cX12_act 173 = .ok (.iaload, 1) := by decide +kernel
theorem dX12_act_174 : decode cX12_act 174 = .ok (.invokestatic 317, 3) := by decide +kernel
theorem dX12_act_177 : decode cX12_act 177 = .ok (.ifCond .ge 5, 3) := by decide +kernel
theorem dX12_act_180 : decode cX12_act 180 = .ok (.iconst 0, 1) := by decide +kernel
theorem dX12_act_181 : decode cX12_act 181 = .ok (.ireturn, 1) := by decide +kernel
theorem dX12_act_182 : decode cX12_act 182 = .ok (.aload_n 0, 1) := by decide +kernel
theorem dX12_act_183 : decode cX12_act 183 = .ok (.getfield 9, 3) := by decide +kernel
theorem dX12_act_186 : decode cX12_act 186 = .ok (.iload_n 3, 1) := by decide +kernel
theorem dX12_act_187 : decode cX12_act 187 = .ok (.aload_n 0, 1) := by decide +kernel
theorem dX12_act_188 : decode cX12_act 188 = .ok (.getfield 51, 3) := by decide +kernel
theorem dX12_act_191 : decode cX12_act 191 = .ok (.iload_n 1, 1) := by decide +kernel
theorem dX12_act_192 : decode cX12_act 192 = .ok (.iconst 3, 1) := by decide +kernel
theorem dX12_act_193 : decode cX12_act 193 = .ok (.iadd, 1) := by decide +kernel
theorem dX12_act_194 : decode cX12_act 194 = .ok (.iaload, 1) := by decide +kernel
theorem dX12_act_195 : decode cX12_act 195 = .ok (.invokestatic 320, 3) := by decide +kernel
theorem dX12_act_198 : decode cX12_act 198 = .ok (.iconst 1, 1) := by decide +kernel
theorem dX12_act_199 : decode cX12_act 199 = .ok (.ireturn, 1) := by decide +kernel
theorem dX12_act_200 : decode cX12_act 200 = .ok (.aload_n 0, 1) := by decide +kernel
theorem dX12_act_201 : decode cX12_act 201 = .ok (.aload_n 0, 1) := by decide +kernel
theorem dX12_act_202 : decode cX12_act 202 = .ok (.getfield 9, 3) := by decide +kernel
theorem dX12_act_205 : decode cX12_act 205 = .ok (.aload_n 0, 1) := by decide +kernel
theorem dX12_act_206 : decode cX12_act 206 = .ok (.getfield 51, 3) := by decide +kernel
theorem dX12_act_209 : decode cX12_act 209 = .ok (.iload_n 1, 1) := by decide +kernel
theorem dX12_act_210 : decode cX12_act 210 = .ok (.iconst 2, 1) := by decide +kernel
theorem dX12_act_211 : decode cX12_act 211 = .ok (.iadd, 1) := by decide +kernel
theorem dX12_act_212 : decode cX12_act 212 = .ok (.iaload, 1) := by decide +kernel
theorem dX12_act_213 : decode cX12_act 213 = .ok (.invokevirtual 225, 3) := by decide +kernel
theorem dX12_act_216 : decode cX12_act 216 = .ok (.ifCond .ne 5, 3) := by decide +kernel
theorem dX12_act_219 : decode cX12_act 219 = .ok (.iconst 0, 1) := by decide +kernel
theorem dX12_act_220 : decode cX12_act 220 = .ok (.ireturn, 1) := by decide +kernel
theorem dX12_act_221 : decode cX12_act 221 = .ok (.iload_n 2, 1) := by decide +kernel
theorem dX12_act_222 : decode cX12_act 222 = .ok (.bipush 98, 2) := by decide +kernel
theorem dX12_act_224 : decode cX12_act 224 = .ok (.if_icmp .ne 23, 3) := by decide +kernel
theorem dX12_act_227 : decode cX12_act 227 = .ok (.aload_n 0, 1) := by decide +kernel
theorem dX12_act_228 : decode cX12_act 228 = .ok (.aload_n 0, 1) := by decide +kernel
theorem dX12_act_229 : decode cX12_act 229 = .ok (.getfield 9, 3) := by decide +kernel
theorem dX12_act_232 : decode cX12_act 232 = .ok (.iload_n 3, 1) := by decide +kernel
theorem dX12_act_233 : decode cX12_act 233 = .ok (.aload_n 0, 1) := by decide +kernel
theorem dX12_act_234 : decode cX12_act 234 = .ok (.getfield 203, 3) := by decide +kernel
theorem dX12_act_237 : decode cX12_act 237 = .ok (.aload_n 0, 1) := by decide +kernel
theorem dX12_act_238 : decode cX12_act 238 = .ok (.getfield 206, 3) := by decide +kernel
theorem dX12_act_241 : decode cX12_act 241 = .ok (.invokevirtual 297, 3) := by decide +kernel
theorem dX12_act_244 : decode cX12_act 244 = .ok (.goto 45, 3) := by decide +kernel
theorem dX12_act_247 : decode cX12_act 247 = .ok (.iload_n 2, 1) := by decide +kernel
theorem dX12_act_248 : decode cX12_act 248 = .ok (.bipush 114, 2) := by decide +kernel
theorem dX12_act_250 : decode cX12_act 250 = .ok (.if_icmp .ne 23, 3) := by decide +kernel
theorem dX12_act_253 : decode cX12_act 253 = .ok (.aload_n 0, 1) := by decide +kernel
theorem dX12_act_254 : decode cX12_act 254 = .ok (.aload_n 0, 1) := by decide +kernel
theorem dX12_act_255 : decode cX12_act 255 = .ok (.getfield 9, 3) := by decide +kernel
theorem dX12_act_258 : decode cX12_act 258 = .ok (.iload_n 3, 1) := by decide +kernel
theorem dX12_act_259 : decode cX12_act 259 = .ok (.aload_n 0, 1) := by decide +kernel
theorem dX12_act_260 : decode cX12_act 260 = .ok (.getfield 203, 3) := by decide +kernel
theorem dX12_act_263 : decode cX12_act 263 = .ok (.aload_n 0, 1) := by decide +kernel
theorem dX12_act_264 : decode cX12_act 264 = .ok (.getfield 206, 3) := by decide +kernel
theorem dX12_act_267 : decode cX12_act 267 = .ok (.invokevirtual 307, 3) := by decide +kernel
theorem dX12_act_270 : decode cX12_act 270 = .ok (.goto 19, 3) := by decide +kernel
theorem dX12_act_273 : decode cX12_act 273 = .ok (.aload_n 0, 1) := by decide +kernel
theorem dX12_act_274 : decode cX12_act 274 = .ok (.getfield 9, 3) := by decide +kernel
theorem dX12_act_277 : decode cX12_act 277 = .ok (.iload_n 3, 1) := by decide +kernel
theorem dX12_act_278 : decode cX12_act 278 = .ok (.aload_n 0, 1) := by decide +kernel
theorem dX12_act_279 : decode cX12_act 279 = .ok (.getfield 203, 3) := by decide +kernel
theorem dX12_act_282 : decode cX12_act 282 = .ok (.aload_n 0, 1) := by decide +kernel
theorem dX12_act_283 : decode cX12_act 283 = .ok (.getfield 206, 3) := by decide +kernel
theorem dX12_act_286 : decode cX12_act 286 = .ok (.invokestatic 338, 3) := by decide +kernel
theorem dX12_act_289 : decode cX12_act 289 = .ok (.istore 4, 2) := by decide +kernel
theorem dX12_act_291 : decode cX12_act 291 = .ok (.iload 4, 2) := by decide +kernel
theorem dX12_act_293 : decode cX12_act 293 = .ok (.ifCond .ge 5, 3) := by decide +kernel
theorem dX12_act_296 : decode cX12_act 296 = .ok (.iconst 0, 1) := by decide +kernel
theorem dX12_act_297 : decode cX12_act 297 = .ok (.ireturn, 1) := by decide +kernel
theorem dX12_act_298 : decode cX12_act 298 = .ok (.iload_n 2, 1) := by decide +kernel
theorem dX12_act_299 : decode cX12_act 299 = .ok (.bipush 98, 2) := by decide +kernel
theorem dX12_act_301 : decode cX12_act 301 = .ok (.if_icmp .ne 24, 3) := by decide +kernel
theorem dX12_act_304 : decode cX12_act 304 = .ok (.aload_n 0, 1) := by decide +kernel
theorem dX12_act_305 : decode cX12_act 305 = .ok (.aload_n 0, 1) := by decide +kernel
theorem dX12_act_306 : decode cX12_act 306 = .ok (.getfield 9, 3) := by decide +kernel
theorem dX12_act_309 : decode cX12_act 309 = .ok (.iload_n 3, 1) := by decide +kernel
theorem dX12_act_310 : decode cX12_act 310 = .ok (.aload_n 0, 1) := by decide +kernel
theorem dX12_act_311 : decode cX12_act 311 = .ok (.getfield 203, 3) := by decide +kernel
theorem dX12_act_314 : decode cX12_act 314 = .ok (.aload_n 0, 1) := by decide +kernel
theorem dX12_act_315 : decode cX12_act 315 = .ok (.getfield 206, 3) := by decide +kernel
theorem dX12_act_318 : decode cX12_act 318 = .ok (.invokevirtual 290, 3) := by decide +kernel
theorem dX12_act_321 : decode cX12_act 321 = .ok (.pop, 1) := by decide +kernel
theorem dX12_act_322 : decode cX12_act 322 = .ok (.goto 46, 3) := by decide +kernel
theorem dX12_act_325 : decode cX12_act 325 = .ok (.iload_n 2, 1) := by decide +kernel
theorem dX12_act_326 : decode cX12_act 326 = .ok (.bipush 114, 2) := by decide +kernel
theorem dX12_act_328 : decode cX12_act 328 = .ok (.if_icmp .ne 24, 3) := by decide +kernel
theorem dX12_act_331 : decode cX12_act 331 = .ok (.aload_n 0, 1) := by decide +kernel
theorem dX12_act_332 : decode cX12_act 332 = .ok (.aload_n 0, 1) := by decide +kernel
theorem dX12_act_333 : decode cX12_act 333 = .ok (.getfield 9, 3) := by decide +kernel
theorem dX12_act_336 : decode cX12_act 336 = .ok (.iload_n 3, 1) := by decide +kernel
theorem dX12_act_337 : decode cX12_act 337 = .ok (.aload_n 0, 1) := by decide +kernel
theorem dX12_act_338 : decode cX12_act 338 = .ok (.getfield 203, 3) := by decide +kernel
theorem dX12_act_341 : decode cX12_act 341 = .ok (.aload_n 0, 1) := by decide +kernel
theorem dX12_act_342 : decode cX12_act 342 = .ok (.getfield 206, 3) := by decide +kernel
theorem dX12_act_345 : decode cX12_act 345 = .ok (.invokevirtual 310, 3) := by decide +kernel
theorem dX12_act_348 : decode cX12_act 348 = .ok (.pop, 1) := by decide +kernel
theorem dX12_act_349 : decode cX12_act 349 = .ok (.goto 19, 3) := by decide +kernel
theorem dX12_act_352 : decode cX12_act 352 = .ok (.aload_n 0, 1) := by decide +kernel
theorem dX12_act_353 : decode cX12_act 353 = .ok (.getfield 9, 3) := by decide +kernel
theorem dX12_act_356 : decode cX12_act 356 = .ok (.iload_n 3, 1) := by decide +kernel
theorem dX12_act_357 : decode cX12_act 357 = .ok (.aload_n 0, 1) := by decide +kernel
theorem dX12_act_358 : decode cX12_act 358 = .ok (.getfield 203, 3) := by decide +kernel
theorem dX12_act_361 : decode cX12_act 361 = .ok (.aload_n 0, 1) := by decide +kernel
theorem dX12_act_362 : decode cX12_act 362 = .ok (.getfield 206, 3) := by decide +kernel
theorem dX12_act_365 : decode cX12_act 365 = .ok (.invokestatic 341, 3) := by decide +kernel
theorem dX12_act_368 : decode cX12_act 368 = .ok (.iconst 1, 1) := by decide +kernel
theorem dX12_act_369 : decode cX12_act 369 = .ok (.ireturn, 1) := by decide +kernel
theorem dX12_undo_0 : decode cX12_undo 0 = .ok (.aload_n 0, 1) := by decide +kernel
theorem dX12_undo_1 : decode cX12_undo 1 = .ok (.iconst 0, 1) := by decide +kernel
theorem dX12_undo_2 : decode cX12_undo 2 = .ok (.putfield 79, 3) := by decide +kernel
theorem dX12_undo_5 : decode cX12_undo 5 = .ok (.aload_n 0, 1) := by decide +kernel
theorem dX12_undo_6 : decode cX12_undo 6 = .ok (.getfield 239, 3) := by decide +kernel
theorem dX12_undo_9 : decode cX12_undo 9 = .ok (.ifCond .ne 5, 3) := by decide +kernel
theorem dX12_undo_12 : decode cX12_undo 12 = .ok (.iconst (-1), 1) := by decide +kernel
theorem dX12_undo_13 : decode cX12_undo 13 = .ok (.ireturn, 1) := by decide +kernel
theorem dX12_undo_14 : decode cX12_undo 14 = .ok (.aload_n 0, 1) := by decide +kernel
theorem dX12_undo_15 : decode cX12_undo 15 = .ok (.dup, 1) := by decide +kernel
theorem dX12_undo_16 : decode cX12_undo 16 = .ok (.getfield 239, 3) := by decide +kernel
theorem dX12_undo_19 : decode cX12_undo 19 = .ok (.iconst 1, 1) := by decide +kernel
theorem dX12_undo_20 : decode cX12_undo 20 = .ok (.isub, 1) := by decide +kernel
theorem dX12_undo_21 : decode cX12_undo 21 = .ok (.putfield 239, 3) := by decide +kernel
theorem dX12_undo_24 : decode cX12_undo 24 = .ok (.iconst 0, 1) := by decide +kernel
theorem dX12_undo_25 : decode cX12_undo 25 = .ok (.istore_n 1, 1) := by decide +kernel
theorem dX12_undo_26 : decode cX12_undo 26 = .ok (.iload_n 1, 1) := by decide +kernel
theorem dX12_undo_27 : decode cX12_undo 27 = .ok (.bipush 122, 2) := by decide +kernel
theorem dX12_undo_29 : decode cX12_undo 29 = .ok (.if_icmp .ge 29, 3) := by decide +kernel
theorem dX12_undo_32 : decode cX12_undo 32 = .ok (.aload_n 0, 1) := by decide +kernel
theorem dX12_undo_33 : decode cX12_undo 33 = .ok (.getfield 9, 3) := by decide +kernel
theorem dX12_undo_36 : decode cX12_undo 36 = .ok (.iload_n 1, 1) := by decide +kernel
theorem dX12_undo_37 : decode cX12_undo 37 = .ok (.aload_n 0, 1) := by decide +kernel
theorem dX12_undo_38 : decode cX12_undo 38 = .ok (.getfield 33, 3) := by decide +kernel
theorem dX12_undo_41 : decode cX12_undo 41 = .ok (.bipush 122, 2) := by decide +kernel
theorem dX12_undo_43 : decode cX12_undo 43 = .ok (.aload_n 0, 1) := by decide +kernel
theorem dX12_undo_44 : decode cX12_undo 44 = .ok (.getfield 239, 3) := by decide +kernel
theorem dX12_undo_47 : decode cX12_undo 47 = .ok (.imul, 1) := by decide +kernel
theorem dX12_undo_48 : decode cX12_undo 48 = .ok (.iload_n 1, 1) := by decide +kernel
theorem dX12_undo_49 : decode cX12_undo 49 = .ok (.iadd, 1) := by decide +kernel
theorem dX12_undo_50 : decode cX12_undo 50 = .ok (.iaload, 1) := by decide +kernel
theorem dX12_undo_51 : decode cX12_undo 51 = .ok (.iastore, 1) := by decide +kernel
theorem dX12_undo_52 : decode cX12_undo 52 = .ok (.iinc 1 1, 3) := by decide +kernel
theorem dX12_undo_55 : decode cX12_undo 55 = .ok (.goto (-29), 3) := by decide +kernel
theorem dX12_undo_58 : decode cX12_undo 58 = .ok (.aload_n 0, 1) := by decide +kernel
theorem dX12_undo_59 : decode cX12_undo 59 = .ok (.getfield 239, 3) := by decide +kernel
theorem dX12_undo_62 : decode cX12_undo 62 = .ok (.ireturn, 1) := by decide +kernel
theorem dX12_spread_0 : decode cX12_spread 0 = .ok (.aload_n 0, 1) := by decide +kernel
theorem dX12_spread_1 : decode cX12_spread 1 = .ok (.iconst 0, 1) := by decide +kernel
theorem dX12_spread_2 : decode cX12_spread 2 = .ok (.putfield 79, 3) := by decide +kernel
theorem dX12_spread_5 : decode cX12_spread 5 = .ok (.aload_n 0, 1) := by decide +kernel
theorem dX12_spread_6 : decode cX12_spread 6 = .ok (.getfield 9, 3) := by decide +kernel
theorem dX12_spread_9 : decode cX12_spread 9 = .ok (.iload_n 1, 1) := by decide +kernel
theorem dX12_spread_10 : decode cX12_spread 10 = .ok (.invokestatic 90, 3) := by decide +kernel
theorem dX12_spread_13 : decode cX12_spread 13 = .ok (.ifCond .ne 5, 3) := by decide +kernel
theorem dX12_spread_16 : decode cX12_spread 16 = .ok (.iconst (-1), 1) := by decide +kernel
theorem dX12_spread_17 : decode cX12_spread 17 = .ok (.ireturn, 1) := by decide +kernel
theorem dX12_spread_18 : decode cX12_spread 18 = .ok (.aload_n 0, 1) := by decide +kernel
theorem dX12_spread_19 : decode cX12_spread 19 = .ok (.aload_n 0, 1) := by decide +kernel
theorem dX12_spread_20 : decode cX12_spread 20 = .ok (.getfield 9, 3) := by decide +kernel
theorem dX12_spread_23 : decode cX12_spread 23 = .ok (.iload_n 1, 1) := by decide +kernel
theorem dX12_spread_24 : decode cX12_spread 24 = .ok (.invokestatic 246, 3) := by decide +kernel
theorem dX12_spread_27 : decode cX12_spread 27 = .ok (.invokevirtual 354, 3) := by decide +kernel
theorem dX12_spread_30 : decode cX12_spread 30 = .ok (.ireturn, 1) := by decide +kernel
theorem dX12_peers_0 : decode cX12_peers 0 = .ok (.aload_n 0, 1) := by decide +kernel
theorem dX12_peers_1 : decode cX12_peers 1 = .ok (.iconst 0, 1) := by decide +kernel
theorem dX12_peers_2 : decode cX12_peers 2 = .ok (.putfield 79, 3) := by decide +kernel
theorem dX12_peers_5 : decode cX12_peers 5 = .ok (.aload_n 0, 1) := by decide +kernel
theorem dX12_peers_6 : decode cX12_peers 6 = .ok (.getfield 9, 3) := by decide +kernel
theorem dX12_peers_9 : decode cX12_peers 9 = .ok (.iload_n 1, 1) := by decide +kernel
theorem dX12_peers_10 : decode cX12_peers 10 = .ok (.invokestatic 90, 3) := by decide +kernel
theorem dX12_peers_13 : decode cX12_peers 13 = .ok (.ifCond .ne 5, 3) := by decide +kernel
theorem dX12_peers_16 : decode cX12_peers 16 = .ok (.iconst (-1), 1) := by decide +kernel
theorem dX12_peers_17 : decode cX12_peers 17 = .ok (.ireturn, 1) := by decide +kernel
theorem dX12_peers_18 : decode cX12_peers 18 = .ok (.aload_n 0, 1) := by decide +kernel
theorem dX12_peers_19 : decode cX12_peers 19 = .ok (.getfield 9, 3) := by decide +kernel
theorem dX12_peers_22 : decode cX12_peers 22 = .ok (.bipush 48, 2) := by decide +kernel
theorem dX12_peers_24 : decode cX12_peers 24 = .ok (.iload_n 1, 1) := by decide +kernel
theorem dX12_peers_25 : decode cX12_peers 25 = .ok (.iadd, 1) := by decide +kernel
theorem dX12_peers_26 : decode cX12_peers 26 = .ok (.iaload, 1) := by decide +kernel
theorem dX12_peers_27 : decode cX12_peers 27 = .ok (.istore_n 2, 1) := by decide +kernel
theorem dX12_peers_28 : decode cX12_peers 28 = .ok (.iload_n 2, 1) := by decide +kernel
theorem dX12_peers_29 : decode cX12_peers 29 = .ok (.ifCond .ne 9, 3) := by decide +kernel
theorem dX12_peers_32 : decode cX12_peers 32 = .ok (.iconst 1, 1) := by decide +kernel
theorem dX12_peers_33 : decode cX12_peers 33 = .ok (.iload_n 1, 1) := by decide +kernel
theorem dX12_peers_34 : decode cX12_peers 34 = .ok (.ishl, 1) := by decide +kernel
theorem dX12_peers_35 : decode cX12_peers 35 = .ok (.goto 11, 3) := by decide +kernel
theorem dX12_peers_38 : decode cX12_peers 38 = .ok (.aload_n 0, 1) := by decide +kernel
theorem dX12_peers_39 : decode cX12_peers 39 = .ok (.getfield 9, 3) := by decide +kernel
theorem dX12_peers_42 : decode cX12_peers 42 = .ok (.iload_n 2, 1) := by decide +kernel
theorem dX12_peers_43 : decode cX12_peers 43 = .ok (.invokestatic 98, 3) := by decide +kernel
theorem dX12_peers_46 : decode cX12_peers 46 = .ok (.istore_n 3, 1) := by decide +kernel
theorem dX12_peers_47 : decode cX12_peers 47 = .ok (.aload_n 0, 1) := by decide +kernel
theorem dX12_peers_48 : decode cX12_peers 48 = .ok (.iconst 0, 1) := by decide +kernel
theorem dX12_peers_49 : decode cX12_peers 49 = .ok (.putfield 83, 3) := by decide +kernel
theorem dX12_peers_52 : decode cX12_peers 52 = .ok (.aload_n 0, 1) := by decide +kernel
theorem dX12_peers_53 : decode cX12_peers 53 = .ok (.iload_n 3, 1) := by decide +kernel
theorem dX12_peers_54 : decode cX12_peers 54 = .ok (.invokestatic 192, 3) := by decide +kernel
theorem dX12_peers_57 : decode cX12_peers 57 = .ok (.i2l, 1) := by decide +kernel
theorem dX12_peers_58 : decode cX12_peers 58 = .ok (.invokevirtual 228, 3) := by decide +kernel
theorem dX12_peers_61 : decode cX12_peers 61 = .ok (.aload_n 0, 1) := by decide +kernel
theorem dX12_peers_62 : decode cX12_peers 62 = .ok (.iload_n 2, 1) := by decide +kernel
theorem dX12_peers_63 : decode cX12_peers 63 = .ok (.ifCond .ne 7, 3) := by decide +kernel
theorem dX12_peers_66 : decode cX12_peers 66 = .ok (.lconst 0, 1) := by decide +kernel
theorem dX12_peers_67 : decode cX12_peers 67 = .ok (.goto 12, 3) := by decide +kernel
theorem dX12_peers_70 : decode cX12_peers 70 = .ok (.aload_n 0, 1) := by decide +kernel
theorem dX12_peers_71 : decode cX12_peers 71 = .ok (.getfield 9, 3) := by decide +kernel
theorem dX12_peers_74 : decode cX12_peers 74 = .ok (.iload_n 2, 1) := by decide +kernel
theorem dX12_peers_75 : decode cX12_peers 75 = .ok (.invokestatic 102, 3) := by decide +kernel
theorem dX12_peers_78 : decode cX12_peers 78 = .ok (.i2l, 1) := by decide +kernel
theorem dX12_peers_79 : decode cX12_peers 79 = .ok (.invokevirtual 228, 3) := by decide +kernel
theorem dX12_peers_82 : decode cX12_peers 82 = .ok (.iload_n 3, 1) := by decide +kernel
theorem dX12_peers_83 : decode cX12_peers 83 = .ok (.ireturn, 1) := by decide +kernel
theorem dX12_masters_0 : decode cX12_masters 0 = .ok (.aload_n 0, 1) := by decide +kernel
theorem dX12_masters_1 : decode cX12_masters 1 = .ok (.iconst 0, 1) := by decide +kernel
theorem dX12_masters_2 : decode cX12_masters 2 = .ok (.putfield 79, 3) := by decide +kernel
theorem dX12_masters_5 : decode cX12_masters 5 = .ok (.aload_n 0, 1) := by decide +kernel
theorem dX12_masters_6 : decode cX12_masters 6 = .ok (.getfield 9, 3) := by decide +kernel
theorem dX12_masters_9 : decode cX12_masters 9 = .ok (.iload_n 1, 1) := by decide +kernel
theorem dX12_masters_10 : decode cX12_masters 10 = .ok (.invokestatic 90, 3) := by decide +kernel
theorem dX12_masters_13 : decode cX12_masters 13 = .ok (.ifCond .ne 5, 3) := by decide +kernel
theorem dX12_masters_16 : decode cX12_masters 16 = .ok (.iconst (-1), 1) := by decide +kernel
theorem dX12_masters_17 : decode cX12_masters 17 = .ok (.ireturn, 1) := by decide +kernel
theorem dX12_masters_18 : decode cX12_masters 18 = .ok (.aload_n 0, 1) := by decide +kernel
theorem dX12_masters_19 : decode cX12_masters 19 = .ok (.iconst 0, 1) := by decide +kernel
theorem dX12_masters_20 : decode cX12_masters 20 = .ok (.putfield 83, 3) := by decide +kernel
theorem dX12_masters_23 : decode cX12_masters 23 = .ok (.iload_n 1, 1) := by decide +kernel
theorem dX12_masters_24 : decode cX12_masters 24 = .ok (.istore_n 2, 1) := by decide +kernel
theorem dX12_masters_25 : decode cX12_masters 25 = .ok (.iconst 1, 1) := by decide +kernel
theorem dX12_masters_26 : decode cX12_masters 26 = .ok (.istore_n 3, 1) := by decide +kernel
theorem dX12_masters_27 : decode cX12_masters 27 = .ok (.iload_n 3, 1) := by decide +kernel
theorem dX12_masters_28 : decode cX12_masters 28 = .ok (.ifCond .eq 70, 3) := by decide +kernel
theorem dX12_masters_31 : decode cX12_masters 31 = .ok (.aload_n 0, 1) := by decide +kernel
theorem dX12_masters_32 : decode cX12_masters 32 = .ok (.getfield 9, 3) := by decide +kernel
theorem dX12_masters_35 : decode cX12_masters 35 = .ok (.bipush 72, 2) := by decide +kernel
theorem dX12_masters_37 : decode cX12_masters 37 = .ok (.iload_n 2, 1) := by decide +kernel
theorem dX12_masters_38 : decode cX12_masters 38 = .ok (.iadd, 1) := by decide +kernel
theorem dX12_masters_39 : decode cX12_masters 39 = .ok (.iaload, 1) := by decide +kernel
theorem dX12_masters_40 : decode cX12_masters 40 = .ok (.ifCond .ne 7, 3) := by decide +kernel
theorem dX12_masters_43 : decode cX12_masters 43 = .ok (.iconst 0, 1) := by decide +kernel
theorem dX12_masters_44 : decode cX12_masters 44 = .ok (.goto 19, 3) := by decide +kernel
theorem dX12_masters_47 : decode cX12_masters 47 = .ok (.aload_n 0, 1) := by decide +kernel
theorem dX12_masters_48 : decode cX12_masters 48 = .ok (.getfield 9, 3) := by decide +kernel
theorem dX12_masters_51 : decode cX12_masters 51 = .ok (.aload_n 0, 1) := by decide +kernel
theorem dX12_masters_52 : decode cX12_masters 52 = .ok (.getfield 9, 3) := by decide +kernel
theorem dX12_masters_55 : decode cX12_masters 55 = .ok (.bipush 72, 2) := by decide +kernel
theorem dX12_masters_57 : decode cX12_masters 57 = .ok (.iload_n 2, 1) := by decide +kernel
theorem dX12_masters_58 : decode cX12_masters 58 = .ok (.iadd, 1) := by decide +kernel
theorem dX12_masters_59 : decode cX12_masters 59 = .ok (.iaload, 1) := by decide +kernel
theorem dX12_masters_60 : decode cX12_masters 60 = .ok (.invokestatic 98, 3) := by decide +kernel
theorem dX12_masters_63 : decode cX12_masters 63 = .ok (.istore 4, 2) := by decide +kernel
theorem dX12_masters_65 : decode cX12_masters 65 = .ok (.iload 4, 2) := by decide +kernel
theorem dX12_masters_67 : decode cX12_masters 67 = .ok (.ifCond .eq 7, 3) := by decide +kernel
theorem dX12_masters_70 : decode cX12_masters 70 = .ok (.iconst 1, 1) := by decide +kernel
theorem dX12_masters_71 : decode cX12_masters 71 = .ok (.goto 4, 3) := by decide +kernel
theorem dX12_masters_74 : decode cX12_masters 74 = .ok (.iconst 0, 1) := by decide +kernel
theorem dX12_masters_75 : decode cX12_masters 75 = .ok (.istore_n 3, 1) := by decide +kernel
theorem dX12_masters_76 : decode cX12_masters 76 = .ok (.iload_n 3, 1) := by decide +kernel
theorem dX12_masters_77 : decode cX12_masters 77 = .ok (.ifCond .ne 6, 3) := by decide +kernel
theorem dX12_masters_80 : decode cX12_masters 80 = .ok (.goto (-53), 3) := by decide +kernel
theorem dX12_masters_83 : decode cX12_masters 83 = .ok (.iload 4, 2) := by decide +kernel
theorem dX12_masters_85 : decode cX12_masters 85 = .ok (.invokestatic 357, 3) := by decide +kernel
theorem dX12_masters_88 : decode cX12_masters 88 = .ok (.istore_n 2, 1) := by decide +kernel
theorem dX12_masters_89 : decode cX12_masters 89 = .ok (.aload_n 0, 1) := by decide +kernel
theorem dX12_masters_90 : decode cX12_masters 90 = .ok (.iload_n 2, 1) := by decide +kernel
theorem dX12_masters_91 : decode cX12_masters 91 = .ok (.i2l, 1) := by decide +kernel
theorem dX12_masters_92 : decode cX12_masters 92 = .ok (.invokevirtual 228, 3) := by decide +kernel
theorem dX12_masters_95 : decode cX12_masters 95 = .ok (.goto (-68), 3) := by decide +kernel
theorem dX12_masters_98 : decode cX12_masters 98 = .ok (.aload_n 0, 1) := by decide +kernel
theorem dX12_masters_99 : decode cX12_masters 99 = .ok (.getfield 83, 3) := by decide +kernel
theorem dX12_masters_102 : decode cX12_masters 102 = .ok (.ireturn, 1) := by decide +kernel
theorem dX12_isLeast_0 : decode cX12_isLeast 0 = .ok (.aload_n 0, 1) := by decide +kernel
theorem dX12_isLeast_1 : decode cX12_isLeast 1 = .ok (.bipush 48, 2) := by decide +kernel
theorem dX12_isLeast_3 : decode cX12_isLeast 3 = .ok (.iload_n 1, 1) := by decide +kernel
theorem dX12_isLeast_4 : decode cX12_isLeast 4 = .ok (.iadd, 1) := by decide +kernel
theorem dX12_isLeast_5 : decode cX12_isLeast 5 = .ok (.iaload, 1) := by decide +kernel
theorem dX12_isLeast_6 : decode cX12_isLeast 6 = .ok (.istore_n 2, 1) := by decide +kernel
theorem dX12_isLeast_7 : decode cX12_isLeast 7 = .ok (.aload_n 0, 1) := by decide +kernel
theorem dX12_isLeast_8 : decode cX12_isLeast 8 = .ok (.iload_n 1, 1) := by decide +kernel
theorem dX12_isLeast_9 : decode cX12_isLeast 9 = .ok (.invokestatic 90, 3) := by decide +kernel
theorem dX12_isLeast_12 : decode cX12_isLeast 12 = .ok (.ifCond .eq 23, 3) := by decide +kernel
theorem dX12_isLeast_15 : decode cX12_isLeast 15 = .ok (.iload_n 2, 1) := by decide +kernel
theorem dX12_isLeast_16 : decode cX12_isLeast 16 = .ok (.ifCond .eq 19, 3) := by decide +kernel
theorem dX12_isLeast_19 : decode cX12_isLeast 19 = .ok (.aload_n 0, 1) := by decide +kernel
theorem dX12_isLeast_20 : decode cX12_isLeast 20 = .ok (.iload_n 2, 1) := by decide +kernel
theorem dX12_isLeast_21 : decode cX12_isLeast 21 = .ok (.invokestatic 98, 3) := by decide +kernel
theorem dX12_isLeast_24 : decode cX12_isLeast 24 = .ok (.invokestatic 357, 3) := by decide +kernel
theorem dX12_isLeast_27 : decode cX12_isLeast 27 = .ok (.iload_n 1, 1) := by decide +kernel
theorem dX12_isLeast_28 : decode cX12_isLeast 28 = .ok (.if_icmp .ne 7, 3) := by decide +kernel
theorem dX12_isLeast_31 : decode cX12_isLeast 31 = .ok (.iconst 1, 1) := by decide +kernel
theorem dX12_isLeast_32 : decode cX12_isLeast 32 = .ok (.goto 4, 3) := by decide +kernel
theorem dX12_isLeast_35 : decode cX12_isLeast 35 = .ok (.iconst 0, 1) := by decide +kernel
theorem dX12_isLeast_36 : decode cX12_isLeast 36 = .ok (.ireturn, 1) := by decide +kernel
theorem dX12_groupsOf_0 : decode cX12_groupsOf 0 = .ok (.iconst 0, 1) := by decide +kernel
theorem dX12_groupsOf_1 : decode cX12_groupsOf 1 = .ok (.istore_n 1, 1) := by decide +kernel
theorem dX12_groupsOf_2 : decode cX12_groupsOf 2 = .ok (.iconst 0, 1) := by decide +kernel
theorem dX12_groupsOf_3 : decode cX12_groupsOf 3 = .ok (.istore_n 2, 1) := by decide +kernel
theorem dX12_groupsOf_4 : decode cX12_groupsOf 4 = .ok (.iload_n 2, 1) := by decide +kernel
theorem dX12_groupsOf_5 : decode cX12_groupsOf 5 = .ok (.bipush 24, 2) := by decide +kernel
theorem dX12_groupsOf_7 : decode cX12_groupsOf 7 = .ok (.if_icmp .ge 25, 3) := by decide +kernel
theorem dX12_groupsOf_10 : decode cX12_groupsOf 10 = .ok (.iload_n 1, 1) := by decide +kernel
theorem dX12_groupsOf_11 : decode cX12_groupsOf 11 = .ok (.aload_n 0, 1) := by decide +kernel
theorem dX12_groupsOf_12 : decode cX12_groupsOf 12 = .ok (.iload_n 2, 1) := by decide +kernel
theorem dX12_groupsOf_13 : decode cX12_groupsOf 13 = .ok (.invokestatic 360, 3) := by decide +kernel
theorem dX12_groupsOf_16 : decode cX12_groupsOf 16 = .ok (.ifCond .eq 7, 3) := by decide +kernel
theorem dX12_groupsOf_19 : decode cX12_groupsOf 19 = .ok (.iconst 1, 1) := by decide +kernel
theorem dX12_groupsOf_20 : decode cX12_groupsOf 20 = .ok (.goto 4, 3) := by decide +kernel
theorem dX12_groupsOf_23 : decode cX12_groupsOf 23 = .ok (.iconst 0, 1) := by decide +kernel
theorem dX12_groupsOf_24 : decode cX12_groupsOf 24 = .ok (.iadd, 1) := by decide +kernel
theorem dX12_groupsOf_25 : decode cX12_groupsOf 25 = .ok (.istore_n 1, 1) := by decide +kernel
theorem dX12_groupsOf_26 : decode cX12_groupsOf 26 = .ok (.iinc 2 1, 3) := by decide +kernel
theorem dX12_groupsOf_29 : decode cX12_groupsOf 29 = .ok (.goto (-25), 3) := by decide +kernel
theorem dX12_groupsOf_32 : decode cX12_groupsOf 32 = .ok (.iload_n 1, 1) := by decide +kernel
theorem dX12_groupsOf_33 : decode cX12_groupsOf 33 = .ok (.ireturn, 1) := by decide +kernel
theorem dX12_groups_0 : decode cX12_groups 0 = .ok (.aload_n 0, 1) := by decide +kernel
theorem dX12_groups_1 : decode cX12_groups 1 = .ok (.iconst 0, 1) := by decide +kernel
theorem dX12_groups_2 : decode cX12_groups 2 = .ok (.putfield 79, 3) := by decide +kernel
theorem dX12_groups_5 : decode cX12_groups 5 = .ok (.iconst (-1), 1) := by decide +kernel
theorem dX12_groups_6 : decode cX12_groups 6 = .ok (.istore_n 1, 1) := by decide +kernel
theorem dX12_groups_7 : decode cX12_groups 7 = .ok (.iconst 0, 1) := by decide +kernel
theorem dX12_groups_8 : decode cX12_groups 8 = .ok (.istore_n 2, 1) := by decide +kernel
theorem dX12_groups_9 : decode cX12_groups 9 = .ok (.iconst 0, 1) := by decide +kernel
theorem dX12_groups_10 : decode cX12_groups 10 = .ok (.istore_n 3, 1) := by decide +kernel
theorem dX12_groups_11 : decode cX12_groups 11 = .ok (.iload_n 3, 1) := by decide +kernel
theorem dX12_groups_12 : decode cX12_groups 12 = .ok (.bipush 24, 2) := by decide +kernel
theorem dX12_groups_14 : decode cX12_groups 14 = .ok (.if_icmp .ge 58, 3) := by decide +kernel
theorem dX12_groups_17 : decode cX12_groups 17 = .ok (.aload_n 0, 1) := by decide +kernel
theorem dX12_groups_18 : decode cX12_groups 18 = .ok (.getfield 9, 3) := by decide +kernel
theorem dX12_groups_21 : decode cX12_groups 21 = .ok (.iload_n 3, 1) := by decide +kernel
theorem dX12_groups_22 : decode cX12_groups 22 = .ok (.invokestatic 360, 3) := by decide +kernel
theorem dX12_groups_25 : decode cX12_groups 25 = .ok (.ifCond .ne 6, 3) := by decide +kernel
theorem dX12_groups_28 : decode cX12_groups 28 = .ok (.goto 38, 3) := by decide +kernel
theorem dX12_groups_31 : decode cX12_groups 31 = .ok (.aload_n 0, 1) := by decide +kernel
theorem dX12_groups_32 : decode cX12_groups 32 = .ok (.getfield 9, 3) := by decide +kernel
theorem dX12_groups_35 : decode cX12_groups 35 = .ok (.aload_n 0, 1) := by decide +kernel
theorem dX12_groups_36 : decode cX12_groups 36 = .ok (.getfield 9, 3) := by decide +kernel
theorem dX12_groups_39 : decode cX12_groups 39 = .ok (.bipush 48, 2) := by decide +kernel
theorem dX12_groups_41 : decode cX12_groups 41 = .ok (.iload_n 3, 1) := by decide +kernel
theorem dX12_groups_42 : decode cX12_groups 42 = .ok (.iadd, 1) := by decide +kernel
theorem dX12_groups_43 : decode cX12_groups 43 = .ok (.iaload, 1) := by decide +kernel
theorem dX12_groups_44 : decode cX12_groups 44 = .ok (.invokestatic 98, 3) := by decide +kernel
theorem dX12_groups_47 : decode cX12_groups 47 = .ok (.invokestatic 192, 3) := by decide +kernel
theorem dX12_groups_50 : decode cX12_groups 50 = .ok (.istore 4, 2) := by decide +kernel
theorem dX12_groups_52 : decode cX12_groups 52 = .ok (.iload 4, 2) := by decide +kernel
theorem dX12_groups_54 : decode cX12_groups 54 = .ok (.iload_n 2, 1) := by decide +kernel
theorem dX12_groups_55 : decode cX12_groups 55 = .ok (.if_icmp .gt 6, 3) := by decide +kernel
theorem dX12_groups_58 : decode cX12_groups 58 = .ok (.goto 8, 3) := by decide +kernel
theorem dX12_groups_61 : decode cX12_groups 61 = .ok (.iload_n 3, 1) := by decide +kernel
theorem dX12_groups_62 : decode cX12_groups 62 = .ok (.istore_n 1, 1) := by decide +kernel
theorem dX12_groups_63 : decode cX12_groups 63 = .ok (.iload 4, 2) := by decide +kernel
theorem dX12_groups_65 : decode cX12_groups 65 = .ok (.istore_n 2, 1) := by decide +kernel
theorem dX12_groups_66 : decode cX12_groups 66 = .ok (.iinc 3 1, 3) := by decide +kernel
theorem dX12_groups_69 : decode cX12_groups 69 = .ok (.goto (-58), 3) := by decide +kernel
theorem dX12_groups_72 : decode cX12_groups 72 = .ok (.aload_n 0, 1) := by decide +kernel
theorem dX12_groups_73 : decode cX12_groups 73 = .ok (.iconst 0, 1) := by decide +kernel
theorem dX12_groups_74 : decode cX12_groups 74 = .ok (.putfield 83, 3) := by decide +kernel
theorem dX12_groups_77 : decode cX12_groups 77 = .ok (.iload_n 1, 1) := by decide +kernel
theorem dX12_groups_78 : decode cX12_groups 78 = .ok (.iconst (-1), 1) := by decide +kernel
theorem dX12_groups_79 : decode cX12_groups 79 = .ok (.if_icmp .eq 15, 3) := by decide +kernel
theorem dX12_groups_82 : decode cX12_groups 82 = .ok (.aload_n 0, 1) := by decide +kernel
theorem dX12_groups_83 : decode cX12_groups 83 = .ok (.iload_n 2, 1) := by decide +kernel
theorem dX12_groups_84 : decode cX12_groups 84 = .ok (.i2l, 1) := by decide +kernel
theorem dX12_groups_85 : decode cX12_groups 85 = .ok (.invokevirtual 228, 3) := by decide +kernel
theorem dX12_groups_88 : decode cX12_groups 88 = .ok (.aload_n 0, 1) := by decide +kernel
theorem dX12_groups_89 : decode cX12_groups 89 = .ok (.iload_n 1, 1) := by decide +kernel
theorem dX12_groups_90 : decode cX12_groups 90 = .ok (.i2l, 1) := by decide +kernel
theorem dX12_groups_91 : decode cX12_groups 91 = .ok (.invokevirtual 228, 3) := by decide +kernel
theorem dX12_groups_94 : decode cX12_groups 94 = .ok (.aload_n 0, 1) := by decide +kernel
theorem dX12_groups_95 : decode cX12_groups 95 = .ok (.getfield 9, 3) := by decide +kernel
theorem dX12_groups_98 : decode cX12_groups 98 = .ok (.invokestatic 363, 3) := by decide +kernel
theorem dX12_groups_101 : decode cX12_groups 101 = .ok (.ireturn, 1) := by decide +kernel
theorem dX12_keepers_0 : decode cX12_keepers 0 = .ok (.aload_n 0, 1) := by decide +kernel
theorem dX12_keepers_1 : decode cX12_keepers 1 = .ok (.iconst 0, 1) := by decide +kernel
theorem dX12_keepers_2 : decode cX12_keepers 2 = .ok (.putfield 79, 3) := by decide +kernel
theorem dX12_keepers_5 : decode cX12_keepers 5 = .ok (.aload_n 0, 1) := by decide +kernel
theorem dX12_keepers_6 : decode cX12_keepers 6 = .ok (.getfield 9, 3) := by decide +kernel
theorem dX12_keepers_9 : decode cX12_keepers 9 = .ok (.iload_n 1, 1) := by decide +kernel
theorem dX12_keepers_10 : decode cX12_keepers 10 = .ok (.invokestatic 90, 3) := by decide +kernel
theorem dX12_keepers_13 : decode cX12_keepers 13 = .ok (.ifCond .eq 14, 3) := by decide +kernel
theorem dX12_keepers_16 : decode cX12_keepers 16 = .ok (.aload_n 0, 1) := by decide +kernel
theorem dX12_keepers_17 : decode cX12_keepers 17 = .ok (.getfield 9, 3) := by decide +kernel
theorem dX12_keepers_20 : decode cX12_keepers 20 = .ok (.iload_n 2, 1) := by decide +kernel
theorem dX12_keepers_21 : decode cX12_keepers 21 = .ok (.invokestatic 90, 3) := by decide +kernel
theorem dX12_keepers_24 : decode cX12_keepers 24 = .ok (.ifCond .ne 5, 3) := by decide +kernel
theorem dX12_keepers_27 : decode cX12_keepers 27 = .ok (.iconst (-1), 1) := by decide +kernel
theorem dX12_keepers_28 : decode cX12_keepers 28 = .ok (.ireturn, 1) := by decide +kernel
theorem dX12_keepers_29 : decode cX12_keepers 29 = .ok (.iload_n 1, 1) := by decide +kernel
theorem dX12_keepers_30 : decode cX12_keepers 30 = .ok (.iload_n 2, 1) := by decide +kernel
theorem dX12_keepers_31 : decode cX12_keepers 31 = .ok (.if_icmp .eq 18, 3) := by decide +kernel
theorem dX12_keepers_34 : decode cX12_keepers 34 = .ok (.aload_n 0, 1) := by decide +kernel
theorem dX12_keepers_35 : decode cX12_keepers 35 = .ok (.getfield 9, 3) := by decide +kernel
theorem dX12_keepers_38 : decode cX12_keepers 38 = .ok (.iload_n 1, 1) := by decide +kernel
theorem dX12_keepers_39 : decode cX12_keepers 39 = .ok (.invokestatic 246, 3) := by decide +kernel
theorem dX12_keepers_42 : decode cX12_keepers 42 = .ok (.iload_n 2, 1) := by decide +kernel
theorem dX12_keepers_43 : decode cX12_keepers 43 = .ok (.invokestatic 94, 3) := by decide +kernel
theorem dX12_keepers_46 : decode cX12_keepers 46 = .ok (.ifCond .ne 6, 3) := by decide +kernel
theorem dX12_keepers_49 : decode cX12_keepers 49 = .ok (.bipush (-2), 2) := by decide +kernel
theorem dX12_keepers_51 : decode cX12_keepers 51 = .ok (.ireturn, 1) := by decide +kernel
theorem dX12_keepers_52 : decode cX12_keepers 52 = .ok (.iconst 0, 1) := by decide +kernel
theorem dX12_keepers_53 : decode cX12_keepers 53 = .ok (.istore_n 3, 1) := by decide +kernel
theorem dX12_keepers_54 : decode cX12_keepers 54 = .ok (.iconst 0, 1) := by decide +kernel
theorem dX12_keepers_55 : decode cX12_keepers 55 = .ok (.istore 4, 2) := by decide +kernel
theorem dX12_keepers_57 : decode cX12_keepers 57 = .ok (.iload 4, 2) := by decide +kernel
theorem dX12_keepers_59 : decode cX12_keepers 59 = .ok (.bipush 24, 2) := by decide +kernel
theorem dX12_keepers_61 : decode cX12_keepers 61 = .ok (.if_icmp .ge 84, 3) := by decide +kernel
theorem dX12_keepers_64 : decode cX12_keepers 64 = .ok (.aload_n 0, 1) := by decide +kernel
theorem dX12_keepers_65 : decode cX12_keepers 65 = .ok (.getfield 9, 3) := by decide +kernel
theorem dX12_keepers_68 : decode cX12_keepers 68 = .ok (.iload 4, 2) := by decide +kernel
theorem dX12_keepers_70 : decode cX12_keepers 70 = .ok (.invokestatic 90, 3) := by decide +kernel
theorem dX12_keepers_73 : decode cX12_keepers 73 = .ok (.ifCond .eq 66, 3) := by decide +kernel
theorem dX12_keepers_76 : decode cX12_keepers 76 = .ok (.iload 4, 2) := by decide +kernel
theorem dX12_keepers_78 : decode cX12_keepers 78 = .ok (.iload_n 1, 1) := by decide +kernel
theorem dX12_keepers_79 : decode cX12_keepers 79 = .ok (.if_icmp .eq 60, 3) := by decide +kernel
theorem dX12_keepers_82 : decode cX12_keepers 82 = .ok (.iload 4, 2) := by decide +kernel
theorem dX12_keepers_84 : decode cX12_keepers 84 = .ok (.iload_n 2, 1) := by decide +kernel
theorem dX12_keepers_85 : decode cX12_keepers 85 = .ok (.if_icmp .ne 6, 3) := by decide +kernel
theorem dX12_keepers_88 : decode cX12_keepers 88 = .ok (.goto 51, 3) := by decide +kernel
theorem dX12_keepers_91 : decode cX12_keepers 91 = .ok (.aload_n 0, 1) := by decide +kernel
theorem dX12_keepers_92 : decode cX12_keepers 92 = .ok (.getfield 9, 3) := by decide +kernel
theorem dX12_keepers_95 : decode cX12_keepers 95 = .ok (.aload_n 0, 1) := by decide +kernel
theorem dX12_keepers_96 : decode cX12_keepers 96 = .ok (.getfield 39, 3) := by decide +kernel
theorem dX12_keepers_99 : decode cX12_keepers 99 = .ok (.iconst 0, 1) := by decide +kernel
theorem dX12_keepers_100 : decode cX12_keepers 100 = .ok (.invokestatic 242, 3) := by decide +kernel
theorem dX12_keepers_103 : decode cX12_keepers 103 = .ok (.aload_n 0, 1) := by decide +kernel
theorem dX12_keepers_104 : decode cX12_keepers 104 = .ok (.getfield 39, 3) := by decide +kernel
theorem dX12_keepers_107 : decode cX12_keepers 107 = .ok (.iload 4, 2) := by decide +kernel
theorem dX12_keepers_109 : decode cX12_keepers 109 = .ok (.iconst 0, 1) := by decide +kernel
theorem dX12_keepers_110 : decode cX12_keepers 110 = .ok (.invokestatic 320, 3) := by decide +kernel
theorem dX12_keepers_113 : decode cX12_keepers 113 = .ok (.iload_n 3, 1) := by decide +kernel
theorem dX12_keepers_114 : decode cX12_keepers 114 = .ok (.aload_n 0, 1) := by decide +kernel
theorem dX12_keepers_115 : decode cX12_keepers 115 = .ok (.getfield 39, 3) := by decide +kernel
theorem dX12_keepers_118 : decode cX12_keepers 118 = .ok (.iload_n 1, 1) := by decide +kernel
theorem dX12_keepers_119 : decode cX12_keepers 119 = .ok (.invokestatic 246, 3) := by decide +kernel
theorem dX12_keepers_122 : decode cX12_keepers 122 = .ok (.iload_n 2, 1) := by decide +kernel
theorem dX12_keepers_123 : decode cX12_keepers 123 = .ok (.invokestatic 94, 3) := by decide +kernel
theorem dX12_keepers_126 : decode cX12_keepers 126 = .ok (.ifCond .eq 7, 3) := by decide +kernel
theorem dX12_keepers_129 : decode cX12_keepers 129 = .ok (.iconst 0, 1) := by decide +kernel
theorem dX12_keepers_130 : decode cX12_keepers 130 = .ok (.goto 7, 3) := by decide +kernel
theorem dX12_keepers_133 : decode cX12_keepers 133 = .ok (.iconst 1, 1) := by decide +kernel
theorem dX12_keepers_134 : decode cX12_keepers 134 = .ok (.iload 4, 2) := by decide +kernel
theorem dX12_keepers_136 : decode cX12_keepers 136 = .ok (.ishl, 1) := by decide +kernel
theorem dX12_keepers_137 : decode cX12_keepers 137 = .ok (.ior, 1) := by decide +kernel
theorem dX12_keepers_138 : decode cX12_keepers 138 = .ok (.istore_n 3, 1) := by decide +kernel
theorem dX12_keepers_139 : decode cX12_keepers 139 = .ok (.iinc 4 1, 3) := by decide +kernel
theorem dX12_keepers_142 : decode cX12_keepers 142 = .ok (.goto (-85), 3) := by decide +kernel
theorem dX12_keepers_145 : decode cX12_keepers 145 = .ok (.aload_n 0, 1) := by decide +kernel
theorem dX12_keepers_146 : decode cX12_keepers 146 = .ok (.iload_n 3, 1) := by decide +kernel
theorem dX12_keepers_147 : decode cX12_keepers 147 = .ok (.invokevirtual 354, 3) := by decide +kernel
theorem dX12_keepers_150 : decode cX12_keepers 150 = .ok (.ireturn, 1) := by decide +kernel
theorem dX12_insideOf_0 : decode cX12_insideOf 0 = .ok (.iconst 0, 1) := by decide +kernel
theorem dX12_insideOf_1 : decode cX12_insideOf 1 = .ok (.istore_n 2, 1) := by decide +kernel
theorem dX12_insideOf_2 : decode cX12_insideOf 2 = .ok (.iconst 0, 1) := by decide +kernel
theorem dX12_insideOf_3 : decode cX12_insideOf 3 = .ok (.istore_n 3, 1) := by decide +kernel
theorem dX12_insideOf_4 : decode cX12_insideOf 4 = .ok (.iload_n 3, 1) := by decide +kernel
theorem dX12_insideOf_5 : decode cX12_insideOf 5 = .ok (.bipush 24, 2) := by decide +kernel
theorem dX12_insideOf_7 : decode cX12_insideOf 7 = .ok (.if_icmp .ge 41, 3) := by decide +kernel
theorem dX12_insideOf_10 : decode cX12_insideOf 10 = .ok (.iload_n 2, 1) := by decide +kernel
theorem dX12_insideOf_11 : decode cX12_insideOf 11 = .ok (.aload_n 0, 1) := by decide +kernel
theorem dX12_insideOf_12 : decode cX12_insideOf 12 = .ok (.iload_n 3, 1) := by decide +kernel
theorem dX12_insideOf_13 : decode cX12_insideOf 13 = .ok (.invokestatic 90, 3) := by decide +kernel
theorem dX12_insideOf_16 : decode cX12_insideOf 16 = .ok (.ifCond .eq 23, 3) := by decide +kernel
theorem dX12_insideOf_19 : decode cX12_insideOf 19 = .ok (.iload_n 3, 1) := by decide +kernel
theorem dX12_insideOf_20 : decode cX12_insideOf 20 = .ok (.iload_n 1, 1) := by decide +kernel
theorem dX12_insideOf_21 : decode cX12_insideOf 21 = .ok (.if_icmp .eq 18, 3) := by decide +kernel
theorem dX12_insideOf_24 : decode cX12_insideOf 24 = .ok (.aload_n 0, 1) := by decide +kernel
theorem dX12_insideOf_25 : decode cX12_insideOf 25 = .ok (.iload_n 3, 1) := by decide +kernel
theorem dX12_insideOf_26 : decode cX12_insideOf 26 = .ok (.iload_n 1, 1) := by decide +kernel
theorem dX12_insideOf_27 : decode cX12_insideOf 27 = .ok (.invokestatic 335, 3) := by decide +kernel
theorem dX12_insideOf_30 : decode cX12_insideOf 30 = .ok (.ifCond .eq 9, 3) := by decide +kernel
theorem dX12_insideOf_33 : decode cX12_insideOf 33 = .ok (.iconst 1, 1) := by decide +kernel
theorem dX12_insideOf_34 : decode cX12_insideOf 34 = .ok (.iload_n 3, 1) := by decide +kernel
theorem dX12_insideOf_35 : decode cX12_insideOf 35 = .ok (.ishl, 1) := by decide +kernel
theorem dX12_insideOf_36 : decode cX12_insideOf 36 = .ok (.goto 4, 3) := by decide +kernel
theorem dX12_insideOf_39 : decode cX12_insideOf 39 = .ok (.iconst 0, 1) := by decide +kernel
theorem dX12_insideOf_40 : decode cX12_insideOf 40 = .ok (.ior, 1) := by decide +kernel
theorem dX12_insideOf_41 : decode cX12_insideOf 41 = .ok (.istore_n 2, 1) := by decide +kernel
theorem dX12_insideOf_42 : decode cX12_insideOf 42 = .ok (.iinc 3 1, 3) := by decide +kernel
theorem dX12_insideOf_45 : decode cX12_insideOf 45 = .ok (.goto (-41), 3) := by decide +kernel
theorem dX12_insideOf_48 : decode cX12_insideOf 48 = .ok (.iload_n 2, 1) := by decide +kernel
theorem dX12_insideOf_49 : decode cX12_insideOf 49 = .ok (.ireturn, 1) := by decide +kernel
theorem dX12_inside_0 : decode cX12_inside 0 = .ok (.aload_n 0, 1) := by decide +kernel
theorem dX12_inside_1 : decode cX12_inside 1 = .ok (.iconst 0, 1) := by decide +kernel
theorem dX12_inside_2 : decode cX12_inside 2 = .ok (.putfield 79, 3) := by decide +kernel
theorem dX12_inside_5 : decode cX12_inside 5 = .ok (.aload_n 0, 1) := by decide +kernel
theorem dX12_inside_6 : decode cX12_inside 6 = .ok (.getfield 9, 3) := by decide +kernel
theorem dX12_inside_9 : decode cX12_inside 9 = .ok (.iload_n 1, 1) := by decide +kernel
theorem dX12_inside_10 : decode cX12_inside 10 = .ok (.invokestatic 90, 3) := by decide +kernel
theorem dX12_inside_13 : decode cX12_inside 13 = .ok (.ifCond .ne 5, 3) := by decide +kernel
theorem dX12_inside_16 : decode cX12_inside 16 = .ok (.iconst (-1), 1) := by decide +kernel
theorem dX12_inside_17 : decode cX12_inside 17 = .ok (.ireturn, 1) := by decide +kernel
theorem dX12_inside_18 : decode cX12_inside 18 = .ok (.aload_n 0, 1) := by decide +kernel
theorem dX12_inside_19 : decode cX12_inside 19 = .ok (.getfield 9, 3) := by decide +kernel
theorem dX12_inside_22 : decode cX12_inside 22 = .ok (.iload_n 1, 1) := by decide +kernel
theorem dX12_inside_23 : decode cX12_inside 23 = .ok (.invokestatic 366, 3) := by decide +kernel
theorem dX12_inside_26 : decode cX12_inside 26 = .ok (.istore_n 2, 1) := by decide +kernel
theorem dX12_inside_27 : decode cX12_inside 27 = .ok (.iconst 0, 1) := by decide +kernel
theorem dX12_inside_28 : decode cX12_inside 28 = .ok (.istore_n 3, 1) := by decide +kernel
theorem dX12_inside_29 : decode cX12_inside 29 = .ok (.iconst 0, 1) := by decide +kernel
theorem dX12_inside_30 : decode cX12_inside 30 = .ok (.istore 4, 2) := by decide +kernel
theorem dX12_inside_32 : decode cX12_inside 32 = .ok (.iload 4, 2) := by decide +kernel
theorem dX12_inside_34 : decode cX12_inside 34 = .ok (.bipush 24, 2) := by decide +kernel
theorem dX12_inside_36 : decode cX12_inside 36 = .ok (.if_icmp .ge 45, 3) := by decide +kernel
theorem dX12_inside_39 : decode cX12_inside 39 = .ok (.iload_n 2, 1) := by decide +kernel
theorem dX12_inside_40 : decode cX12_inside 40 = .ok (.iload 4, 2) := by decide +kernel
theorem dX12_inside_42 : decode cX12_inside 42 = .ok (.invokestatic 94, 3) := by decide +kernel
theorem dX12_inside_45 : decode cX12_inside 45 = .ok (.ifCond .eq 28, 3) := by decide +kernel
theorem dX12_inside_48 : decode cX12_inside 48 = .ok (.iload_n 3, 1) := by decide +kernel
theorem dX12_inside_49 : decode cX12_inside 49 = .ok (.aload_n 0, 1) := by decide +kernel
theorem dX12_inside_50 : decode cX12_inside 50 = .ok (.getfield 9, 3) := by decide +kernel
theorem dX12_inside_53 : decode cX12_inside 53 = .ok (.iload 4, 2) := by decide +kernel
theorem dX12_inside_55 : decode cX12_inside 55 = .ok (.invokestatic 186, 3) := by decide +kernel
theorem dX12_inside_58 : decode cX12_inside 58 = .ok (.aload_n 0, 1) := by decide +kernel
theorem dX12_inside_59 : decode cX12_inside 59 = .ok (.getfield 9, 3) := by decide +kernel
theorem dX12_inside_62 : decode cX12_inside 62 = .ok (.iload_n 1, 1) := by decide +kernel
theorem dX12_inside_63 : decode cX12_inside 63 = .ok (.invokestatic 186, 3) := by decide +kernel
theorem dX12_inside_66 : decode cX12_inside 66 = .ok (.isub, 1) := by decide +kernel
theorem dX12_inside_67 : decode cX12_inside 67 = .ok (.invokestatic 369, 3) := by decide +kernel
theorem dX12_inside_70 : decode cX12_inside 70 = .ok (.goto 4, 3) := by decide +kernel
theorem dX12_inside_73 : decode cX12_inside 73 = .ok (.iload_n 3, 1) := by decide +kernel
theorem dX12_inside_74 : decode cX12_inside 74 = .ok (.istore_n 3, 1) := by decide +kernel
theorem dX12_inside_75 : decode cX12_inside 75 = .ok (.iinc 4 1, 3) := by decide +kernel
theorem dX12_inside_78 : decode cX12_inside 78 = .ok (.goto (-46), 3) := by decide +kernel
theorem dX12_inside_81 : decode cX12_inside 81 = .ok (.aload_n 0, 1) := by decide +kernel
theorem dX12_inside_82 : decode cX12_inside 82 = .ok (.iload_n 2, 1) := by decide +kernel
theorem dX12_inside_83 : decode cX12_inside 83 = .ok (.invokevirtual 354, 3) := by decide +kernel
theorem dX12_inside_86 : decode cX12_inside 86 = .ok (.pop, 1) := by decide +kernel
theorem dX12_inside_87 : decode cX12_inside 87 = .ok (.aload_n 0, 1) := by decide +kernel
theorem dX12_inside_88 : decode cX12_inside 88 = .ok (.iload_n 3, 1) := by decide +kernel
theorem dX12_inside_89 : decode cX12_inside 89 = .ok (.i2l, 1) := by decide +kernel
theorem dX12_inside_90 : decode cX12_inside 90 = .ok (.invokevirtual 228, 3) := by decide +kernel
theorem dX12_inside_93 : decode cX12_inside 93 = .ok (.iload_n 2, 1) := by decide +kernel
theorem dX12_inside_94 : decode cX12_inside 94 = .ok (.ireturn, 1) := by decide +kernel
theorem dX12_path_0 : decode cX12_path 0 = .ok (.aload_n 0, 1) := by decide +kernel
theorem dX12_path_1 : decode cX12_path 1 = .ok (.iconst 0, 1) := by decide +kernel
theorem dX12_path_2 : decode cX12_path 2 = .ok (.putfield 79, 3) := by decide +kernel
theorem dX12_path_5 : decode cX12_path 5 = .ok (.aload_n 0, 1) := by decide +kernel
theorem dX12_path_6 : decode cX12_path 6 = .ok (.getfield 9, 3) := by decide +kernel
theorem dX12_path_9 : decode cX12_path 9 = .ok (.iload_n 1, 1) := by decide +kernel
theorem dX12_path_10 : decode cX12_path 10 = .ok (.invokestatic 90, 3) := by decide +kernel
theorem dX12_path_13 : decode cX12_path 13 = .ok (.ifCond .ne 5, 3) := by decide +kernel
theorem dX12_path_16 : decode cX12_path 16 = .ok (.iconst (-1), 1) := by decide +kernel
theorem dX12_path_17 : decode cX12_path 17 = .ok (.ireturn, 1) := by decide +kernel
theorem dX12_path_18 : decode cX12_path 18 = .ok (.aload_n 0, 1) := by decide +kernel
theorem dX12_path_19 : decode cX12_path 19 = .ok (.getfield 9, 3) := by decide +kernel
theorem dX12_path_22 : decode cX12_path 22 = .ok (.iload_n 1, 1) := by decide +kernel
theorem dX12_path_23 : decode cX12_path 23 = .ok (.invokestatic 186, 3) := by decide +kernel
theorem dX12_path_26 : decode cX12_path 26 = .ok (.istore_n 2, 1) := by decide +kernel
theorem dX12_path_27 : decode cX12_path 27 = .ok (.aload_n 0, 1) := by decide +kernel
theorem dX12_path_28 : decode cX12_path 28 = .ok (.iload_n 2, 1) := by decide +kernel
theorem dX12_path_29 : decode cX12_path 29 = .ok (.putfield 83, 3) := by decide +kernel
theorem dX12_path_32 : decode cX12_path 32 = .ok (.iload_n 1, 1) := by decide +kernel
theorem dX12_path_33 : decode cX12_path 33 = .ok (.istore_n 3, 1) := by decide +kernel
theorem dX12_path_34 : decode cX12_path 34 = .ok (.iload_n 2, 1) := by decide +kernel
theorem dX12_path_35 : decode cX12_path 35 = .ok (.iconst 1, 1) := by decide +kernel
theorem dX12_path_36 : decode cX12_path 36 = .ok (.isub, 1) := by decide +kernel
theorem dX12_path_37 : decode cX12_path 37 = .ok (.istore 4, 2) := by decide +kernel
theorem dX12_path_39 : decode cX12_path 39 = .ok (.iload 4, 2) := by decide +kernel
theorem dX12_path_41 : decode cX12_path 41 = .ok (.ifCond .lt 33, 3) := by decide +kernel
theorem dX12_path_44 : decode cX12_path 44 = .ok (.aload_n 0, 1) := by decide +kernel
theorem dX12_path_45 : decode cX12_path 45 = .ok (.getfield 17, 3) := by decide +kernel
theorem dX12_path_48 : decode cX12_path 48 = .ok (.iload 4, 2) := by decide +kernel
theorem dX12_path_50 : decode cX12_path 50 = .ok (.aload_n 0, 1) := by decide +kernel
theorem dX12_path_51 : decode cX12_path 51 = .ok (.getfield 9, 3) := by decide +kernel
theorem dX12_path_54 : decode cX12_path 54 = .ok (.bipush 24, 2) := by decide +kernel
theorem dX12_path_56 : decode cX12_path 56 = .ok (.iload_n 3, 1) := by decide +kernel
theorem dX12_path_57 : decode cX12_path 57 = .ok (.iadd, 1) := by decide +kernel
theorem dX12_path_58 : decode cX12_path 58 = .ok (.iaload, 1) := by decide +kernel
theorem dX12_path_59 : decode cX12_path 59 = .ok (.i2l, 1) := by decide +kernel
theorem dX12_path_60 : decode cX12_path 60 = .ok (.lastore, 1) := by decide +kernel
theorem dX12_path_61 : decode cX12_path 61 = .ok (.aload_n 0, 1) := by decide +kernel
theorem dX12_path_62 : decode cX12_path 62 = .ok (.getfield 9, 3) := by decide +kernel
theorem dX12_path_65 : decode cX12_path 65 = .ok (.iload_n 3, 1) := by decide +kernel
theorem dX12_path_66 : decode cX12_path 66 = .ok (.iaload, 1) := by decide +kernel
theorem dX12_path_67 : decode cX12_path 67 = .ok (.istore_n 3, 1) := by decide +kernel
theorem dX12_path_68 : decode cX12_path 68 = .ok (.iinc 4 (-1), 3) := by decide +kernel
theorem dX12_path_71 : decode cX12_path 71 = .ok (.goto (-32), 3) := by decide +kernel
theorem dX12_path_74 : decode cX12_path 74 = .ok (.iload_n 2, 1) := by decide +kernel
theorem dX12_path_75 : decode cX12_path 75 = .ok (.ireturn, 1) := by decide +kernel
theorem dX12_areAlike_0 : decode cX12_areAlike 0 = .ok (.iconst 0, 1) := by decide +kernel
theorem dX12_areAlike_1 : decode cX12_areAlike 1 = .ok (.istore 4, 2) := by decide +kernel
theorem dX12_areAlike_3 : decode cX12_areAlike 3 = .ok (.iload 4, 2) := by decide +kernel
theorem dX12_areAlike_5 : decode cX12_areAlike 5 = .ok (.iconst 4, 1) := by decide +kernel
theorem dX12_areAlike_6 : decode cX12_areAlike 6 = .ok (.if_icmp .ge 98, 3) := by decide +kernel
theorem dX12_areAlike_9 : decode cX12_areAlike 9 = .ok (.aload_n 0, 1) := by decide +kernel
theorem dX12_areAlike_10 : decode cX12_areAlike 10 = .ok (.getfield 9, 3) := by decide +kernel
theorem dX12_areAlike_13 : decode cX12_areAlike 13 = .ok (.iload_n 1, 1) := by decide +kernel
theorem dX12_areAlike_14 : decode cX12_areAlike 14 = .ok (.iload 4, 2) := by decide +kernel
theorem dX12_areAlike_16 : decode cX12_areAlike 16 = .ok (.invokestatic 212, 3) := by decide +kernel
theorem dX12_areAlike_19 : decode cX12_areAlike 19 = .ok (.istore 5, 2) := by decide +kernel
theorem dX12_areAlike_21 : decode cX12_areAlike 21 = .ok (.aload_n 0, 1) := by decide +kernel
theorem dX12_areAlike_22 : decode cX12_areAlike 22 = .ok (.getfield 9, 3) := by decide +kernel
theorem dX12_areAlike_25 : decode cX12_areAlike 25 = .ok (.iload_n 2, 1) := by decide +kernel
theorem dX12_areAlike_26 : decode cX12_areAlike 26 = .ok (.iload 4, 2) := by decide +kernel
theorem dX12_areAlike_28 : decode cX12_areAlike 28 = .ok (.invokestatic 212, 3) := by decide +kernel
theorem dX12_areAlike_31 : decode cX12_areAlike 31 = .ok (.istore 6, 2) := by decide +kernel
theorem dX12_areAlike_33 : decode cX12_areAlike 33 = .ok (.iload 5, 2) := by decide +kernel
theorem dX12_areAlike_35 : decode cX12_areAlike 35 = .ok (.bipush 24, 2) := by decide +kernel
theorem dX12_areAlike_37 : decode cX12_areAlike 37 = .ok (.if_icmp .ne 13, 3) := by decide +kernel
theorem dX12_areAlike_40 : decode cX12_areAlike 40 = .ok (.iload 6, 2) := by decide +kernel
theorem dX12_areAlike_42 : decode cX12_areAlike 42 = .ok (.bipush 24, 2) := by decide +kernel
theorem dX12_areAlike_44 : decode cX12_areAlike 44 = .ok (.if_icmp .ne 6, 3) := by decide +kernel
theorem dX12_areAlike_47 : decode cX12_areAlike 47 = .ok (.goto 51, 3) := by decide +kernel
theorem dX12_areAlike_50 : decode cX12_areAlike 50 = .ok (.aload_n 0, 1) := by decide +kernel
theorem dX12_areAlike_51 : decode cX12_areAlike 51 = .ok (.getfield 17, 3) := by decide +kernel
theorem dX12_areAlike_54 : decode cX12_areAlike 54 = .ok (.iload_n 3, 1) := by decide +kernel
theorem dX12_areAlike_55 : decode cX12_areAlike 55 = .ok (.iload 4, 2) := by decide +kernel
theorem dX12_areAlike_57 : decode cX12_areAlike 57 = .ok (.i2l, 1) := by decide +kernel
theorem dX12_areAlike_58 : decode cX12_areAlike 58 = .ok (.lastore, 1) := by decide +kernel
theorem dX12_areAlike_59 : decode cX12_areAlike 59 = .ok (.iload 5, 2) := by decide +kernel
theorem dX12_areAlike_61 : decode cX12_areAlike 61 = .ok (.bipush 24, 2) := by decide +kernel
theorem dX12_areAlike_63 : decode cX12_areAlike 63 = .ok (.if_icmp .eq 10, 3) := by decide +kernel
theorem dX12_areAlike_66 : decode cX12_areAlike 66 = .ok (.iload 6, 2) := by decide +kernel
theorem dX12_areAlike_68 : decode cX12_areAlike 68 = .ok (.bipush 24, 2) := by decide +kernel
theorem dX12_areAlike_70 : decode cX12_areAlike 70 = .ok (.if_icmp .ne 12, 3) := by decide +kernel
theorem dX12_areAlike_73 : decode cX12_areAlike 73 = .ok (.aload_n 0, 1) := by decide +kernel
theorem dX12_areAlike_74 : decode cX12_areAlike 74 = .ok (.iload_n 3, 1) := by decide +kernel
theorem dX12_areAlike_75 : decode cX12_areAlike 75 = .ok (.iconst 1, 1) := by decide +kernel
theorem dX12_areAlike_76 : decode cX12_areAlike 76 = .ok (.iadd, 1) := by decide +kernel
theorem dX12_areAlike_77 : decode cX12_areAlike 77 = .ok (.putfield 83, 3) := by decide +kernel
theorem dX12_areAlike_80 : decode cX12_areAlike 80 = .ok (.iconst 0, 1) := by decide +kernel
theorem dX12_areAlike_81 : decode cX12_areAlike 81 = .ok (.ireturn, 1) := by decide +kernel
theorem dX12_areAlike_82 : decode cX12_areAlike 82 = .ok (.aload_n 0, 1) := by decide +kernel
theorem dX12_areAlike_83 : decode cX12_areAlike 83 = .ok (.iload 5, 2) := by decide +kernel
theorem dX12_areAlike_85 : decode cX12_areAlike 85 = .ok (.iload 6, 2) := by decide +kernel
theorem dX12_areAlike_87 : decode cX12_areAlike 87 = .ok (.iload_n 3, 1) := by decide +kernel
theorem dX12_areAlike_88 : decode cX12_areAlike 88 = .ok (.iconst 1, 1) := by decide +kernel
theorem dX12_areAlike_89 : decode cX12_areAlike 89 = .ok (.iadd, 1) := by decide +kernel
theorem dX12_areAlike_90 : decode cX12_areAlike 90 = .ok (.invokevirtual 372, 3) := by decide +kernel
theorem dX12_areAlike_93 : decode cX12_areAlike 93 = .ok (.ifCond .ne 5, 3) := by decide +kernel
theorem dX12_areAlike_96 : decode cX12_areAlike 96 = .ok (.iconst 0, 1) := by decide +kernel
theorem dX12_areAlike_97 : decode cX12_areAlike 97 = .ok (.ireturn, 1) := by decide +kernel
theorem dX12_areAlike_98 : decode cX12_areAlike 98 = .ok (.iinc 4 1, 3) := by decide +kernel
theorem dX12_areAlike_101 : decode cX12_areAlike 101 = .ok (.goto (-98), 3) := by decide +kernel
theorem dX12_areAlike_104 : decode cX12_areAlike 104 = .ok (.iconst 1, 1) := by decide +kernel
theorem dX12_areAlike_105 : decode cX12_areAlike 105 = .ok (.ireturn, 1) := by decide +kernel
theorem dX12_alike_0 : decode cX12_alike 0 = .ok (.aload_n 0, 1) := by decide +kernel
theorem dX12_alike_1 : decode cX12_alike 1 = .ok (.iconst 0, 1) := by decide +kernel
theorem dX12_alike_2 : decode cX12_alike 2 = .ok (.putfield 79, 3) := by decide +kernel
theorem dX12_alike_5 : decode cX12_alike 5 = .ok (.aload_n 0, 1) := by decide +kernel
theorem dX12_alike_6 : decode cX12_alike 6 = .ok (.getfield 9, 3) := by decide +kernel
theorem dX12_alike_9 : decode cX12_alike 9 = .ok (.iload_n 1, 1) := by decide +kernel
theorem dX12_alike_10 : decode cX12_alike 10 = .ok (.invokestatic 90, 3) := by decide +kernel
theorem dX12_alike_13 : decode cX12_alike 13 = .ok (.ifCond .eq 14, 3) := by decide +kernel
theorem dX12_alike_16 : decode cX12_alike 16 = .ok (.aload_n 0, 1) := by decide +kernel
theorem dX12_alike_17 : decode cX12_alike 17 = .ok (.getfield 9, 3) := by decide +kernel
theorem dX12_alike_20 : decode cX12_alike 20 = .ok (.iload_n 2, 1) := by decide +kernel
theorem dX12_alike_21 : decode cX12_alike 21 = .ok (.invokestatic 90, 3) := by decide +kernel
theorem dX12_alike_24 : decode cX12_alike 24 = .ok (.ifCond .ne 5, 3) := by decide +kernel
theorem dX12_alike_27 : decode cX12_alike 27 = .ok (.iconst (-1), 1) := by decide +kernel
theorem dX12_alike_28 : decode cX12_alike 28 = .ok (.ireturn, 1) := by decide +kernel
theorem dX12_alike_29 : decode cX12_alike 29 = .ok (.aload_n 0, 1) := by decide +kernel
theorem dX12_alike_30 : decode cX12_alike 30 = .ok (.iconst 0, 1) := by decide +kernel
theorem dX12_alike_31 : decode cX12_alike 31 = .ok (.putfield 83, 3) := by decide +kernel
theorem dX12_alike_34 : decode cX12_alike 34 = .ok (.aload_n 0, 1) := by decide +kernel
theorem dX12_alike_35 : decode cX12_alike 35 = .ok (.iload_n 1, 1) := by decide +kernel
theorem dX12_alike_36 : decode cX12_alike 36 = .ok (.iload_n 2, 1) := by decide +kernel
theorem dX12_alike_37 : decode cX12_alike 37 = .ok (.iconst 0, 1) := by decide +kernel
theorem dX12_alike_38 : decode cX12_alike 38 = .ok (.invokevirtual 372, 3) := by decide +kernel
theorem dX12_alike_41 : decode cX12_alike 41 = .ok (.ifCond .eq 7, 3) := by decide +kernel
theorem dX12_alike_44 : decode cX12_alike 44 = .ok (.iconst 1, 1) := by decide +kernel
theorem dX12_alike_45 : decode cX12_alike 45 = .ok (.goto 4, 3) := by decide +kernel
theorem dX12_alike_48 : decode cX12_alike 48 = .ok (.iconst 0, 1) := by decide +kernel
theorem dX12_alike_49 : decode cX12_alike 49 = .ok (.ireturn, 1) := by decide +kernel
theorem dX12_largest_0 : decode cX12_largest 0 = .ok (.aload_n 0, 1) := by decide +kernel
theorem dX12_largest_1 : decode cX12_largest 1 = .ok (.iconst 0, 1) := by decide +kernel
theorem dX12_largest_2 : decode cX12_largest 2 = .ok (.putfield 79, 3) := by decide +kernel
theorem dX12_largest_5 : decode cX12_largest 5 = .ok (.iconst (-1), 1) := by decide +kernel
theorem dX12_largest_6 : decode cX12_largest 6 = .ok (.istore_n 1, 1) := by decide +kernel
theorem dX12_largest_7 : decode cX12_largest 7 = .ok (.iconst 0, 1) := by decide +kernel
theorem dX12_largest_8 : decode cX12_largest 8 = .ok (.istore_n 2, 1) := by decide +kernel
theorem dX12_largest_9 : decode cX12_largest 9 = .ok (.iconst 1, 1) := by decide +kernel
theorem dX12_largest_10 : decode cX12_largest 10 = .ok (.istore_n 3, 1) := by decide +kernel
theorem dX12_largest_11 : decode cX12_largest 11 = .ok (.iload_n 3, 1) := by decide +kernel
theorem dX12_largest_12 : decode cX12_largest 12 = .ok (.bipush 24, 2) := by decide +kernel
theorem dX12_largest_14 : decode cX12_largest 14 = .ok (.if_icmp .ge 52, 3) := by decide +kernel
theorem dX12_largest_17 : decode cX12_largest 17 = .ok (.aload_n 0, 1) := by decide +kernel
theorem dX12_largest_18 : decode cX12_largest 18 = .ok (.getfield 9, 3) := by decide +kernel
theorem dX12_largest_21 : decode cX12_largest 21 = .ok (.iload_n 3, 1) := by decide +kernel
theorem dX12_largest_22 : decode cX12_largest 22 = .ok (.invokestatic 90, 3) := by decide +kernel
theorem dX12_largest_25 : decode cX12_largest 25 = .ok (.ifCond .ne 6, 3) := by decide +kernel
theorem dX12_largest_28 : decode cX12_largest 28 = .ok (.goto 32, 3) := by decide +kernel
theorem dX12_largest_31 : decode cX12_largest 31 = .ok (.iconst 1, 1) := by decide +kernel
theorem dX12_largest_32 : decode cX12_largest 32 = .ok (.aload_n 0, 1) := by decide +kernel
theorem dX12_largest_33 : decode cX12_largest 33 = .ok (.getfield 9, 3) := by decide +kernel
theorem dX12_largest_36 : decode cX12_largest 36 = .ok (.iload_n 3, 1) := by decide +kernel
theorem dX12_largest_37 : decode cX12_largest 37 = .ok (.invokestatic 366, 3) := by decide +kernel
theorem dX12_largest_40 : decode cX12_largest 40 = .ok (.invokestatic 192, 3) := by decide +kernel
theorem dX12_largest_43 : decode cX12_largest 43 = .ok (.iadd, 1) := by decide +kernel
theorem dX12_largest_44 : decode cX12_largest 44 = .ok (.istore 4, 2) := by decide +kernel
theorem dX12_largest_46 : decode cX12_largest 46 = .ok (.iload 4, 2) := by decide +kernel
theorem dX12_largest_48 : decode cX12_largest 48 = .ok (.iload_n 2, 1) := by decide +kernel
theorem dX12_largest_49 : decode cX12_largest 49 = .ok (.if_icmp .gt 6, 3) := by decide +kernel
theorem dX12_largest_52 : decode cX12_largest 52 = .ok (.goto 8, 3) := by decide +kernel
theorem dX12_largest_55 : decode cX12_largest 55 = .ok (.iload_n 3, 1) := by decide +kernel
theorem dX12_largest_56 : decode cX12_largest 56 = .ok (.istore_n 1, 1) := by decide +kernel
theorem dX12_largest_57 : decode cX12_largest 57 = .ok (.iload 4, 2) := by decide +kernel
theorem dX12_largest_59 : decode cX12_largest 59 = .ok (.istore_n 2, 1) := by decide +kernel
theorem dX12_largest_60 : decode cX12_largest 60 = .ok (.iinc 3 1, 3) := by decide +kernel
theorem dX12_largest_63 : decode cX12_largest 63 = .ok (.goto (-52), 3) := by decide +kernel
theorem dX12_largest_66 : decode cX12_largest 66 = .ok (.iload_n 1, 1) := by decide +kernel
theorem dX12_largest_67 : decode cX12_largest 67 = .ok (.iconst (-1), 1) := by decide +kernel
theorem dX12_largest_68 : decode cX12_largest 68 = .ok (.if_icmp .ne 6, 3) := by decide +kernel
theorem dX12_largest_71 : decode cX12_largest 71 = .ok (.bipush (-2), 2) := by decide +kernel
theorem dX12_largest_73 : decode cX12_largest 73 = .ok (.ireturn, 1) := by decide +kernel
theorem dX12_largest_74 : decode cX12_largest 74 = .ok (.aload_n 0, 1) := by decide +kernel
theorem dX12_largest_75 : decode cX12_largest 75 = .ok (.iconst 0, 1) := by decide +kernel
theorem dX12_largest_76 : decode cX12_largest 76 = .ok (.putfield 83, 3) := by decide +kernel
theorem dX12_largest_79 : decode cX12_largest 79 = .ok (.aload_n 0, 1) := by decide +kernel
theorem dX12_largest_80 : decode cX12_largest 80 = .ok (.iload_n 2, 1) := by decide +kernel
theorem dX12_largest_81 : decode cX12_largest 81 = .ok (.i2l, 1) := by decide +kernel
theorem dX12_largest_82 : decode cX12_largest 82 = .ok (.invokevirtual 228, 3) := by decide +kernel
theorem dX12_largest_85 : decode cX12_largest 85 = .ok (.iload_n 1, 1) := by decide +kernel
theorem dX12_largest_86 : decode cX12_largest 86 = .ok (.ireturn, 1) := by decide +kernel
theorem dX12_would_0 : decode cX12_would 0 = .ok (.aload_n 0, 1) := by decide +kernel
theorem dX12_would_1 : decode cX12_would 1 = .ok (.iconst 0, 1) := by decide +kernel
theorem dX12_would_2 : decode cX12_would 2 = .ok (.putfield 79, 3) := by decide +kernel
theorem dX12_would_5 : decode cX12_would 5 = .ok (.aload_n 0, 1) := by decide +kernel
theorem dX12_would_6 : decode cX12_would 6 = .ok (.aload_n 0, 1) := by decide +kernel
theorem dX12_would_7 : decode cX12_would 7 = .ok (.getfield 9, 3) := by decide +kernel
theorem dX12_would_10 : decode cX12_would 10 = .ok (.iload_n 1, 1) := by decide +kernel
theorem dX12_would_11 : decode cX12_would 11 = .ok (.iload_n 2, 1) := by decide +kernel
theorem dX12_would_12 : decode cX12_would 12 = .ok (.invokevirtual 283, 3) := by decide +kernel
theorem dX12_would_15 : decode cX12_would 15 = .ok (.istore_n 3, 1) := by decide +kernel
theorem dX12_would_16 : decode cX12_would 16 = .ok (.iload_n 3, 1) := by decide +kernel
theorem dX12_would_17 : decode cX12_would 17 = .ok (.ifCond .ge 5, 3) := by decide +kernel
theorem dX12_would_20 : decode cX12_would 20 = .ok (.iload_n 3, 1) := by decide +kernel
theorem dX12_would_21 : decode cX12_would 21 = .ok (.ireturn, 1) := by decide +kernel
theorem dX12_would_22 : decode cX12_would 22 = .ok (.aload_n 0, 1) := by decide +kernel
theorem dX12_would_23 : decode cX12_would 23 = .ok (.aload_n 0, 1) := by decide +kernel
theorem dX12_would_24 : decode cX12_would 24 = .ok (.getfield 9, 3) := by decide +kernel
theorem dX12_would_27 : decode cX12_would 27 = .ok (.iload_n 1, 1) := by decide +kernel
theorem dX12_would_28 : decode cX12_would 28 = .ok (.iload_n 2, 1) := by decide +kernel
theorem dX12_would_29 : decode cX12_would 29 = .ok (.invokevirtual 260, 3) := by decide +kernel
theorem dX12_would_32 : decode cX12_would 32 = .ok (.istore 4, 2) := by decide +kernel
theorem dX12_would_34 : decode cX12_would 34 = .ok (.aload_n 0, 1) := by decide +kernel
theorem dX12_would_35 : decode cX12_would 35 = .ok (.iconst 0, 1) := by decide +kernel
theorem dX12_would_36 : decode cX12_would 36 = .ok (.putfield 83, 3) := by decide +kernel
theorem dX12_would_39 : decode cX12_would 39 = .ok (.aload_n 0, 1) := by decide +kernel
theorem dX12_would_40 : decode cX12_would 40 = .ok (.iload_n 1, 1) := by decide +kernel
theorem dX12_would_41 : decode cX12_would 41 = .ok (.i2l, 1) := by decide +kernel
theorem dX12_would_42 : decode cX12_would 42 = .ok (.invokevirtual 228, 3) := by decide +kernel
theorem dX12_would_45 : decode cX12_would 45 = .ok (.iconst 0, 1) := by decide +kernel
theorem dX12_would_46 : decode cX12_would 46 = .ok (.istore 5, 2) := by decide +kernel
theorem dX12_would_48 : decode cX12_would 48 = .ok (.iload 5, 2) := by decide +kernel
theorem dX12_would_50 : decode cX12_would 50 = .ok (.bipush 24, 2) := by decide +kernel
theorem dX12_would_52 : decode cX12_would 52 = .ok (.if_icmp .ge 35, 3) := by decide +kernel
theorem dX12_would_55 : decode cX12_would 55 = .ok (.iload 4, 2) := by decide +kernel
theorem dX12_would_57 : decode cX12_would 57 = .ok (.iload 5, 2) := by decide +kernel
theorem dX12_would_59 : decode cX12_would 59 = .ok (.invokestatic 94, 3) := by decide +kernel
theorem dX12_would_62 : decode cX12_would 62 = .ok (.ifCond .eq 19, 3) := by decide +kernel
theorem dX12_would_65 : decode cX12_would 65 = .ok (.aload_n 0, 1) := by decide +kernel
theorem dX12_would_66 : decode cX12_would 66 = .ok (.getfield 83, 3) := by decide +kernel
theorem dX12_would_69 : decode cX12_would 69 = .ok (.bipush 14, 2) := by decide +kernel
theorem dX12_would_71 : decode cX12_would 71 = .ok (.if_icmp .ge 10, 3) := by decide +kernel
theorem dX12_would_74 : decode cX12_would 74 = .ok (.aload_n 0, 1) := by decide +kernel
theorem dX12_would_75 : decode cX12_would 75 = .ok (.iload 5, 2) := by decide +kernel
theorem dX12_would_77 : decode cX12_would 77 = .ok (.i2l, 1) := by decide +kernel
theorem dX12_would_78 : decode cX12_would 78 = .ok (.invokevirtual 228, 3) := by decide +kernel
theorem dX12_would_81 : decode cX12_would 81 = .ok (.iinc 5 1, 3) := by decide +kernel
theorem dX12_would_84 : decode cX12_would 84 = .ok (.goto (-36), 3) := by decide +kernel
theorem dX12_would_87 : decode cX12_would 87 = .ok (.iconst 1, 1) := by decide +kernel
theorem dX12_would_88 : decode cX12_would 88 = .ok (.iload 4, 2) := by decide +kernel
theorem dX12_would_90 : decode cX12_would 90 = .ok (.invokestatic 192, 3) := by decide +kernel
theorem dX12_would_93 : decode cX12_would 93 = .ok (.iadd, 1) := by decide +kernel
theorem dX12_would_94 : decode cX12_would 94 = .ok (.ireturn, 1) := by decide +kernel
theorem dX12_lost__0 : decode cX12_lost_ 0 = .ok (.aload_n 0, 1) := by decide +kernel
theorem dX12_lost__1 : decode cX12_lost_ 1 = .ok (.iconst 0, 1) := by decide +kernel
theorem dX12_lost__2 : decode cX12_lost_ 2 = .ok (.putfield 79, 3) := by decide +kernel
theorem dX12_lost__5 : decode cX12_lost_ 5 = .ok (.aload_n 0, 1) := by decide +kernel
theorem dX12_lost__6 : decode cX12_lost_ 6 = .ok (.getfield 9, 3) := by decide +kernel
theorem dX12_lost__9 : decode cX12_lost_ 9 = .ok (.iload_n 1, 1) := by decide +kernel
theorem dX12_lost__10 : decode cX12_lost_ 10 = .ok (.iload_n 2, 1) := by decide +kernel
theorem dX12_lost__11 : decode cX12_lost_ 11 = .ok (.invokestatic 329, 3) := by decide +kernel
theorem dX12_lost__14 : decode cX12_lost_ 14 = .ok (.istore_n 3, 1) := by decide +kernel
theorem dX12_lost__15 : decode cX12_lost_ 15 = .ok (.iload_n 3, 1) := by decide +kernel
theorem dX12_lost__16 : decode cX12_lost_ 16 = .ok (.ifCond .ge 7, 3) := by decide +kernel
theorem dX12_lost__19 : decode cX12_lost_ 19 = .ok (.iload_n 3, 1) := by decide +kernel
theorem dX12_lost__20 : decode cX12_lost_ 20 = .ok (.goto 17, 3) := by decide +kernel
theorem dX12_lost__23 : decode cX12_lost_ 23 = .ok (.aload_n 0, 1) := by decide +kernel
theorem dX12_lost__24 : decode cX12_lost_ 24 = .ok (.aload_n 0, 1) := by decide +kernel
theorem dX12_lost__25 : decode cX12_lost_ 25 = .ok (.aload_n 0, 1) := by decide +kernel
theorem dX12_lost__26 : decode cX12_lost_ 26 = .ok (.getfield 9, 3) := by decide +kernel
theorem dX12_lost__29 : decode cX12_lost_ 29 = .ok (.iload_n 1, 1) := by decide +kernel
theorem dX12_lost__30 : decode cX12_lost_ 30 = .ok (.iload_n 2, 1) := by decide +kernel
theorem dX12_lost__31 : decode cX12_lost_ 31 = .ok (.invokevirtual 323, 3) := by decide +kernel
theorem dX12_lost__34 : decode cX12_lost_ 34 = .ok (.invokevirtual 354, 3) := by decide +kernel
theorem dX12_lost__37 : decode cX12_lost_ 37 = .ok (.ireturn, 1) := by decide +kernel
theorem dX12_widest_0 : decode cX12_widest 0 = .ok (.aload_n 0, 1) := by decide +kernel
theorem dX12_widest_1 : decode cX12_widest 1 = .ok (.iconst 0, 1) := by decide +kernel
theorem dX12_widest_2 : decode cX12_widest 2 = .ok (.putfield 79, 3) := by decide +kernel
theorem dX12_widest_5 : decode cX12_widest 5 = .ok (.iconst (-1), 1) := by decide +kernel
theorem dX12_widest_6 : decode cX12_widest 6 = .ok (.istore_n 1, 1) := by decide +kernel
theorem dX12_widest_7 : decode cX12_widest 7 = .ok (.iconst 0, 1) := by decide +kernel
theorem dX12_widest_8 : decode cX12_widest 8 = .ok (.istore_n 2, 1) := by decide +kernel
theorem dX12_widest_9 : decode cX12_widest 9 = .ok (.iconst 0, 1) := by decide +kernel
theorem dX12_widest_10 : decode cX12_widest 10 = .ok (.istore_n 3, 1) := by decide +kernel
theorem dX12_widest_11 : decode cX12_widest 11 = .ok (.iload_n 3, 1) := by decide +kernel
theorem dX12_widest_12 : decode cX12_widest 12 = .ok (.bipush 24, 2) := by decide +kernel
theorem dX12_widest_14 : decode cX12_widest 14 = .ok (.if_icmp .ge 79, 3) := by decide +kernel
theorem dX12_widest_17 : decode cX12_widest 17 = .ok (.iconst 0, 1) := by decide +kernel
theorem dX12_widest_18 : decode cX12_widest 18 = .ok (.istore 4, 2) := by decide +kernel
theorem dX12_widest_20 : decode cX12_widest 20 = .ok (.iload 4, 2) := by decide +kernel
theorem dX12_widest_22 : decode cX12_widest 22 = .ok (.iconst 4, 1) := by decide +kernel
theorem dX12_widest_23 : decode cX12_widest 23 = .ok (.if_icmp .ge 64, 3) := by decide +kernel
theorem dX12_widest_26 : decode cX12_widest 26 = .ok (.aload_n 0, 1) := by decide +kernel
theorem dX12_widest_27 : decode cX12_widest 27 = .ok (.aload_n 0, 1) := by decide +kernel
theorem dX12_widest_28 : decode cX12_widest 28 = .ok (.getfield 9, 3) := by decide +kernel
theorem dX12_widest_31 : decode cX12_widest 31 = .ok (.iload_n 3, 1) := by decide +kernel
theorem dX12_widest_32 : decode cX12_widest 32 = .ok (.iload 4, 2) := by decide +kernel
theorem dX12_widest_34 : decode cX12_widest 34 = .ok (.invokevirtual 283, 3) := by decide +kernel
theorem dX12_widest_37 : decode cX12_widest 37 = .ok (.ifCond .ge 6, 3) := by decide +kernel
theorem dX12_widest_40 : decode cX12_widest 40 = .ok (.goto 41, 3) := by decide +kernel
theorem dX12_widest_43 : decode cX12_widest 43 = .ok (.iconst 1, 1) := by decide +kernel
theorem dX12_widest_44 : decode cX12_widest 44 = .ok (.aload_n 0, 1) := by decide +kernel
theorem dX12_widest_45 : decode cX12_widest 45 = .ok (.aload_n 0, 1) := by decide +kernel
theorem dX12_widest_46 : decode cX12_widest 46 = .ok (.getfield 9, 3) := by decide +kernel
theorem dX12_widest_49 : decode cX12_widest 49 = .ok (.iload_n 3, 1) := by decide +kernel
theorem dX12_widest_50 : decode cX12_widest 50 = .ok (.iload 4, 2) := by decide +kernel
theorem dX12_widest_52 : decode cX12_widest 52 = .ok (.invokevirtual 260, 3) := by decide +kernel
theorem dX12_widest_55 : decode cX12_widest 55 = .ok (.invokestatic 192, 3) := by decide +kernel
theorem dX12_widest_58 : decode cX12_widest 58 = .ok (.iadd, 1) := by decide +kernel
theorem dX12_widest_59 : decode cX12_widest 59 = .ok (.istore 5, 2) := by decide +kernel
theorem dX12_widest_61 : decode cX12_widest 61 = .ok (.iload 5, 2) := by decide +kernel
theorem dX12_widest_63 : decode cX12_widest 63 = .ok (.iload_n 2, 1) := by decide +kernel
theorem dX12_widest_64 : decode cX12_widest 64 = .ok (.if_icmp .gt 6, 3) := by decide +kernel
theorem dX12_widest_67 : decode cX12_widest 67 = .ok (.goto 14, 3) := by decide +kernel
theorem dX12_widest_70 : decode cX12_widest 70 = .ok (.bipush 10, 2) := by decide +kernel
theorem dX12_widest_72 : decode cX12_widest 72 = .ok (.iload_n 3, 1) := by decide +kernel
theorem dX12_widest_73 : decode cX12_widest 73 = .ok (.imul, 1) := by decide +kernel
theorem dX12_widest_74 : decode cX12_widest 74 = .ok (.iload 4, 2) := by decide +kernel
theorem dX12_widest_76 : decode cX12_widest 76 = .ok (.iadd, 1) := by decide +kernel
theorem dX12_widest_77 : decode cX12_widest 77 = .ok (.istore_n 1, 1) := by decide +kernel
theorem dX12_widest_78 : decode cX12_widest 78 = .ok (.iload 5, 2) := by decide +kernel
theorem dX12_widest_80 : decode cX12_widest 80 = .ok (.istore_n 2, 1) := by decide +kernel
theorem dX12_widest_81 : decode cX12_widest 81 = .ok (.iinc 4 1, 3) := by decide +kernel
theorem dX12_widest_84 : decode cX12_widest 84 = .ok (.goto (-64), 3) := by decide +kernel
theorem dX12_widest_87 : decode cX12_widest 87 = .ok (.iinc 3 1, 3) := by decide +kernel
theorem dX12_widest_90 : decode cX12_widest 90 = .ok (.goto (-79), 3) := by decide +kernel
theorem dX12_widest_93 : decode cX12_widest 93 = .ok (.iload_n 1, 1) := by decide +kernel
theorem dX12_widest_94 : decode cX12_widest 94 = .ok (.iconst (-1), 1) := by decide +kernel
theorem dX12_widest_95 : decode cX12_widest 95 = .ok (.if_icmp .ne 6, 3) := by decide +kernel
theorem dX12_widest_98 : decode cX12_widest 98 = .ok (.bipush (-2), 2) := by decide +kernel
theorem dX12_widest_100 : decode cX12_widest 100 = .ok (.ireturn, 1) := by decide +kernel
theorem dX12_widest_101 : decode cX12_widest 101 = .ok (.aload_n 0, 1) := by decide +kernel
theorem dX12_widest_102 : decode cX12_widest 102 = .ok (.iconst 0, 1) := by decide +kernel
theorem dX12_widest_103 : decode cX12_widest 103 = .ok (.putfield 83, 3) := by decide +kernel
theorem dX12_widest_106 : decode cX12_widest 106 = .ok (.aload_n 0, 1) := by decide +kernel
theorem dX12_widest_107 : decode cX12_widest 107 = .ok (.iload_n 2, 1) := by decide +kernel
theorem dX12_widest_108 : decode cX12_widest 108 = .ok (.i2l, 1) := by decide +kernel
theorem dX12_widest_109 : decode cX12_widest 109 = .ok (.invokevirtual 228, 3) := by decide +kernel
theorem dX12_widest_112 : decode cX12_widest 112 = .ok (.iload_n 1, 1) := by decide +kernel
theorem dX12_widest_113 : decode cX12_widest 113 = .ok (.ireturn, 1) := by decide +kernel
theorem dX12_highOf_0 : decode cX12_highOf 0 = .ok (.iload_n 0, 1) := by decide +kernel
theorem dX12_highOf_1 : decode cX12_highOf 1 = .ok (.iconst 1, 1) := by decide +kernel
theorem dX12_highOf_2 : decode cX12_highOf 2 = .ok (.if_icmp .eq 8, 3) := by decide +kernel
theorem dX12_highOf_5 : decode cX12_highOf 5 = .ok (.iload_n 0, 1) := by decide +kernel
theorem dX12_highOf_6 : decode cX12_highOf 6 = .ok (.iconst 4, 1) := by decide +kernel
theorem dX12_highOf_7 : decode cX12_highOf 7 = .ok (.if_icmp .ne 8, 3) := by decide +kernel
theorem dX12_highOf_10 : decode cX12_highOf 10 = .ok (.bipush 9, 2) := by decide +kernel
theorem dX12_highOf_12 : decode cX12_highOf 12 = .ok (.goto 4, 3) := by decide +kernel
theorem dX12_highOf_15 : decode cX12_highOf 15 = .ok (.iconst 4, 1) := by decide +kernel
theorem dX12_highOf_16 : decode cX12_highOf 16 = .ok (.ireturn, 1) := by decide +kernel
theorem dX12_heard_0 : decode cX12_heard 0 = .ok (.aload_n 0, 1) := by decide +kernel
theorem dX12_heard_1 : decode cX12_heard 1 = .ok (.iconst 0, 1) := by decide +kernel
theorem dX12_heard_2 : decode cX12_heard 2 = .ok (.putfield 79, 3) := by decide +kernel
theorem dX12_heard_5 : decode cX12_heard 5 = .ok (.iload_n 1, 1) := by decide +kernel
theorem dX12_heard_6 : decode cX12_heard 6 = .ok (.iconst 0, 1) := by decide +kernel
theorem dX12_heard_7 : decode cX12_heard 7 = .ok (.iconst 4, 1) := by decide +kernel
theorem dX12_heard_8 : decode cX12_heard 8 = .ok (.invokestatic 86, 3) := by decide +kernel
theorem dX12_heard_11 : decode cX12_heard 11 = .ok (.ifCond .eq 24, 3) := by decide +kernel
theorem dX12_heard_14 : decode cX12_heard 14 = .ok (.iload_n 2, 1) := by decide +kernel
theorem dX12_heard_15 : decode cX12_heard 15 = .ok (.iconst 0, 1) := by decide +kernel
theorem dX12_heard_16 : decode cX12_heard 16 = .ok (.iload_n 1, 1) := by decide +kernel
theorem dX12_heard_17 : decode cX12_heard 17 = .ok (.invokestatic 375, 3) := by decide +kernel
theorem dX12_heard_20 : decode cX12_heard 20 = .ok (.invokestatic 86, 3) := by decide +kernel
theorem dX12_heard_23 : decode cX12_heard 23 = .ok (.ifCond .eq 12, 3) := by decide +kernel
theorem dX12_heard_26 : decode cX12_heard 26 = .ok (.aload_n 0, 1) := by decide +kernel
theorem dX12_heard_27 : decode cX12_heard 27 = .ok (.getfield 378, 3) := by decide +kernel
theorem dX12_heard_30 : decode cX12_heard 30 = .ok (.bipush 12, 2) := by decide +kernel
theorem dX12_heard_32 : decode cX12_heard 32 = .ok (.if_icmp .ne 5, 3) := by decide +kernel
theorem dX12_heard_35 : decode cX12_heard 35 = .ok (.iconst (-1), 1) := by decide +kernel
theorem dX12_heard_36 : decode cX12_heard 36 = .ok (.ireturn, 1) := by decide +kernel
theorem dX12_heard_37 : decode cX12_heard 37 = .ok (.aload_n 0, 1) := by decide +kernel
theorem dX12_heard_38 : decode cX12_heard 38 = .ok (.getfield 54, 3) := by decide +kernel
theorem dX12_heard_41 : decode cX12_heard 41 = .ok (.aload_n 0, 1) := by decide +kernel
theorem dX12_heard_42 : decode cX12_heard 42 = .ok (.getfield 378, 3) := by decide +kernel
theorem dX12_heard_45 : decode cX12_heard 45 = .ok (.iload_n 1, 1) := by decide +kernel
theorem dX12_heard_46 : decode cX12_heard 46 = .ok (.iastore, 1) := by decide +kernel
theorem dX12_heard_47 : decode cX12_heard 47 = .ok (.aload_n 0, 1) := by decide +kernel
theorem dX12_heard_48 : decode cX12_heard 48 = .ok (.getfield 57, 3) := by decide +kernel
theorem dX12_heard_51 : decode cX12_heard 51 = .ok (.aload_n 0, 1) := by decide +kernel
theorem dX12_heard_52 : decode cX12_heard 52 = .ok (.getfield 378, 3) := by decide +kernel
theorem dX12_heard_55 : decode cX12_heard 55 = .ok (.iload_n 2, 1) := by decide +kernel
theorem dX12_heard_56 : decode cX12_heard 56 = .ok (.iastore, 1) := by decide +kernel
theorem dX12_heard_57 : decode cX12_heard 57 = .ok (.aload_n 0, 1) := by decide +kernel
theorem dX12_heard_58 : decode cX12_heard 58 = .ok (.dup, 1) := by decide +kernel
theorem dX12_heard_59 : decode cX12_heard 59 = .ok (.getfield 378, 3) := by decide +kernel
theorem dX12_heard_62 : decode cX12_heard 62 = .ok (.iconst 1, 1) := by decide +kernel
theorem dX12_heard_63 : decode cX12_heard 63 = .ok (.iadd, 1) := by decide +kernel
theorem dX12_heard_64 : decode cX12_heard 64 = .ok (.putfield 378, 3) := by decide +kernel
theorem dX12_heard_67 : decode cX12_heard 67 = .ok (.aload_n 0, 1) := by decide +kernel
theorem dX12_heard_68 : decode cX12_heard 68 = .ok (.getfield 378, 3) := by decide +kernel
theorem dX12_heard_71 : decode cX12_heard 71 = .ok (.ireturn, 1) := by decide +kernel
theorem dX12_forget_0 : decode cX12_forget 0 = .ok (.aload_n 0, 1) := by decide +kernel
theorem dX12_forget_1 : decode cX12_forget 1 = .ok (.iconst 0, 1) := by decide +kernel
theorem dX12_forget_2 : decode cX12_forget 2 = .ok (.putfield 79, 3) := by decide +kernel
theorem dX12_forget_5 : decode cX12_forget 5 = .ok (.aload_n 0, 1) := by decide +kernel
theorem dX12_forget_6 : decode cX12_forget 6 = .ok (.getfield 378, 3) := by decide +kernel
theorem dX12_forget_9 : decode cX12_forget 9 = .ok (.istore_n 1, 1) := by decide +kernel
theorem dX12_forget_10 : decode cX12_forget 10 = .ok (.aload_n 0, 1) := by decide +kernel
theorem dX12_forget_11 : decode cX12_forget 11 = .ok (.iconst 0, 1) := by decide +kernel
theorem dX12_forget_12 : decode cX12_forget 12 = .ok (.putfield 378, 3) := by decide +kernel
theorem dX12_forget_15 : decode cX12_forget 15 = .ok (.iload_n 1, 1) := by decide +kernel
theorem dX12_forget_16 : decode cX12_forget 16 = .ok (.ireturn, 1) := by decide +kernel
theorem dX12_isSo_0 : decode cX12_isSo 0 = .ok (.iload_n 2, 1) := by decide +kernel
theorem dX12_isSo_1 : decode cX12_isSo 1 = .ok (.tableswitch 104 0 3 #[31, 49, 67, 86], 31) := by decide +kernel
theorem dX12_isSo_32 : decode cX12_isSo 32 = .ok (.aload_n 0, 1) := by decide +kernel
theorem dX12_isSo_33 : decode cX12_isSo 33 = .ok (.getfield 9, 3) := by decide +kernel
theorem dX12_isSo_36 : decode cX12_isSo 36 = .ok (.iload_n 1, 1) := by decide +kernel
theorem dX12_isSo_37 : decode cX12_isSo 37 = .ok (.invokestatic 197, 3) := by decide +kernel
theorem dX12_isSo_40 : decode cX12_isSo 40 = .ok (.iload_n 3, 1) := by decide +kernel
theorem dX12_isSo_41 : decode cX12_isSo 41 = .ok (.if_icmp .ne 7, 3) := by decide +kernel
theorem dX12_isSo_44 : decode cX12_isSo 44 = .ok (.iconst 1, 1) := by decide +kernel
theorem dX12_isSo_45 : decode cX12_isSo 45 = .ok (.goto 4, 3) := by decide +kernel
theorem dX12_isSo_48 : decode cX12_isSo 48 = .ok (.iconst 0, 1) := by decide +kernel
theorem dX12_isSo_49 : decode cX12_isSo 49 = .ok (.ireturn, 1) := by decide +kernel
theorem dX12_isSo_50 : decode cX12_isSo 50 = .ok (.aload_n 0, 1) := by decide +kernel
theorem dX12_isSo_51 : decode cX12_isSo 51 = .ok (.getfield 9, 3) := by decide +kernel
theorem dX12_isSo_54 : decode cX12_isSo 54 = .ok (.iload_n 1, 1) := by decide +kernel
theorem dX12_isSo_55 : decode cX12_isSo 55 = .ok (.invokestatic 186, 3) := by decide +kernel
theorem dX12_isSo_58 : decode cX12_isSo 58 = .ok (.iload_n 3, 1) := by decide +kernel
theorem dX12_isSo_59 : decode cX12_isSo 59 = .ok (.if_icmp .lt 7, 3) := by decide +kernel
theorem dX12_isSo_62 : decode cX12_isSo 62 = .ok (.iconst 1, 1) := by decide +kernel
theorem dX12_isSo_63 : decode cX12_isSo 63 = .ok (.goto 4, 3) := by decide +kernel
theorem dX12_isSo_66 : decode cX12_isSo 66 = .ok (.iconst 0, 1) := by decide +kernel
theorem dX12_isSo_67 : decode cX12_isSo 67 = .ok (.ireturn, 1) := by decide +kernel
theorem dX12_isSo_68 : decode cX12_isSo 68 = .ok (.aload_n 0, 1) := by decide +kernel
theorem dX12_isSo_69 : decode cX12_isSo 69 = .ok (.getfield 9, 3) := by decide +kernel
theorem dX12_isSo_72 : decode cX12_isSo 72 = .ok (.bipush 24, 2) := by decide +kernel
theorem dX12_isSo_74 : decode cX12_isSo 74 = .ok (.iload_n 1, 1) := by decide +kernel
theorem dX12_isSo_75 : decode cX12_isSo 75 = .ok (.iadd, 1) := by decide +kernel
theorem dX12_isSo_76 : decode cX12_isSo 76 = .ok (.iaload, 1) := by decide +kernel
theorem dX12_isSo_77 : decode cX12_isSo 77 = .ok (.iload_n 3, 1) := by decide +kernel
theorem dX12_isSo_78 : decode cX12_isSo 78 = .ok (.if_icmp .ne 7, 3) := by decide +kernel
theorem dX12_isSo_81 : decode cX12_isSo 81 = .ok (.iconst 1, 1) := by decide +kernel
theorem dX12_isSo_82 : decode cX12_isSo 82 = .ok (.goto 4, 3) := by decide +kernel
theorem dX12_isSo_85 : decode cX12_isSo 85 = .ok (.iconst 0, 1) := by decide +kernel
theorem dX12_isSo_86 : decode cX12_isSo 86 = .ok (.ireturn, 1) := by decide +kernel
theorem dX12_isSo_87 : decode cX12_isSo 87 = .ok (.aload_n 0, 1) := by decide +kernel
theorem dX12_isSo_88 : decode cX12_isSo 88 = .ok (.getfield 9, 3) := by decide +kernel
theorem dX12_isSo_91 : decode cX12_isSo 91 = .ok (.iload_n 1, 1) := by decide +kernel
theorem dX12_isSo_92 : decode cX12_isSo 92 = .ok (.invokestatic 189, 3) := by decide +kernel
theorem dX12_isSo_95 : decode cX12_isSo 95 = .ok (.iload_n 3, 1) := by decide +kernel
theorem dX12_isSo_96 : decode cX12_isSo 96 = .ok (.if_icmp .ne 7, 3) := by decide +kernel
theorem dX12_isSo_99 : decode cX12_isSo 99 = .ok (.iconst 1, 1) := by decide +kernel
theorem dX12_isSo_100 : decode cX12_isSo 100 = .ok (.goto 4, 3) := by decide +kernel
theorem dX12_isSo_103 : decode cX12_isSo 103 = .ok (.iconst 0, 1) := by decide +kernel
theorem dX12_isSo_104 : decode cX12_isSo 104 = .ok (.ireturn, 1) := by decide +kernel
theorem dX12_isSo_105 : decode cX12_isSo 105 = .ok (.aload_n 0, 1) := by decide +kernel
theorem dX12_isSo_106 : decode cX12_isSo 106 = .ok (.getfield 9, 3) := by decide +kernel
theorem dX12_isSo_109 : decode cX12_isSo 109 = .ok (.iload_n 1, 1) := by decide +kernel
theorem dX12_isSo_110 : decode cX12_isSo 110 = .ok (.invokestatic 246, 3) := by decide +kernel
theorem dX12_isSo_113 : decode cX12_isSo 113 = .ok (.invokestatic 192, 3) := by decide +kernel
theorem dX12_isSo_116 : decode cX12_isSo 116 = .ok (.iload_n 3, 1) := by decide +kernel
theorem dX12_isSo_117 : decode cX12_isSo 117 = .ok (.if_icmp .le 7, 3) := by decide +kernel
theorem dX12_isSo_120 : decode cX12_isSo 120 = .ok (.iconst 1, 1) := by decide +kernel
theorem dX12_isSo_121 : decode cX12_isSo 121 = .ok (.goto 4, 3) := by decide +kernel
theorem dX12_isSo_124 : decode cX12_isSo 124 = .ok (.iconst 0, 1) := by decide +kernel
theorem dX12_isSo_125 : decode cX12_isSo 125 = .ok (.ireturn, 1) := by decide +kernel
theorem dX12_fitting_0 : decode cX12_fitting 0 = .ok (.iconst 0, 1) := by decide +kernel
theorem dX12_fitting_1 : decode cX12_fitting 1 = .ok (.istore_n 1, 1) := by decide +kernel
theorem dX12_fitting_2 : decode cX12_fitting 2 = .ok (.iconst 0, 1) := by decide +kernel
theorem dX12_fitting_3 : decode cX12_fitting 3 = .ok (.istore_n 2, 1) := by decide +kernel
theorem dX12_fitting_4 : decode cX12_fitting 4 = .ok (.iload_n 2, 1) := by decide +kernel
theorem dX12_fitting_5 : decode cX12_fitting 5 = .ok (.bipush 24, 2) := by decide +kernel
theorem dX12_fitting_7 : decode cX12_fitting 7 = .ok (.if_icmp .ge 74, 3) := by decide +kernel
theorem dX12_fitting_10 : decode cX12_fitting 10 = .ok (.aload_n 0, 1) := by decide +kernel
theorem dX12_fitting_11 : decode cX12_fitting 11 = .ok (.getfield 9, 3) := by decide +kernel
theorem dX12_fitting_14 : decode cX12_fitting 14 = .ok (.iload_n 2, 1) := by decide +kernel
theorem dX12_fitting_15 : decode cX12_fitting 15 = .ok (.invokestatic 90, 3) := by decide +kernel
theorem dX12_fitting_18 : decode cX12_fitting 18 = .ok (.istore_n 3, 1) := by decide +kernel
theorem dX12_fitting_19 : decode cX12_fitting 19 = .ok (.iconst 0, 1) := by decide +kernel
theorem dX12_fitting_20 : decode cX12_fitting 20 = .ok (.istore 4, 2) := by decide +kernel
theorem dX12_fitting_22 : decode cX12_fitting 22 = .ok (.iload 4, 2) := by decide +kernel
theorem dX12_fitting_24 : decode cX12_fitting 24 = .ok (.aload_n 0, 1) := by decide +kernel
theorem dX12_fitting_25 : decode cX12_fitting 25 = .ok (.getfield 378, 3) := by decide +kernel
theorem dX12_fitting_28 : decode cX12_fitting 28 = .ok (.if_icmp .ge 33, 3) := by decide +kernel
theorem dX12_fitting_31 : decode cX12_fitting 31 = .ok (.iload_n 3, 1) := by decide +kernel
theorem dX12_fitting_32 : decode cX12_fitting 32 = .ok (.ifCond .eq 29, 3) := by decide +kernel
theorem dX12_fitting_35 : decode cX12_fitting 35 = .ok (.aload_n 0, 1) := by decide +kernel
theorem dX12_fitting_36 : decode cX12_fitting 36 = .ok (.iload_n 2, 1) := by decide +kernel
theorem dX12_fitting_37 : decode cX12_fitting 37 = .ok (.aload_n 0, 1) := by decide +kernel
theorem dX12_fitting_38 : decode cX12_fitting 38 = .ok (.getfield 54, 3) := by decide +kernel
theorem dX12_fitting_41 : decode cX12_fitting 41 = .ok (.iload 4, 2) := by decide +kernel
theorem dX12_fitting_43 : decode cX12_fitting 43 = .ok (.iaload, 1) := by decide +kernel
theorem dX12_fitting_44 : decode cX12_fitting 44 = .ok (.aload_n 0, 1) := by decide +kernel
theorem dX12_fitting_45 : decode cX12_fitting 45 = .ok (.getfield 57, 3) := by decide +kernel
theorem dX12_fitting_48 : decode cX12_fitting 48 = .ok (.iload 4, 2) := by decide +kernel
theorem dX12_fitting_50 : decode cX12_fitting 50 = .ok (.iaload, 1) := by decide +kernel
theorem dX12_fitting_51 : decode cX12_fitting 51 = .ok (.invokevirtual 381, 3) := by decide +kernel
theorem dX12_fitting_54 : decode cX12_fitting 54 = .ok (.istore_n 3, 1) := by decide +kernel
theorem dX12_fitting_55 : decode cX12_fitting 55 = .ok (.iinc 4 1, 3) := by decide +kernel
theorem dX12_fitting_58 : decode cX12_fitting 58 = .ok (.goto (-36), 3) := by decide +kernel
theorem dX12_fitting_61 : decode cX12_fitting 61 = .ok (.iload_n 1, 1) := by decide +kernel
theorem dX12_fitting_62 : decode cX12_fitting 62 = .ok (.iload_n 3, 1) := by decide +kernel
theorem dX12_fitting_63 : decode cX12_fitting 63 = .ok (.ifCond .eq 9, 3) := by decide +kernel
theorem dX12_fitting_66 : decode cX12_fitting 66 = .ok (.iconst 1, 1) := by decide +kernel
theorem dX12_fitting_67 : decode cX12_fitting 67 = .ok (.iload_n 2, 1) := by decide +kernel
theorem dX12_fitting_68 : decode cX12_fitting 68 = .ok (.ishl, 1) := by decide +kernel
theorem dX12_fitting_69 : decode cX12_fitting 69 = .ok (.goto 4, 3) := by decide +kernel
theorem dX12_fitting_72 : decode cX12_fitting 72 = .ok (.iconst 0, 1) := by decide +kernel
theorem dX12_fitting_73 : decode cX12_fitting 73 = .ok (.ior, 1) := by decide +kernel
theorem dX12_fitting_74 : decode cX12_fitting 74 = .ok (.istore_n 1, 1) := by decide +kernel
theorem dX12_fitting_75 : decode cX12_fitting 75 = .ok (.iinc 2 1, 3) := by decide +kernel
theorem dX12_fitting_78 : decode cX12_fitting 78 = .ok (.goto (-74), 3) := by decide +kernel
theorem dX12_fitting_81 : decode cX12_fitting 81 = .ok (.iload_n 1, 1) := by decide +kernel
theorem dX12_fitting_82 : decode cX12_fitting 82 = .ok (.ireturn, 1) := by decide +kernel
theorem dX12_fits_0 : decode cX12_fits 0 = .ok (.aload_n 0, 1) := by decide +kernel
theorem dX12_fits_1 : decode cX12_fits 1 = .ok (.iconst 0, 1) := by decide +kernel
theorem dX12_fits_2 : decode cX12_fits 2 = .ok (.putfield 79, 3) := by decide +kernel
theorem dX12_fits_5 : decode cX12_fits 5 = .ok (.aload_n 0, 1) := by decide +kernel
theorem dX12_fits_6 : decode cX12_fits 6 = .ok (.aload_n 0, 1) := by decide +kernel
theorem dX12_fits_7 : decode cX12_fits 7 = .ok (.invokevirtual 384, 3) := by decide +kernel
theorem dX12_fits_10 : decode cX12_fits 10 = .ok (.invokevirtual 354, 3) := by decide +kernel
theorem dX12_fits_13 : decode cX12_fits 13 = .ok (.ireturn, 1) := by decide +kernel
theorem dX12_asks_0 : decode cX12_asks 0 = .ok (.aload_n 0, 1) := by decide +kernel
theorem dX12_asks_1 : decode cX12_asks 1 = .ok (.iconst 0, 1) := by decide +kernel
theorem dX12_asks_2 : decode cX12_asks 2 = .ok (.putfield 79, 3) := by decide +kernel
theorem dX12_asks_5 : decode cX12_asks 5 = .ok (.aload_n 0, 1) := by decide +kernel
theorem dX12_asks_6 : decode cX12_asks 6 = .ok (.invokevirtual 384, 3) := by decide +kernel
theorem dX12_asks_9 : decode cX12_asks 9 = .ok (.istore_n 1, 1) := by decide +kernel
theorem dX12_asks_10 : decode cX12_asks 10 = .ok (.iload_n 1, 1) := by decide +kernel
theorem dX12_asks_11 : decode cX12_asks 11 = .ok (.ifCond .ne 6, 3) := by decide +kernel
theorem dX12_asks_14 : decode cX12_asks 14 = .ok (.bipush (-2), 2) := by decide +kernel
theorem dX12_asks_16 : decode cX12_asks 16 = .ok (.ireturn, 1) := by decide +kernel
theorem dX12_asks_17 : decode cX12_asks 17 = .ok (.iconst (-1), 1) := by decide +kernel
theorem dX12_asks_18 : decode cX12_asks 18 = .ok (.istore_n 2, 1) := by decide +kernel
theorem dX12_asks_19 : decode cX12_asks 19 = .ok (.ldc_w 387, 3) := by decide +kernel
theorem dX12_asks_22 : decode cX12_asks 22 = .ok (.istore_n 3, 1) := by decide +kernel
theorem dX12_asks_23 : decode cX12_asks 23 = .ok (.iconst 0, 1) := by decide +kernel
theorem dX12_asks_24 : decode cX12_asks 24 = .ok (.istore 4, 2) := by decide +kernel
theorem dX12_asks_26 : decode cX12_asks 26 = .ok (.iload 4, 2) := by decide +kernel
theorem dX12_asks_28 : decode cX12_asks 28 = .ok (.bipush 50, 2) := by decide +kernel
theorem dX12_asks_30 : decode cX12_asks 30 = .ok (.if_icmp .ge 114, 3) := by decide +kernel
theorem dX12_asks_33 : decode cX12_asks 33 = .ok (.iload 4, 2) := by decide +kernel
theorem dX12_asks_35 : decode cX12_asks 35 = .ok (.bipush 10, 2) := by decide +kernel
theorem dX12_asks_37 : decode cX12_asks 37 = .ok (.irem, 1) := by decide +kernel
theorem dX12_asks_38 : decode cX12_asks 38 = .ok (.iload 4, 2) := by decide +kernel
theorem dX12_asks_40 : decode cX12_asks 40 = .ok (.bipush 10, 2) := by decide +kernel
theorem dX12_asks_42 : decode cX12_asks 42 = .ok (.idiv, 1) := by decide +kernel
theorem dX12_asks_43 : decode cX12_asks 43 = .ok (.invokestatic 375, 3) := by decide +kernel
theorem dX12_asks_46 : decode cX12_asks 46 = .ok (.if_icmp .le 6, 3) := by decide +kernel
theorem dX12_asks_49 : decode cX12_asks 49 = .ok (.goto 89, 3) := by decide +kernel
theorem dX12_asks_52 : decode cX12_asks 52 = .ok (.iconst 0, 1) := by decide +kernel
theorem dX12_asks_53 : decode cX12_asks 53 = .ok (.istore 5, 2) := by decide +kernel
theorem dX12_asks_55 : decode cX12_asks 55 = .ok (.iconst 0, 1) := by decide +kernel
theorem dX12_asks_56 : decode cX12_asks 56 = .ok (.istore 6, 2) := by decide +kernel
theorem dX12_asks_58 : decode cX12_asks 58 = .ok (.iload 6, 2) := by decide +kernel
theorem dX12_asks_60 : decode cX12_asks 60 = .ok (.bipush 24, 2) := by decide +kernel
theorem dX12_asks_62 : decode cX12_asks 62 = .ok (.if_icmp .ge 47, 3) := by decide +kernel
theorem dX12_asks_65 : decode cX12_asks 65 = .ok (.iload 5, 2) := by decide +kernel
theorem dX12_asks_67 : decode cX12_asks 67 = .ok (.iload_n 1, 1) := by decide +kernel
theorem dX12_asks_68 : decode cX12_asks 68 = .ok (.iload 6, 2) := by decide +kernel
theorem dX12_asks_70 : decode cX12_asks 70 = .ok (.invokestatic 94, 3) := by decide +kernel
theorem dX12_asks_73 : decode cX12_asks 73 = .ok (.ifCond .eq 26, 3) := by decide +kernel
theorem dX12_asks_76 : decode cX12_asks 76 = .ok (.aload_n 0, 1) := by decide +kernel
theorem dX12_asks_77 : decode cX12_asks 77 = .ok (.iload 6, 2) := by decide +kernel
theorem dX12_asks_79 : decode cX12_asks 79 = .ok (.iload 4, 2) := by decide +kernel
theorem dX12_asks_81 : decode cX12_asks 81 = .ok (.bipush 10, 2) := by decide +kernel
theorem dX12_asks_83 : decode cX12_asks 83 = .ok (.idiv, 1) := by decide +kernel
theorem dX12_asks_84 : decode cX12_asks 84 = .ok (.iload 4, 2) := by decide +kernel
theorem dX12_asks_86 : decode cX12_asks 86 = .ok (.bipush 10, 2) := by decide +kernel
theorem dX12_asks_88 : decode cX12_asks 88 = .ok (.irem, 1) := by decide +kernel
theorem dX12_asks_89 : decode cX12_asks 89 = .ok (.invokevirtual 381, 3) := by decide +kernel
theorem dX12_asks_92 : decode cX12_asks 92 = .ok (.ifCond .eq 7, 3) := by decide +kernel
theorem dX12_asks_95 : decode cX12_asks 95 = .ok (.iconst 1, 1) := by decide +kernel
theorem dX12_asks_96 : decode cX12_asks 96 = .ok (.goto 4, 3) := by decide +kernel
theorem dX12_asks_99 : decode cX12_asks 99 = .ok (.iconst 0, 1) := by decide +kernel
theorem dX12_asks_100 : decode cX12_asks 100 = .ok (.iadd, 1) := by decide +kernel
theorem dX12_asks_101 : decode cX12_asks 101 = .ok (.istore 5, 2) := by decide +kernel
theorem dX12_asks_103 : decode cX12_asks 103 = .ok (.iinc 6 1, 3) := by decide +kernel
theorem dX12_asks_106 : decode cX12_asks 106 = .ok (.goto (-48), 3) := by decide +kernel
theorem dX12_asks_109 : decode cX12_asks 109 = .ok (.iload 5, 2) := by decide +kernel
theorem dX12_asks_111 : decode cX12_asks 111 = .ok (.iload_n 1, 1) := by decide +kernel
theorem dX12_asks_112 : decode cX12_asks 112 = .ok (.invokestatic 192, 3) := by decide +kernel
theorem dX12_asks_115 : decode cX12_asks 115 = .ok (.iload 5, 2) := by decide +kernel
theorem dX12_asks_117 : decode cX12_asks 117 = .ok (.isub, 1) := by decide +kernel
theorem dX12_asks_118 : decode cX12_asks 118 = .ok (.invokestatic 369, 3) := by decide +kernel
theorem dX12_asks_121 : decode cX12_asks 121 = .ok (.istore 6, 2) := by decide +kernel
theorem dX12_asks_123 : decode cX12_asks 123 = .ok (.iload 6, 2) := by decide +kernel
theorem dX12_asks_125 : decode cX12_asks 125 = .ok (.iload_n 3, 1) := by decide +kernel
theorem dX12_asks_126 : decode cX12_asks 126 = .ok (.if_icmp .lt 6, 3) := by decide +kernel
theorem dX12_asks_129 : decode cX12_asks 129 = .ok (.goto 9, 3) := by decide +kernel
theorem dX12_asks_132 : decode cX12_asks 132 = .ok (.iload 4, 2) := by decide +kernel
theorem dX12_asks_134 : decode cX12_asks 134 = .ok (.istore_n 2, 1) := by decide +kernel
theorem dX12_asks_135 : decode cX12_asks 135 = .ok (.iload 6, 2) := by decide +kernel
theorem dX12_asks_137 : decode cX12_asks 137 = .ok (.istore_n 3, 1) := by decide +kernel
theorem dX12_asks_138 : decode cX12_asks 138 = .ok (.iinc 4 1, 3) := by decide +kernel
theorem dX12_asks_141 : decode cX12_asks 141 = .ok (.goto (-115), 3) := by decide +kernel
theorem dX12_asks_144 : decode cX12_asks 144 = .ok (.aload_n 0, 1) := by decide +kernel
theorem dX12_asks_145 : decode cX12_asks 145 = .ok (.iconst 0, 1) := by decide +kernel
theorem dX12_asks_146 : decode cX12_asks 146 = .ok (.putfield 83, 3) := by decide +kernel
theorem dX12_asks_149 : decode cX12_asks 149 = .ok (.aload_n 0, 1) := by decide +kernel
theorem dX12_asks_150 : decode cX12_asks 150 = .ok (.iload_n 3, 1) := by decide +kernel
theorem dX12_asks_151 : decode cX12_asks 151 = .ok (.i2l, 1) := by decide +kernel
theorem dX12_asks_152 : decode cX12_asks 152 = .ok (.invokevirtual 228, 3) := by decide +kernel
theorem dX12_asks_155 : decode cX12_asks 155 = .ok (.iload_n 2, 1) := by decide +kernel
theorem dX12_asks_156 : decode cX12_asks 156 = .ok (.ireturn, 1) := by decide +kernel
theorem dX12_saw_0 : decode cX12_saw 0 = .ok (.aload_n 0, 1) := by decide +kernel
theorem dX12_saw_1 : decode cX12_saw 1 = .ok (.iconst 0, 1) := by decide +kernel
theorem dX12_saw_2 : decode cX12_saw 2 = .ok (.putfield 79, 3) := by decide +kernel
theorem dX12_saw_5 : decode cX12_saw 5 = .ok (.iload_n 1, 1) := by decide +kernel
theorem dX12_saw_6 : decode cX12_saw 6 = .ok (.iconst 0, 1) := by decide +kernel
theorem dX12_saw_7 : decode cX12_saw 7 = .ok (.bipush 9, 2) := by decide +kernel
theorem dX12_saw_9 : decode cX12_saw 9 = .ok (.invokestatic 86, 3) := by decide +kernel
theorem dX12_saw_12 : decode cX12_saw 12 = .ok (.ifCond .eq 30, 3) := by decide +kernel
theorem dX12_saw_15 : decode cX12_saw 15 = .ok (.iload_n 2, 1) := by decide +kernel
theorem dX12_saw_16 : decode cX12_saw 16 = .ok (.iconst 0, 1) := by decide +kernel
theorem dX12_saw_17 : decode cX12_saw 17 = .ok (.iconst 4, 1) := by decide +kernel
theorem dX12_saw_18 : decode cX12_saw 18 = .ok (.invokestatic 86, 3) := by decide +kernel
theorem dX12_saw_21 : decode cX12_saw 21 = .ok (.ifCond .eq 21, 3) := by decide +kernel
theorem dX12_saw_24 : decode cX12_saw 24 = .ok (.iload_n 3, 1) := by decide +kernel
theorem dX12_saw_25 : decode cX12_saw 25 = .ok (.iconst 0, 1) := by decide +kernel
theorem dX12_saw_26 : decode cX12_saw 26 = .ok (.iconst 1, 1) := by decide +kernel
theorem dX12_saw_27 : decode cX12_saw 27 = .ok (.invokestatic 86, 3) := by decide +kernel
theorem dX12_saw_30 : decode cX12_saw 30 = .ok (.ifCond .eq 12, 3) := by decide +kernel
theorem dX12_saw_33 : decode cX12_saw 33 = .ok (.aload_n 0, 1) := by decide +kernel
theorem dX12_saw_34 : decode cX12_saw 34 = .ok (.getfield 388, 3) := by decide +kernel
theorem dX12_saw_37 : decode cX12_saw 37 = .ok (.bipush 10, 2) := by decide +kernel
theorem dX12_saw_39 : decode cX12_saw 39 = .ok (.if_icmp .ne 5, 3) := by decide +kernel
theorem dX12_saw_42 : decode cX12_saw 42 = .ok (.iconst (-1), 1) := by decide +kernel
theorem dX12_saw_43 : decode cX12_saw 43 = .ok (.ireturn, 1) := by decide +kernel
theorem dX12_saw_44 : decode cX12_saw 44 = .ok (.aload_n 0, 1) := by decide +kernel
theorem dX12_saw_45 : decode cX12_saw 45 = .ok (.getfield 60, 3) := by decide +kernel
theorem dX12_saw_48 : decode cX12_saw 48 = .ok (.aload_n 0, 1) := by decide +kernel
theorem dX12_saw_49 : decode cX12_saw 49 = .ok (.getfield 388, 3) := by decide +kernel
theorem dX12_saw_52 : decode cX12_saw 52 = .ok (.iload_n 1, 1) := by decide +kernel
theorem dX12_saw_53 : decode cX12_saw 53 = .ok (.iastore, 1) := by decide +kernel
theorem dX12_saw_54 : decode cX12_saw 54 = .ok (.aload_n 0, 1) := by decide +kernel
theorem dX12_saw_55 : decode cX12_saw 55 = .ok (.getfield 63, 3) := by decide +kernel
theorem dX12_saw_58 : decode cX12_saw 58 = .ok (.aload_n 0, 1) := by decide +kernel
theorem dX12_saw_59 : decode cX12_saw 59 = .ok (.getfield 388, 3) := by decide +kernel
theorem dX12_saw_62 : decode cX12_saw 62 = .ok (.iload_n 2, 1) := by decide +kernel
theorem dX12_saw_63 : decode cX12_saw 63 = .ok (.iastore, 1) := by decide +kernel
theorem dX12_saw_64 : decode cX12_saw 64 = .ok (.aload_n 0, 1) := by decide +kernel
theorem dX12_saw_65 : decode cX12_saw 65 = .ok (.getfield 66, 3) := by decide +kernel
theorem dX12_saw_68 : decode cX12_saw 68 = .ok (.aload_n 0, 1) := by decide +kernel
theorem dX12_saw_69 : decode cX12_saw 69 = .ok (.getfield 388, 3) := by decide +kernel
theorem dX12_saw_72 : decode cX12_saw 72 = .ok (.iload_n 3, 1) := by decide +kernel
theorem dX12_saw_73 : decode cX12_saw 73 = .ok (.iastore, 1) := by decide +kernel
theorem dX12_saw_74 : decode cX12_saw 74 = .ok (.aload_n 0, 1) := by decide +kernel
theorem dX12_saw_75 : decode cX12_saw 75 = .ok (.dup, 1) := by decide +kernel
theorem dX12_saw_76 : decode cX12_saw 76 = .ok (.getfield 388, 3) := by decide +kernel
theorem dX12_saw_79 : decode cX12_saw 79 = .ok (.iconst 1, 1) := by decide +kernel
theorem dX12_saw_80 : decode cX12_saw 80 = .ok (.iadd, 1) := by decide +kernel
theorem dX12_saw_81 : decode cX12_saw 81 = .ok (.putfield 388, 3) := by decide +kernel
theorem dX12_saw_84 : decode cX12_saw 84 = .ok (.aload_n 0, 1) := by decide +kernel
theorem dX12_saw_85 : decode cX12_saw 85 = .ok (.getfield 388, 3) := by decide +kernel
theorem dX12_saw_88 : decode cX12_saw 88 = .ok (.ireturn, 1) := by decide +kernel
theorem dX12_denies_0 : decode cX12_denies 0 = .ok (.aload_n 0, 1) := by decide +kernel
theorem dX12_denies_1 : decode cX12_denies 1 = .ok (.iconst 0, 1) := by decide +kernel
theorem dX12_denies_2 : decode cX12_denies 2 = .ok (.putfield 79, 3) := by decide +kernel
theorem dX12_denies_5 : decode cX12_denies 5 = .ok (.aload_n 0, 1) := by decide +kernel
theorem dX12_denies_6 : decode cX12_denies 6 = .ok (.getfield 388, 3) := by decide +kernel
theorem dX12_denies_9 : decode cX12_denies 9 = .ok (.istore_n 1, 1) := by decide +kernel
theorem dX12_denies_10 : decode cX12_denies 10 = .ok (.aload_n 0, 1) := by decide +kernel
theorem dX12_denies_11 : decode cX12_denies 11 = .ok (.iconst 0, 1) := by decide +kernel
theorem dX12_denies_12 : decode cX12_denies 12 = .ok (.putfield 388, 3) := by decide +kernel
theorem dX12_denies_15 : decode cX12_denies 15 = .ok (.iload_n 1, 1) := by decide +kernel
theorem dX12_denies_16 : decode cX12_denies 16 = .ok (.ireturn, 1) := by decide +kernel
theorem dX12_comesBy_0 : decode cX12_comesBy 0 = .ok (.iload_n 1, 1) := by decide +kernel
theorem dX12_comesBy_1 : decode cX12_comesBy 1 = .ok (.iload_n 0, 1) := by decide +kernel
theorem dX12_comesBy_2 : decode cX12_comesBy 2 = .ok (.iconst 5, 1) := by decide +kernel
theorem dX12_comesBy_3 : decode cX12_comesBy 3 = .ok (.idiv, 1) := by decide +kernel
theorem dX12_comesBy_4 : decode cX12_comesBy 4 = .ok (.if_icmp .gt 14, 3) := by decide +kernel
theorem dX12_comesBy_7 : decode cX12_comesBy 7 = .ok (.iload_n 2, 1) := by decide +kernel
theorem dX12_comesBy_8 : decode cX12_comesBy 8 = .ok (.iload_n 0, 1) := by decide +kernel
theorem dX12_comesBy_9 : decode cX12_comesBy 9 = .ok (.iconst 5, 1) := by decide +kernel
theorem dX12_comesBy_10 : decode cX12_comesBy 10 = .ok (.irem, 1) := by decide +kernel
theorem dX12_comesBy_11 : decode cX12_comesBy 11 = .ok (.if_icmp .lt 7, 3) := by decide +kernel
theorem dX12_comesBy_14 : decode cX12_comesBy 14 = .ok (.iconst 1, 1) := by decide +kernel
theorem dX12_comesBy_15 : decode cX12_comesBy 15 = .ok (.goto 4, 3) := by decide +kernel
theorem dX12_comesBy_18 : decode cX12_comesBy 18 = .ok (.iconst 0, 1) := by decide +kernel
theorem dX12_comesBy_19 : decode cX12_comesBy 19 = .ok (.ireturn, 1) := by decide +kernel
theorem dX12_isLaw_0 : decode cX12_isLaw 0 = .ok (.iconst 0, 1) := by decide +kernel
theorem dX12_isLaw_1 : decode cX12_isLaw 1 = .ok (.istore_n 2, 1) := by decide +kernel
theorem dX12_isLaw_2 : decode cX12_isLaw 2 = .ok (.iload_n 2, 1) := by decide +kernel
theorem dX12_isLaw_3 : decode cX12_isLaw 3 = .ok (.aload_n 0, 1) := by decide +kernel
theorem dX12_isLaw_4 : decode cX12_isLaw 4 = .ok (.getfield 388, 3) := by decide +kernel
theorem dX12_isLaw_7 : decode cX12_isLaw 7 = .ok (.if_icmp .ge 45, 3) := by decide +kernel
theorem dX12_isLaw_10 : decode cX12_isLaw 10 = .ok (.iload_n 1, 1) := by decide +kernel
theorem dX12_isLaw_11 : decode cX12_isLaw 11 = .ok (.aload_n 0, 1) := by decide +kernel
theorem dX12_isLaw_12 : decode cX12_isLaw 12 = .ok (.getfield 60, 3) := by decide +kernel
theorem dX12_isLaw_15 : decode cX12_isLaw 15 = .ok (.iload_n 2, 1) := by decide +kernel
theorem dX12_isLaw_16 : decode cX12_isLaw 16 = .ok (.iaload, 1) := by decide +kernel
theorem dX12_isLaw_17 : decode cX12_isLaw 17 = .ok (.aload_n 0, 1) := by decide +kernel
theorem dX12_isLaw_18 : decode cX12_isLaw 18 = .ok (.getfield 63, 3) := by decide +kernel
theorem dX12_isLaw_21 : decode cX12_isLaw 21 = .ok (.iload_n 2, 1) := by decide +kernel
theorem dX12_isLaw_22 : decode cX12_isLaw 22 = .ok (.iaload, 1) := by decide +kernel
theorem dX12_isLaw_23 : decode cX12_isLaw 23 = .ok (.invokestatic 391, 3) := by decide +kernel
theorem dX12_isLaw_26 : decode cX12_isLaw 26 = .ok (.aload_n 0, 1) := by decide +kernel
theorem dX12_isLaw_27 : decode cX12_isLaw 27 = .ok (.getfield 66, 3) := by decide +kernel
theorem dX12_isLaw_30 : decode cX12_isLaw 30 = .ok (.iload_n 2, 1) := by decide +kernel
theorem dX12_isLaw_31 : decode cX12_isLaw 31 = .ok (.iaload, 1) := by decide +kernel
theorem dX12_isLaw_32 : decode cX12_isLaw 32 = .ok (.iconst 1, 1) := by decide +kernel
theorem dX12_isLaw_33 : decode cX12_isLaw 33 = .ok (.if_icmp .ne 7, 3) := by decide +kernel
theorem dX12_isLaw_36 : decode cX12_isLaw 36 = .ok (.iconst 1, 1) := by decide +kernel
theorem dX12_isLaw_37 : decode cX12_isLaw 37 = .ok (.goto 4, 3) := by decide +kernel
theorem dX12_isLaw_40 : decode cX12_isLaw 40 = .ok (.iconst 0, 1) := by decide +kernel
theorem dX12_isLaw_41 : decode cX12_isLaw 41 = .ok (.if_icmp .eq 5, 3) := by decide +kernel
theorem dX12_isLaw_44 : decode cX12_isLaw 44 = .ok (.iconst 0, 1) := by decide +kernel
theorem dX12_isLaw_45 : decode cX12_isLaw 45 = .ok (.ireturn, 1) := by decide +kernel
theorem dX12_isLaw_46 : decode cX12_isLaw 46 = .ok (.iinc 2 1, 3) := by decide +kernel
theorem dX12_isLaw_49 : decode cX12_isLaw 49 = .ok (.goto (-47), 3) := by decide +kernel
theorem dX12_isLaw_52 : decode cX12_isLaw 52 = .ok (.iconst 1, 1) := by decide +kernel
theorem dX12_isLaw_53 : decode cX12_isLaw 53 = .ok (.ireturn, 1) := by decide +kernel
theorem dX12_laws_0 : decode cX12_laws 0 = .ok (.aload_n 0, 1) := by decide +kernel
theorem dX12_laws_1 : decode cX12_laws 1 = .ok (.iconst 0, 1) := by decide +kernel
theorem dX12_laws_2 : decode cX12_laws 2 = .ok (.putfield 79, 3) := by decide +kernel
theorem dX12_laws_5 : decode cX12_laws 5 = .ok (.iconst 0, 1) := by decide +kernel
theorem dX12_laws_6 : decode cX12_laws 6 = .ok (.istore_n 1, 1) := by decide +kernel
theorem dX12_laws_7 : decode cX12_laws 7 = .ok (.aload_n 0, 1) := by decide +kernel
theorem dX12_laws_8 : decode cX12_laws 8 = .ok (.iconst 0, 1) := by decide +kernel
theorem dX12_laws_9 : decode cX12_laws 9 = .ok (.putfield 83, 3) := by decide +kernel
theorem dX12_laws_12 : decode cX12_laws 12 = .ok (.iconst 0, 1) := by decide +kernel
theorem dX12_laws_13 : decode cX12_laws 13 = .ok (.istore_n 2, 1) := by decide +kernel
theorem dX12_laws_14 : decode cX12_laws 14 = .ok (.iload_n 2, 1) := by decide +kernel
theorem dX12_laws_15 : decode cX12_laws 15 = .ok (.bipush 35, 2) := by decide +kernel
theorem dX12_laws_17 : decode cX12_laws 17 = .ok (.if_icmp .ge 43, 3) := by decide +kernel
theorem dX12_laws_20 : decode cX12_laws 20 = .ok (.aload_n 0, 1) := by decide +kernel
theorem dX12_laws_21 : decode cX12_laws 21 = .ok (.iload_n 2, 1) := by decide +kernel
theorem dX12_laws_22 : decode cX12_laws 22 = .ok (.invokevirtual 394, 3) := by decide +kernel
theorem dX12_laws_25 : decode cX12_laws 25 = .ok (.ifCond .ne 6, 3) := by decide +kernel
theorem dX12_laws_28 : decode cX12_laws 28 = .ok (.goto 26, 3) := by decide +kernel
theorem dX12_laws_31 : decode cX12_laws 31 = .ok (.iload_n 1, 1) := by decide +kernel
theorem dX12_laws_32 : decode cX12_laws 32 = .ok (.ifCond .ne 19, 3) := by decide +kernel
theorem dX12_laws_35 : decode cX12_laws 35 = .ok (.aload_n 0, 1) := by decide +kernel
theorem dX12_laws_36 : decode cX12_laws 36 = .ok (.iload_n 2, 1) := by decide +kernel
theorem dX12_laws_37 : decode cX12_laws 37 = .ok (.iconst 5, 1) := by decide +kernel
theorem dX12_laws_38 : decode cX12_laws 38 = .ok (.idiv, 1) := by decide +kernel
theorem dX12_laws_39 : decode cX12_laws 39 = .ok (.i2l, 1) := by decide +kernel
theorem dX12_laws_40 : decode cX12_laws 40 = .ok (.invokevirtual 228, 3) := by decide +kernel
theorem dX12_laws_43 : decode cX12_laws 43 = .ok (.aload_n 0, 1) := by decide +kernel
theorem dX12_laws_44 : decode cX12_laws 44 = .ok (.iload_n 2, 1) := by decide +kernel
theorem dX12_laws_45 : decode cX12_laws 45 = .ok (.iconst 5, 1) := by decide +kernel
theorem dX12_laws_46 : decode cX12_laws 46 = .ok (.irem, 1) := by decide +kernel
theorem dX12_laws_47 : decode cX12_laws 47 = .ok (.i2l, 1) := by decide +kernel
theorem dX12_laws_48 : decode cX12_laws 48 = .ok (.invokevirtual 228, 3) := by decide +kernel
theorem dX12_laws_51 : decode cX12_laws 51 = .ok (.iinc 1 1, 3) := by decide +kernel
theorem dX12_laws_54 : decode cX12_laws 54 = .ok (.iinc 2 1, 3) := by decide +kernel
theorem dX12_laws_57 : decode cX12_laws 57 = .ok (.goto (-43), 3) := by decide +kernel
theorem dX12_laws_60 : decode cX12_laws 60 = .ok (.iload_n 1, 1) := by decide +kernel
theorem dX12_laws_61 : decode cX12_laws 61 = .ok (.ireturn, 1) := by decide +kernel
theorem dX12_looks_0 : decode cX12_looks 0 = .ok (.aload_n 0, 1) := by decide +kernel
theorem dX12_looks_1 : decode cX12_looks 1 = .ok (.iconst 0, 1) := by decide +kernel
theorem dX12_looks_2 : decode cX12_looks 2 = .ok (.putfield 79, 3) := by decide +kernel
theorem dX12_looks_5 : decode cX12_looks 5 = .ok (.iconst (-1), 1) := by decide +kernel
theorem dX12_looks_6 : decode cX12_looks 6 = .ok (.istore_n 1, 1) := by decide +kernel
theorem dX12_looks_7 : decode cX12_looks 7 = .ok (.ldc_w 387, 3) := by decide +kernel
theorem dX12_looks_10 : decode cX12_looks 10 = .ok (.istore_n 2, 1) := by decide +kernel
theorem dX12_looks_11 : decode cX12_looks 11 = .ok (.iconst 0, 1) := by decide +kernel
theorem dX12_looks_12 : decode cX12_looks 12 = .ok (.istore_n 3, 1) := by decide +kernel
theorem dX12_looks_13 : decode cX12_looks 13 = .ok (.iload_n 3, 1) := by decide +kernel
theorem dX12_looks_14 : decode cX12_looks 14 = .ok (.bipush 9, 2) := by decide +kernel
theorem dX12_looks_16 : decode cX12_looks 16 = .ok (.if_icmp .gt 108, 3) := by decide +kernel
theorem dX12_looks_19 : decode cX12_looks 19 = .ok (.iconst 0, 1) := by decide +kernel
theorem dX12_looks_20 : decode cX12_looks 20 = .ok (.istore 4, 2) := by decide +kernel
theorem dX12_looks_22 : decode cX12_looks 22 = .ok (.iload 4, 2) := by decide +kernel
theorem dX12_looks_24 : decode cX12_looks 24 = .ok (.iconst 4, 1) := by decide +kernel
theorem dX12_looks_25 : decode cX12_looks 25 = .ok (.if_icmp .gt 93, 3) := by decide +kernel
theorem dX12_looks_28 : decode cX12_looks 28 = .ok (.iconst 0, 1) := by decide +kernel
theorem dX12_looks_29 : decode cX12_looks 29 = .ok (.istore 5, 2) := by decide +kernel
theorem dX12_looks_31 : decode cX12_looks 31 = .ok (.iconst 0, 1) := by decide +kernel
theorem dX12_looks_32 : decode cX12_looks 32 = .ok (.istore 6, 2) := by decide +kernel
theorem dX12_looks_34 : decode cX12_looks 34 = .ok (.iconst 0, 1) := by decide +kernel
theorem dX12_looks_35 : decode cX12_looks 35 = .ok (.istore 7, 2) := by decide +kernel
theorem dX12_looks_37 : decode cX12_looks 37 = .ok (.iload 7, 2) := by decide +kernel
theorem dX12_looks_39 : decode cX12_looks 39 = .ok (.bipush 35, 2) := by decide +kernel
theorem dX12_looks_41 : decode cX12_looks 41 = .ok (.if_icmp .ge 41, 3) := by decide +kernel
theorem dX12_looks_44 : decode cX12_looks 44 = .ok (.aload_n 0, 1) := by decide +kernel
theorem dX12_looks_45 : decode cX12_looks 45 = .ok (.iload 7, 2) := by decide +kernel
theorem dX12_looks_47 : decode cX12_looks 47 = .ok (.invokevirtual 394, 3) := by decide +kernel
theorem dX12_looks_50 : decode cX12_looks 50 = .ok (.ifCond .ne 6, 3) := by decide +kernel
theorem dX12_looks_53 : decode cX12_looks 53 = .ok (.goto 23, 3) := by decide +kernel
theorem dX12_looks_56 : decode cX12_looks 56 = .ok (.iload 7, 2) := by decide +kernel
theorem dX12_looks_58 : decode cX12_looks 58 = .ok (.iload_n 3, 1) := by decide +kernel
theorem dX12_looks_59 : decode cX12_looks 59 = .ok (.iload 4, 2) := by decide +kernel
theorem dX12_looks_61 : decode cX12_looks 61 = .ok (.invokestatic 391, 3) := by decide +kernel
theorem dX12_looks_64 : decode cX12_looks 64 = .ok (.ifCond .eq 9, 3) := by decide +kernel
theorem dX12_looks_67 : decode cX12_looks 67 = .ok (.iinc 5 1, 3) := by decide +kernel
theorem dX12_looks_70 : decode cX12_looks 70 = .ok (.goto 6, 3) := by decide +kernel
theorem dX12_looks_73 : decode cX12_looks 73 = .ok (.iinc 6 1, 3) := by decide +kernel
theorem dX12_looks_76 : decode cX12_looks 76 = .ok (.iinc 7 1, 3) := by decide +kernel
theorem dX12_looks_79 : decode cX12_looks 79 = .ok (.goto (-42), 3) := by decide +kernel
theorem dX12_looks_82 : decode cX12_looks 82 = .ok (.iload 5, 2) := by decide +kernel
theorem dX12_looks_84 : decode cX12_looks 84 = .ok (.iload 6, 2) := by decide +kernel
theorem dX12_looks_86 : decode cX12_looks 86 = .ok (.invokestatic 369, 3) := by decide +kernel
theorem dX12_looks_89 : decode cX12_looks 89 = .ok (.iload_n 2, 1) := by decide +kernel
theorem dX12_looks_90 : decode cX12_looks 90 = .ok (.if_icmp .lt 6, 3) := by decide +kernel
theorem dX12_looks_93 : decode cX12_looks 93 = .ok (.goto 19, 3) := by decide +kernel
theorem dX12_looks_96 : decode cX12_looks 96 = .ok (.bipush 10, 2) := by decide +kernel
theorem dX12_looks_98 : decode cX12_looks 98 = .ok (.iload_n 3, 1) := by decide +kernel
theorem dX12_looks_99 : decode cX12_looks 99 = .ok (.imul, 1) := by decide +kernel
theorem dX12_looks_100 : decode cX12_looks 100 = .ok (.iload 4, 2) := by decide +kernel
theorem dX12_looks_102 : decode cX12_looks 102 = .ok (.iadd, 1) := by decide +kernel
theorem dX12_looks_103 : decode cX12_looks 103 = .ok (.istore_n 1, 1) := by decide +kernel
theorem dX12_looks_104 : decode cX12_looks 104 = .ok (.iload 5, 2) := by decide +kernel
theorem dX12_looks_106 : decode cX12_looks 106 = .ok (.iload 6, 2) := by decide +kernel
theorem dX12_looks_108 : decode cX12_looks 108 = .ok (.invokestatic 369, 3) := by decide +kernel
theorem dX12_looks_111 : decode cX12_looks 111 = .ok (.istore_n 2, 1) := by decide +kernel
theorem dX12_looks_112 : decode cX12_looks 112 = .ok (.iinc 4 1, 3) := by decide +kernel
theorem dX12_looks_115 : decode cX12_looks 115 = .ok (.goto (-93), 3) := by decide +kernel
theorem dX12_looks_118 : decode cX12_looks 118 = .ok (.iinc 3 1, 3) := by decide +kernel
theorem dX12_looks_121 : decode cX12_looks 121 = .ok (.goto (-108), 3) := by decide +kernel
theorem dX12_looks_124 : decode cX12_looks 124 = .ok (.iload_n 2, 1) := by decide +kernel
theorem dX12_looks_125 : decode cX12_looks 125 = .ok (.ifCond .ne 6, 3) := by decide +kernel
theorem dX12_looks_128 : decode cX12_looks 128 = .ok (.bipush (-2), 2) := by decide +kernel
theorem dX12_looks_130 : decode cX12_looks 130 = .ok (.ireturn, 1) := by decide +kernel
theorem dX12_looks_131 : decode cX12_looks 131 = .ok (.aload_n 0, 1) := by decide +kernel
theorem dX12_looks_132 : decode cX12_looks 132 = .ok (.iconst 0, 1) := by decide +kernel
theorem dX12_looks_133 : decode cX12_looks 133 = .ok (.putfield 83, 3) := by decide +kernel
theorem dX12_looks_136 : decode cX12_looks 136 = .ok (.aload_n 0, 1) := by decide +kernel
theorem dX12_looks_137 : decode cX12_looks 137 = .ok (.iload_n 2, 1) := by decide +kernel
theorem dX12_looks_138 : decode cX12_looks 138 = .ok (.i2l, 1) := by decide +kernel
theorem dX12_looks_139 : decode cX12_looks 139 = .ok (.invokevirtual 228, 3) := by decide +kernel
theorem dX12_looks_142 : decode cX12_looks 142 = .ok (.iload_n 1, 1) := by decide +kernel
theorem dX12_looks_143 : decode cX12_looks 143 = .ok (.ireturn, 1) := by decide +kernel
theorem dX12_common_0 : decode cX12_common 0 = .ok (.lload_n 2, 1) := by decide +kernel
theorem dX12_common_1 : decode cX12_common 1 = .ok (.lconst 0, 1) := by decide +kernel
theorem dX12_common_2 : decode cX12_common 2 = .ok (.lcmp, 1) := by decide +kernel
theorem dX12_common_3 : decode cX12_common 3 = .ok (.ifCond .ne 7, 3) := by decide +kernel
theorem dX12_common_6 : decode cX12_common 6 = .ok (.lload_n 0, 1) := by decide +kernel
theorem dX12_common_7 : decode cX12_common 7 = .ok (.goto 10, 3) := by decide +kernel
theorem dX12_common_10 : decode cX12_common 10 = .ok (.lload_n 2, 1) := by decide +kernel
theorem dX12_common_11 : decode cX12_common 11 = .ok (.lload_n 0, 1) := by decide +kernel
theorem dX12_common_12 : decode cX12_common 12 = .ok (.lload_n 2, 1) := by decide +kernel
theorem dX12_common_13 : decode cX12_common 13 = .ok (.lrem, 1) := by decide +kernel
theorem dX12_common_14 : decode cX12_common 14 = .ok (.invokestatic 397, 3) := by decide +kernel
theorem dX12_common_17 : decode cX12_common 17 = .ok (.lreturn, 1) := by decide +kernel
theorem dX12_odds_0 : decode cX12_odds 0 = .ok (.aload_n 0, 1) := by decide +kernel
theorem dX12_odds_1 : decode cX12_odds 1 = .ok (.iconst 0, 1) := by decide +kernel
theorem dX12_odds_2 : decode cX12_odds 2 = .ok (.putfield 79, 3) := by decide +kernel
theorem dX12_odds_5 : decode cX12_odds 5 = .ok (.aload_n 0, 1) := by decide +kernel
theorem dX12_odds_6 : decode cX12_odds 6 = .ok (.getfield 9, 3) := by decide +kernel
theorem dX12_odds_9 : decode cX12_odds 9 = .ok (.iload_n 1, 1) := by decide +kernel
theorem dX12_odds_10 : decode cX12_odds 10 = .ok (.invokestatic 90, 3) := by decide +kernel
theorem dX12_odds_13 : decode cX12_odds 13 = .ok (.ifCond .eq 23, 3) := by decide +kernel
theorem dX12_odds_16 : decode cX12_odds 16 = .ok (.iload_n 2, 1) := by decide +kernel
theorem dX12_odds_17 : decode cX12_odds 17 = .ok (.iconst 0, 1) := by decide +kernel
theorem dX12_odds_18 : decode cX12_odds 18 = .ok (.bipush 16, 2) := by decide +kernel
theorem dX12_odds_20 : decode cX12_odds 20 = .ok (.invokestatic 86, 3) := by decide +kernel
theorem dX12_odds_23 : decode cX12_odds 23 = .ok (.ifCond .eq 13, 3) := by decide +kernel
theorem dX12_odds_26 : decode cX12_odds 26 = .ok (.iload_n 3, 1) := by decide +kernel
theorem dX12_odds_27 : decode cX12_odds 27 = .ok (.iconst 0, 1) := by decide +kernel
theorem dX12_odds_28 : decode cX12_odds 28 = .ok (.bipush 10, 2) := by decide +kernel
theorem dX12_odds_30 : decode cX12_odds 30 = .ok (.invokestatic 86, 3) := by decide +kernel
theorem dX12_odds_33 : decode cX12_odds 33 = .ok (.ifCond .ne 5, 3) := by decide +kernel
theorem dX12_odds_36 : decode cX12_odds 36 = .ok (.iconst (-1), 1) := by decide +kernel
theorem dX12_odds_37 : decode cX12_odds 37 = .ok (.ireturn, 1) := by decide +kernel
theorem dX12_odds_38 : decode cX12_odds 38 = .ok (.aload_n 0, 1) := by decide +kernel
theorem dX12_odds_39 : decode cX12_odds 39 = .ok (.getfield 9, 3) := by decide +kernel
theorem dX12_odds_42 : decode cX12_odds 42 = .ok (.iload_n 1, 1) := by decide +kernel
theorem dX12_odds_43 : decode cX12_odds 43 = .ok (.invokestatic 246, 3) := by decide +kernel
theorem dX12_odds_46 : decode cX12_odds 46 = .ok (.invokestatic 192, 3) := by decide +kernel
theorem dX12_odds_49 : decode cX12_odds 49 = .ok (.iconst 1, 1) := by decide +kernel
theorem dX12_odds_50 : decode cX12_odds 50 = .ok (.isub, 1) := by decide +kernel
theorem dX12_odds_51 : decode cX12_odds 51 = .ok (.istore 4, 2) := by decide +kernel
theorem dX12_odds_53 : decode cX12_odds 53 = .ok (.iload 4, 2) := by decide +kernel
theorem dX12_odds_55 : decode cX12_odds 55 = .ok (.bipush 16, 2) := by decide +kernel
theorem dX12_odds_57 : decode cX12_odds 57 = .ok (.if_icmp .le 5, 3) := by decide +kernel
theorem dX12_odds_60 : decode cX12_odds 60 = .ok (.iconst (-1), 1) := by decide +kernel
theorem dX12_odds_61 : decode cX12_odds 61 = .ok (.ireturn, 1) := by decide +kernel
theorem dX12_odds_62 : decode cX12_odds 62 = .ok (.iconst 0, 1) := by decide +kernel
theorem dX12_odds_63 : decode cX12_odds 63 = .ok (.istore 5, 2) := by decide +kernel
theorem dX12_odds_65 : decode cX12_odds 65 = .ok (.iload 5, 2) := by decide +kernel
theorem dX12_odds_67 : decode cX12_odds 67 = .ok (.bipush 16, 2) := by decide +kernel
theorem dX12_odds_69 : decode cX12_odds 69 = .ok (.if_icmp .gt 26, 3) := by decide +kernel
theorem dX12_odds_72 : decode cX12_odds 72 = .ok (.aload_n 0, 1) := by decide +kernel
theorem dX12_odds_73 : decode cX12_odds 73 = .ok (.getfield 69, 3) := by decide +kernel
theorem dX12_odds_76 : decode cX12_odds 76 = .ok (.iload 5, 2) := by decide +kernel
theorem dX12_odds_78 : decode cX12_odds 78 = .ok (.iload 5, 2) := by decide +kernel
theorem dX12_odds_80 : decode cX12_odds 80 = .ok (.ifCond .ne 7, 3) := by decide +kernel
theorem dX12_odds_83 : decode cX12_odds 83 = .ok (.lconst 1, 1) := by decide +kernel
theorem dX12_odds_84 : decode cX12_odds 84 = .ok (.goto 4, 3) := by decide +kernel
theorem dX12_odds_87 : decode cX12_odds 87 = .ok (.lconst 0, 1) := by decide +kernel
theorem dX12_odds_88 : decode cX12_odds 88 = .ok (.lastore, 1) := by decide +kernel
theorem dX12_odds_89 : decode cX12_odds 89 = .ok (.iinc 5 1, 3) := by decide +kernel
theorem dX12_odds_92 : decode cX12_odds 92 = .ok (.goto (-27), 3) := by decide +kernel
theorem dX12_odds_95 : decode cX12_odds 95 = .ok (.lconst 1, 1) := by decide +kernel
theorem dX12_odds_96 : decode cX12_odds 96 = .ok (.lstore 5, 2) := by decide +kernel
theorem dX12_odds_98 : decode cX12_odds 98 = .ok (.iconst 0, 1) := by decide +kernel
theorem dX12_odds_99 : decode cX12_odds 99 = .ok (.istore 7, 2) := by decide +kernel
theorem dX12_odds_101 : decode cX12_odds 101 = .ok (.iload 7, 2) := by decide +kernel
theorem dX12_odds_103 : decode cX12_odds 103 = .ok (.iload 4, 2) := by decide +kernel
theorem dX12_odds_105 : decode cX12_odds 105 = .ok (.if_icmp .ge 74, 3) := by decide +kernel
theorem dX12_odds_108 : decode cX12_odds 108 = .ok (.lload 5, 2) := by decide +kernel
theorem dX12_odds_110 : decode cX12_odds 110 = .ok (.ldc2_w 401, 3) := by decide +kernel
theorem dX12_odds_113 : decode cX12_odds 113 = .ok (.lmul, 1) := by decide +kernel
theorem dX12_odds_114 : decode cX12_odds 114 = .ok (.lstore 5, 2) := by decide +kernel
theorem dX12_odds_116 : decode cX12_odds 116 = .ok (.bipush 16, 2) := by decide +kernel
theorem dX12_odds_118 : decode cX12_odds 118 = .ok (.istore 8, 2) := by decide +kernel
theorem dX12_odds_120 : decode cX12_odds 120 = .ok (.iload 8, 2) := by decide +kernel
theorem dX12_odds_122 : decode cX12_odds 122 = .ok (.ifCond .lt 51, 3) := by decide +kernel
theorem dX12_odds_125 : decode cX12_odds 125 = .ok (.aload_n 0, 1) := by decide +kernel
theorem dX12_odds_126 : decode cX12_odds 126 = .ok (.getfield 69, 3) := by decide +kernel
theorem dX12_odds_129 : decode cX12_odds 129 = .ok (.iload 8, 2) := by decide +kernel
theorem dX12_odds_131 : decode cX12_odds 131 = .ok (.aload_n 0, 1) := by decide +kernel
theorem dX12_odds_132 : decode cX12_odds 132 = .ok (.getfield 69, 3) := by decide +kernel
theorem dX12_odds_135 : decode cX12_odds 135 = .ok (.iload 8, 2) := by decide +kernel
theorem dX12_odds_137 : decode cX12_odds 137 = .ok (.laload, 1) := by decide +kernel
theorem dX12_odds_138 : decode cX12_odds 138 = .ok (.bipush 10, 2) := by decide +kernel
theorem dX12_odds_140 : decode cX12_odds 140 = .ok (.iload_n 3, 1) := by decide +kernel
theorem dX12_odds_141 : decode cX12_odds 141 = .ok (.isub, 1) := by decide +kernel
theorem dX12_odds_142 : decode cX12_odds 142 = .ok (.i2l, 1) := by decide +kernel
theorem dX12_odds_143 : decode cX12_odds 143 = .ok (.lmul, 1) := by decide +kernel
theorem dX12_odds_144 : decode cX12_odds 144 = .ok (.iload 8, 2) := by decide +kernel
theorem dX12_odds_146 : decode cX12_odds 146 = .ok (.ifCond .le 18, 3) := by decide +kernel
theorem dX12_odds_149 : decode cX12_odds 149 = .ok (.aload_n 0, 1) := by decide +kernel
theorem dX12_odds_150 : decode cX12_odds 150 = .ok (.getfield 69, 3) := by decide +kernel
theorem dX12_odds_153 : decode cX12_odds 153 = .ok (.iload 8, 2) := by decide +kernel
theorem dX12_odds_155 : decode cX12_odds 155 = .ok (.iconst 1, 1) := by decide +kernel
theorem dX12_odds_156 : decode cX12_odds 156 = .ok (.isub, 1) := by decide +kernel
theorem dX12_odds_157 : decode cX12_odds 157 = .ok (.laload, 1) := by decide +kernel
theorem dX12_odds_158 : decode cX12_odds 158 = .ok (.iload_n 3, 1) := by decide +kernel
theorem dX12_odds_159 : decode cX12_odds 159 = .ok (.i2l, 1) := by decide +kernel
theorem dX12_odds_160 : decode cX12_odds 160 = .ok (.lmul, 1) := by decide +kernel
theorem dX12_odds_161 : decode cX12_odds 161 = .ok (.goto 4, 3) := by decide +kernel
theorem dX12_odds_164 : decode cX12_odds 164 = .ok (.lconst 0, 1) := by decide +kernel
theorem dX12_odds_165 : decode cX12_odds 165 = .ok (.ladd, 1) := by decide +kernel
theorem dX12_odds_166 : decode cX12_odds 166 = .ok (.lastore, 1) := by decide +kernel
theorem dX12_odds_167 : decode cX12_odds 167 = .ok (.iinc 8 (-1), 3) := by decide +kernel
theorem dX12_odds_170 : decode cX12_odds 170 = .ok (.goto (-50), 3) := by decide +kernel
theorem dX12_odds_173 : decode cX12_odds 173 = .ok (.iinc 7 1, 3) := by decide +kernel
theorem dX12_odds_176 : decode cX12_odds 176 = .ok (.goto (-75), 3) := by decide +kernel
theorem dX12_odds_179 : decode cX12_odds 179 = .ok (.lconst 0, 1) := by decide +kernel
theorem dX12_odds_180 : decode cX12_odds 180 = .ok (.lstore 7, 2) := by decide +kernel
theorem dX12_odds_182 : decode cX12_odds 182 = .ok (.iload_n 2, 1) := by decide +kernel
theorem dX12_odds_183 : decode cX12_odds 183 = .ok (.istore 9, 2) := by decide +kernel
theorem dX12_odds_185 : decode cX12_odds 185 = .ok (.iload 9, 2) := by decide +kernel
theorem dX12_odds_187 : decode cX12_odds 187 = .ok (.bipush 16, 2) := by decide +kernel
theorem dX12_odds_189 : decode cX12_odds 189 = .ok (.if_icmp .gt 21, 3) := by decide +kernel
theorem dX12_odds_192 : decode cX12_odds 192 = .ok (.lload 7, 2) := by decide +kernel
theorem dX12_odds_194 : decode cX12_odds 194 = .ok (.aload_n 0, 1) := by decide +kernel
theorem dX12_odds_195 : decode cX12_odds 195 = .ok (.getfield 69, 3) := by decide +kernel
theorem dX12_odds_198 : decode cX12_odds 198 = .ok (.iload 9, 2) := by decide +kernel
theorem dX12_odds_200 : decode cX12_odds 200 = .ok (.laload, 1) := by decide +kernel
theorem dX12_odds_201 : decode cX12_odds 201 = .ok (.ladd, 1) := by decide +kernel
theorem dX12_odds_202 : decode cX12_odds 202 = .ok (.lstore 7, 2) := by decide +kernel
theorem dX12_odds_204 : decode cX12_odds 204 = .ok (.iinc 9 1, 3) := by decide +kernel
theorem dX12_odds_207 : decode cX12_odds 207 = .ok (.goto (-22), 3) := by decide +kernel
theorem dX12_odds_210 : decode cX12_odds 210 = .ok (.lload 7, 2) := by decide +kernel
theorem dX12_odds_212 : decode cX12_odds 212 = .ok (.lload 5, 2) := by decide +kernel
theorem dX12_odds_214 : decode cX12_odds 214 = .ok (.invokestatic 397, 3) := by decide +kernel
theorem dX12_odds_217 : decode cX12_odds 217 = .ok (.lstore 9, 2) := by decide +kernel
theorem dX12_odds_219 : decode cX12_odds 219 = .ok (.aload_n 0, 1) := by decide +kernel
theorem dX12_odds_220 : decode cX12_odds 220 = .ok (.iconst 0, 1) := by decide +kernel
theorem dX12_odds_221 : decode cX12_odds 221 = .ok (.putfield 83, 3) := by decide +kernel
theorem dX12_odds_224 : decode cX12_odds 224 = .ok (.aload_n 0, 1) := by decide +kernel
theorem dX12_odds_225 : decode cX12_odds 225 = .ok (.lload 7, 2) := by decide +kernel
theorem dX12_odds_227 : decode cX12_odds 227 = .ok (.lload 9, 2) := by decide +kernel
theorem dX12_odds_229 : decode cX12_odds 229 = .ok (.ldiv, 1) := by decide +kernel
theorem dX12_odds_230 : decode cX12_odds 230 = .ok (.invokevirtual 228, 3) := by decide +kernel
theorem dX12_odds_233 : decode cX12_odds 233 = .ok (.aload_n 0, 1) := by decide +kernel
theorem dX12_odds_234 : decode cX12_odds 234 = .ok (.lload 5, 2) := by decide +kernel
theorem dX12_odds_236 : decode cX12_odds 236 = .ok (.lload 9, 2) := by decide +kernel
theorem dX12_odds_238 : decode cX12_odds 238 = .ok (.ldiv, 1) := by decide +kernel
theorem dX12_odds_239 : decode cX12_odds 239 = .ok (.invokevirtual 228, 3) := by decide +kernel
theorem dX12_odds_242 : decode cX12_odds 242 = .ok (.iconst 0, 1) := by decide +kernel
theorem dX12_odds_243 : decode cX12_odds 243 = .ok (.ireturn, 1) := by decide +kernel
theorem dX12_worthOf_0 : decode cX12_worthOf 0 = .ok (.iconst 0, 1) := by decide +kernel
theorem dX12_worthOf_1 : decode cX12_worthOf 1 = .ok (.istore_n 2, 1) := by decide +kernel
theorem dX12_worthOf_2 : decode cX12_worthOf 2 = .ok (.iconst 1, 1) := by decide +kernel
theorem dX12_worthOf_3 : decode cX12_worthOf 3 = .ok (.istore_n 3, 1) := by decide +kernel
theorem dX12_worthOf_4 : decode cX12_worthOf 4 = .ok (.iload_n 3, 1) := by decide +kernel
theorem dX12_worthOf_5 : decode cX12_worthOf 5 = .ok (.bipush 24, 2) := by decide +kernel
theorem dX12_worthOf_7 : decode cX12_worthOf 7 = .ok (.if_icmp .ge 26, 3) := by decide +kernel
theorem dX12_worthOf_10 : decode cX12_worthOf 10 = .ok (.aload_n 0, 1) := by decide +kernel
theorem dX12_worthOf_11 : decode cX12_worthOf 11 = .ok (.iload_n 3, 1) := by decide +kernel
theorem dX12_worthOf_12 : decode cX12_worthOf 12 = .ok (.iaload, 1) := by decide +kernel
theorem dX12_worthOf_13 : decode cX12_worthOf 13 = .ok (.iload_n 1, 1) := by decide +kernel
theorem dX12_worthOf_14 : decode cX12_worthOf 14 = .ok (.if_icmp .ne 13, 3) := by decide +kernel
theorem dX12_worthOf_17 : decode cX12_worthOf 17 = .ok (.iload_n 2, 1) := by decide +kernel
theorem dX12_worthOf_18 : decode cX12_worthOf 18 = .ok (.aload_n 0, 1) := by decide +kernel
theorem dX12_worthOf_19 : decode cX12_worthOf 19 = .ok (.iload_n 3, 1) := by decide +kernel
theorem dX12_worthOf_20 : decode cX12_worthOf 20 = .ok (.invokestatic 403, 3) := by decide +kernel
theorem dX12_worthOf_23 : decode cX12_worthOf 23 = .ok (.iconst 1, 1) := by decide +kernel
theorem dX12_worthOf_24 : decode cX12_worthOf 24 = .ok (.iadd, 1) := by decide +kernel
theorem dX12_worthOf_25 : decode cX12_worthOf 25 = .ok (.ixor, 1) := by decide +kernel
theorem dX12_worthOf_26 : decode cX12_worthOf 26 = .ok (.istore_n 2, 1) := by decide +kernel
theorem dX12_worthOf_27 : decode cX12_worthOf 27 = .ok (.iinc 3 1, 3) := by decide +kernel
theorem dX12_worthOf_30 : decode cX12_worthOf 30 = .ok (.goto (-26), 3) := by decide +kernel
theorem dX12_worthOf_33 : decode cX12_worthOf 33 = .ok (.iload_n 2, 1) := by decide +kernel
theorem dX12_worthOf_34 : decode cX12_worthOf 34 = .ok (.ireturn, 1) := by decide +kernel
theorem dX12_goCut_0 : decode cX12_goCut 0 = .ok (.aload_n 0, 1) := by decide +kernel
theorem dX12_goCut_1 : decode cX12_goCut 1 = .ok (.iload_n 1, 1) := by decide +kernel
theorem dX12_goCut_2 : decode cX12_goCut 2 = .ok (.invokestatic 366, 3) := by decide +kernel
theorem dX12_goCut_5 : decode cX12_goCut 5 = .ok (.iconst 1, 1) := by decide +kernel
theorem dX12_goCut_6 : decode cX12_goCut 6 = .ok (.iload_n 1, 1) := by decide +kernel
theorem dX12_goCut_7 : decode cX12_goCut 7 = .ok (.ishl, 1) := by decide +kernel
theorem dX12_goCut_8 : decode cX12_goCut 8 = .ok (.ior, 1) := by decide +kernel
theorem dX12_goCut_9 : decode cX12_goCut 9 = .ok (.istore_n 2, 1) := by decide +kernel
theorem dX12_goCut_10 : decode cX12_goCut 10 = .ok (.iconst 0, 1) := by decide +kernel
theorem dX12_goCut_11 : decode cX12_goCut 11 = .ok (.istore_n 3, 1) := by decide +kernel
theorem dX12_goCut_12 : decode cX12_goCut 12 = .ok (.iload_n 3, 1) := by decide +kernel
theorem dX12_goCut_13 : decode cX12_goCut 13 = .ok (.bipush 24, 2) := by decide +kernel
theorem dX12_goCut_15 : decode cX12_goCut 15 = .ok (.if_icmp .ge 22, 3) := by decide +kernel
theorem dX12_goCut_18 : decode cX12_goCut 18 = .ok (.iload_n 2, 1) := by decide +kernel
theorem dX12_goCut_19 : decode cX12_goCut 19 = .ok (.iload_n 3, 1) := by decide +kernel
theorem dX12_goCut_20 : decode cX12_goCut 20 = .ok (.invokestatic 94, 3) := by decide +kernel
theorem dX12_goCut_23 : decode cX12_goCut 23 = .ok (.ifCond .eq 8, 3) := by decide +kernel
theorem dX12_goCut_26 : decode cX12_goCut 26 = .ok (.aload_n 0, 1) := by decide +kernel
theorem dX12_goCut_27 : decode cX12_goCut 27 = .ok (.iload_n 3, 1) := by decide +kernel
theorem dX12_goCut_28 : decode cX12_goCut 28 = .ok (.invokestatic 326, 3) := by decide +kernel
theorem dX12_goCut_31 : decode cX12_goCut 31 = .ok (.iinc 3 1, 3) := by decide +kernel
theorem dX12_goCut_34 : decode cX12_goCut 34 = .ok (.goto (-22), 3) := by decide +kernel
theorem dX12_goCut_37 : decode cX12_goCut 37 = .ok (.return_, 1) := by decide +kernel
theorem dX12_hacks_0 : decode cX12_hacks 0 = .ok (.aload_n 0, 1) := by decide +kernel
theorem dX12_hacks_1 : decode cX12_hacks 1 = .ok (.iconst 0, 1) := by decide +kernel
theorem dX12_hacks_2 : decode cX12_hacks 2 = .ok (.putfield 79, 3) := by decide +kernel
theorem dX12_hacks_5 : decode cX12_hacks 5 = .ok (.aload_n 0, 1) := by decide +kernel
theorem dX12_hacks_6 : decode cX12_hacks 6 = .ok (.getfield 9, 3) := by decide +kernel
theorem dX12_hacks_9 : decode cX12_hacks 9 = .ok (.iload_n 1, 1) := by decide +kernel
theorem dX12_hacks_10 : decode cX12_hacks 10 = .ok (.invokestatic 90, 3) := by decide +kernel
theorem dX12_hacks_13 : decode cX12_hacks 13 = .ok (.ifCond .ne 5, 3) := by decide +kernel
theorem dX12_hacks_16 : decode cX12_hacks 16 = .ok (.iconst (-1), 1) := by decide +kernel
theorem dX12_hacks_17 : decode cX12_hacks 17 = .ok (.ireturn, 1) := by decide +kernel
theorem dX12_hacks_18 : decode cX12_hacks 18 = .ok (.aload_n 0, 1) := by decide +kernel
theorem dX12_hacks_19 : decode cX12_hacks 19 = .ok (.getfield 9, 3) := by decide +kernel
theorem dX12_hacks_22 : decode cX12_hacks 22 = .ok (.iload_n 1, 1) := by decide +kernel
theorem dX12_hacks_23 : decode cX12_hacks 23 = .ok (.invokestatic 366, 3) := by decide +kernel
theorem dX12_hacks_26 : decode cX12_hacks 26 = .ok (.istore_n 2, 1) := by decide +kernel
theorem dX12_hacks_27 : decode cX12_hacks 27 = .ok (.aload_n 0, 1) := by decide +kernel
theorem dX12_hacks_28 : decode cX12_hacks 28 = .ok (.iconst 0, 1) := by decide +kernel
theorem dX12_hacks_29 : decode cX12_hacks 29 = .ok (.putfield 83, 3) := by decide +kernel
theorem dX12_hacks_32 : decode cX12_hacks 32 = .ok (.iconst 0, 1) := by decide +kernel
theorem dX12_hacks_33 : decode cX12_hacks 33 = .ok (.istore_n 3, 1) := by decide +kernel
theorem dX12_hacks_34 : decode cX12_hacks 34 = .ok (.iload_n 3, 1) := by decide +kernel
theorem dX12_hacks_35 : decode cX12_hacks 35 = .ok (.bipush 24, 2) := by decide +kernel
theorem dX12_hacks_37 : decode cX12_hacks 37 = .ok (.if_icmp .ge 64, 3) := by decide +kernel
theorem dX12_hacks_40 : decode cX12_hacks 40 = .ok (.aload_n 0, 1) := by decide +kernel
theorem dX12_hacks_41 : decode cX12_hacks 41 = .ok (.getfield 83, 3) := by decide +kernel
theorem dX12_hacks_44 : decode cX12_hacks 44 = .ok (.ifCond .ne 57, 3) := by decide +kernel
theorem dX12_hacks_47 : decode cX12_hacks 47 = .ok (.iload_n 2, 1) := by decide +kernel
theorem dX12_hacks_48 : decode cX12_hacks 48 = .ok (.iload_n 3, 1) := by decide +kernel
theorem dX12_hacks_49 : decode cX12_hacks 49 = .ok (.invokestatic 94, 3) := by decide +kernel
theorem dX12_hacks_52 : decode cX12_hacks 52 = .ok (.ifCond .ne 6, 3) := by decide +kernel
theorem dX12_hacks_55 : decode cX12_hacks 55 = .ok (.goto 40, 3) := by decide +kernel
theorem dX12_hacks_58 : decode cX12_hacks 58 = .ok (.aload_n 0, 1) := by decide +kernel
theorem dX12_hacks_59 : decode cX12_hacks 59 = .ok (.getfield 9, 3) := by decide +kernel
theorem dX12_hacks_62 : decode cX12_hacks 62 = .ok (.aload_n 0, 1) := by decide +kernel
theorem dX12_hacks_63 : decode cX12_hacks 63 = .ok (.getfield 39, 3) := by decide +kernel
theorem dX12_hacks_66 : decode cX12_hacks 66 = .ok (.iconst 0, 1) := by decide +kernel
theorem dX12_hacks_67 : decode cX12_hacks 67 = .ok (.invokestatic 242, 3) := by decide +kernel
theorem dX12_hacks_70 : decode cX12_hacks 70 = .ok (.aload_n 0, 1) := by decide +kernel
theorem dX12_hacks_71 : decode cX12_hacks 71 = .ok (.getfield 39, 3) := by decide +kernel
theorem dX12_hacks_74 : decode cX12_hacks 74 = .ok (.iload_n 3, 1) := by decide +kernel
theorem dX12_hacks_75 : decode cX12_hacks 75 = .ok (.invokestatic 406, 3) := by decide +kernel
theorem dX12_hacks_78 : decode cX12_hacks 78 = .ok (.aload_n 0, 1) := by decide +kernel
theorem dX12_hacks_79 : decode cX12_hacks 79 = .ok (.getfield 39, 3) := by decide +kernel
theorem dX12_hacks_82 : decode cX12_hacks 82 = .ok (.iload_n 1, 1) := by decide +kernel
theorem dX12_hacks_83 : decode cX12_hacks 83 = .ok (.invokestatic 403, 3) := by decide +kernel
theorem dX12_hacks_86 : decode cX12_hacks 86 = .ok (.ifCond .ne 9, 3) := by decide +kernel
theorem dX12_hacks_89 : decode cX12_hacks 89 = .ok (.aload_n 0, 1) := by decide +kernel
theorem dX12_hacks_90 : decode cX12_hacks 90 = .ok (.iload_n 3, 1) := by decide +kernel
theorem dX12_hacks_91 : decode cX12_hacks 91 = .ok (.i2l, 1) := by decide +kernel
theorem dX12_hacks_92 : decode cX12_hacks 92 = .ok (.invokevirtual 228, 3) := by decide +kernel
theorem dX12_hacks_95 : decode cX12_hacks 95 = .ok (.iinc 3 1, 3) := by decide +kernel
theorem dX12_hacks_98 : decode cX12_hacks 98 = .ok (.goto (-64), 3) := by decide +kernel
theorem dX12_hacks_101 : decode cX12_hacks 101 = .ok (.aload_n 0, 1) := by decide +kernel
theorem dX12_hacks_102 : decode cX12_hacks 102 = .ok (.getfield 83, 3) := by decide +kernel
theorem dX12_hacks_105 : decode cX12_hacks 105 = .ok (.ireturn, 1) := by decide +kernel
theorem dX12_gets_0 : decode cX12_gets 0 = .ok (.iload_n 0, 1) := by decide +kernel
theorem dX12_gets_1 : decode cX12_gets 1 = .ok (.iload_n 1, 1) := by decide +kernel
theorem dX12_gets_2 : decode cX12_gets 2 = .ok (.if_icmp .le 9, 3) := by decide +kernel
theorem dX12_gets_5 : decode cX12_gets 5 = .ok (.iload_n 2, 1) := by decide +kernel
theorem dX12_gets_6 : decode cX12_gets 6 = .ok (.iload_n 0, 1) := by decide +kernel
theorem dX12_gets_7 : decode cX12_gets 7 = .ok (.isub, 1) := by decide +kernel
theorem dX12_gets_8 : decode cX12_gets 8 = .ok (.goto 23, 3) := by decide +kernel
theorem dX12_gets_11 : decode cX12_gets 11 = .ok (.iload_n 0, 1) := by decide +kernel
theorem dX12_gets_12 : decode cX12_gets 12 = .ok (.iload_n 1, 1) := by decide +kernel
theorem dX12_gets_13 : decode cX12_gets 13 = .ok (.if_icmp .ge 13, 3) := by decide +kernel
theorem dX12_gets_16 : decode cX12_gets 16 = .ok (.iload_n 2, 1) := by decide +kernel
theorem dX12_gets_17 : decode cX12_gets 17 = .ok (.iconst 2, 1) := by decide +kernel
theorem dX12_gets_18 : decode cX12_gets 18 = .ok (.idiv, 1) := by decide +kernel
theorem dX12_gets_19 : decode cX12_gets 19 = .ok (.iconst 2, 1) := by decide +kernel
theorem dX12_gets_20 : decode cX12_gets 20 = .ok (.iload_n 0, 1) := by decide +kernel
theorem dX12_gets_21 : decode cX12_gets 21 = .ok (.imul, 1) := by decide +kernel
theorem dX12_gets_22 : decode cX12_gets 22 = .ok (.isub, 1) := by decide +kernel
theorem dX12_gets_23 : decode cX12_gets 23 = .ok (.goto 8, 3) := by decide +kernel
theorem dX12_gets_26 : decode cX12_gets 26 = .ok (.iload_n 2, 1) := by decide +kernel
theorem dX12_gets_27 : decode cX12_gets 27 = .ok (.iconst 3, 1) := by decide +kernel
theorem dX12_gets_28 : decode cX12_gets 28 = .ok (.idiv, 1) := by decide +kernel
theorem dX12_gets_29 : decode cX12_gets 29 = .ok (.iload_n 0, 1) := by decide +kernel
theorem dX12_gets_30 : decode cX12_gets 30 = .ok (.isub, 1) := by decide +kernel
theorem dX12_gets_31 : decode cX12_gets 31 = .ok (.ireturn, 1) := by decide +kernel
theorem dX12_isBest_0 : decode cX12_isBest 0 = .ok (.iconst 0, 1) := by decide +kernel
theorem dX12_isBest_1 : decode cX12_isBest 1 = .ok (.istore_n 3, 1) := by decide +kernel
theorem dX12_isBest_2 : decode cX12_isBest 2 = .ok (.iload_n 3, 1) := by decide +kernel
theorem dX12_isBest_3 : decode cX12_isBest 3 = .ok (.bipush 9, 2) := by decide +kernel
theorem dX12_isBest_5 : decode cX12_isBest 5 = .ok (.if_icmp .gt 26, 3) := by decide +kernel
theorem dX12_isBest_8 : decode cX12_isBest 8 = .ok (.iload_n 3, 1) := by decide +kernel
theorem dX12_isBest_9 : decode cX12_isBest 9 = .ok (.iload_n 1, 1) := by decide +kernel
theorem dX12_isBest_10 : decode cX12_isBest 10 = .ok (.iload_n 2, 1) := by decide +kernel
theorem dX12_isBest_11 : decode cX12_isBest 11 = .ok (.invokestatic 409, 3) := by decide +kernel
theorem dX12_isBest_14 : decode cX12_isBest 14 = .ok (.iload_n 0, 1) := by decide +kernel
theorem dX12_isBest_15 : decode cX12_isBest 15 = .ok (.iload_n 1, 1) := by decide +kernel
theorem dX12_isBest_16 : decode cX12_isBest 16 = .ok (.iload_n 2, 1) := by decide +kernel
theorem dX12_isBest_17 : decode cX12_isBest 17 = .ok (.invokestatic 409, 3) := by decide +kernel
theorem dX12_isBest_20 : decode cX12_isBest 20 = .ok (.if_icmp .le 5, 3) := by decide +kernel
theorem dX12_isBest_23 : decode cX12_isBest 23 = .ok (.iconst 0, 1) := by decide +kernel
theorem dX12_isBest_24 : decode cX12_isBest 24 = .ok (.ireturn, 1) := by decide +kernel
theorem dX12_isBest_25 : decode cX12_isBest 25 = .ok (.iinc 3 1, 3) := by decide +kernel
theorem dX12_isBest_28 : decode cX12_isBest 28 = .ok (.goto (-26), 3) := by decide +kernel
theorem dX12_isBest_31 : decode cX12_isBest 31 = .ok (.iconst 1, 1) := by decide +kernel
theorem dX12_isBest_32 : decode cX12_isBest 32 = .ok (.ireturn, 1) := by decide +kernel
theorem dX12_rests_0 : decode cX12_rests 0 = .ok (.aload_n 0, 1) := by decide +kernel
theorem dX12_rests_1 : decode cX12_rests 1 = .ok (.iconst 0, 1) := by decide +kernel
theorem dX12_rests_2 : decode cX12_rests 2 = .ok (.putfield 79, 3) := by decide +kernel
theorem dX12_rests_5 : decode cX12_rests 5 = .ok (.iload_n 1, 1) := by decide +kernel
theorem dX12_rests_6 : decode cX12_rests 6 = .ok (.iconst 0, 1) := by decide +kernel
theorem dX12_rests_7 : decode cX12_rests 7 = .ok (.bipush 20, 2) := by decide +kernel
theorem dX12_rests_9 : decode cX12_rests 9 = .ok (.invokestatic 86, 3) := by decide +kernel
theorem dX12_rests_12 : decode cX12_rests 12 = .ok (.ifCond .ne 5, 3) := by decide +kernel
theorem dX12_rests_15 : decode cX12_rests 15 = .ok (.iconst (-1), 1) := by decide +kernel
theorem dX12_rests_16 : decode cX12_rests 16 = .ok (.ireturn, 1) := by decide +kernel
theorem dX12_rests_17 : decode cX12_rests 17 = .ok (.iconst 0, 1) := by decide +kernel
theorem dX12_rests_18 : decode cX12_rests 18 = .ok (.istore_n 2, 1) := by decide +kernel
theorem dX12_rests_19 : decode cX12_rests 19 = .ok (.aload_n 0, 1) := by decide +kernel
theorem dX12_rests_20 : decode cX12_rests 20 = .ok (.iconst 0, 1) := by decide +kernel
theorem dX12_rests_21 : decode cX12_rests 21 = .ok (.putfield 83, 3) := by decide +kernel
theorem dX12_rests_24 : decode cX12_rests 24 = .ok (.iconst 0, 1) := by decide +kernel
theorem dX12_rests_25 : decode cX12_rests 25 = .ok (.istore_n 3, 1) := by decide +kernel
theorem dX12_rests_26 : decode cX12_rests 26 = .ok (.iload_n 3, 1) := by decide +kernel
theorem dX12_rests_27 : decode cX12_rests 27 = .ok (.bipush 9, 2) := by decide +kernel
theorem dX12_rests_29 : decode cX12_rests 29 = .ok (.if_icmp .gt 68, 3) := by decide +kernel
theorem dX12_rests_32 : decode cX12_rests 32 = .ok (.iconst 0, 1) := by decide +kernel
theorem dX12_rests_33 : decode cX12_rests 33 = .ok (.istore 4, 2) := by decide +kernel
theorem dX12_rests_35 : decode cX12_rests 35 = .ok (.iload 4, 2) := by decide +kernel
theorem dX12_rests_37 : decode cX12_rests 37 = .ok (.bipush 9, 2) := by decide +kernel
theorem dX12_rests_39 : decode cX12_rests 39 = .ok (.if_icmp .gt 52, 3) := by decide +kernel
theorem dX12_rests_42 : decode cX12_rests 42 = .ok (.iload_n 3, 1) := by decide +kernel
theorem dX12_rests_43 : decode cX12_rests 43 = .ok (.iload 4, 2) := by decide +kernel
theorem dX12_rests_45 : decode cX12_rests 45 = .ok (.iload_n 1, 1) := by decide +kernel
theorem dX12_rests_46 : decode cX12_rests 46 = .ok (.invokestatic 413, 3) := by decide +kernel
theorem dX12_rests_49 : decode cX12_rests 49 = .ok (.ifCond .eq 36, 3) := by decide +kernel
theorem dX12_rests_52 : decode cX12_rests 52 = .ok (.iload 4, 2) := by decide +kernel
theorem dX12_rests_54 : decode cX12_rests 54 = .ok (.iload_n 3, 1) := by decide +kernel
theorem dX12_rests_55 : decode cX12_rests 55 = .ok (.iload_n 1, 1) := by decide +kernel
theorem dX12_rests_56 : decode cX12_rests 56 = .ok (.invokestatic 413, 3) := by decide +kernel
theorem dX12_rests_59 : decode cX12_rests 59 = .ok (.ifCond .ne 6, 3) := by decide +kernel
theorem dX12_rests_62 : decode cX12_rests 62 = .ok (.goto 23, 3) := by decide +kernel
theorem dX12_rests_65 : decode cX12_rests 65 = .ok (.iload_n 2, 1) := by decide +kernel
theorem dX12_rests_66 : decode cX12_rests 66 = .ok (.ifCond .ne 16, 3) := by decide +kernel
theorem dX12_rests_69 : decode cX12_rests 69 = .ok (.aload_n 0, 1) := by decide +kernel
theorem dX12_rests_70 : decode cX12_rests 70 = .ok (.iload_n 3, 1) := by decide +kernel
theorem dX12_rests_71 : decode cX12_rests 71 = .ok (.i2l, 1) := by decide +kernel
theorem dX12_rests_72 : decode cX12_rests 72 = .ok (.invokevirtual 228, 3) := by decide +kernel
theorem dX12_rests_75 : decode cX12_rests 75 = .ok (.aload_n 0, 1) := by decide +kernel
theorem dX12_rests_76 : decode cX12_rests 76 = .ok (.iload 4, 2) := by decide +kernel
theorem dX12_rests_78 : decode cX12_rests 78 = .ok (.i2l, 1) := by decide +kernel
theorem dX12_rests_79 : decode cX12_rests 79 = .ok (.invokevirtual 228, 3) := by decide +kernel
theorem dX12_rests_82 : decode cX12_rests 82 = .ok (.iinc 2 1, 3) := by decide +kernel
theorem dX12_rests_85 : decode cX12_rests 85 = .ok (.iinc 4 1, 3) := by decide +kernel
theorem dX12_rests_88 : decode cX12_rests 88 = .ok (.goto (-53), 3) := by decide +kernel
theorem dX12_rests_91 : decode cX12_rests 91 = .ok (.iinc 3 1, 3) := by decide +kernel
theorem dX12_rests_94 : decode cX12_rests 94 = .ok (.goto (-68), 3) := by decide +kernel
theorem dX12_rests_97 : decode cX12_rests 97 = .ok (.iload_n 2, 1) := by decide +kernel
theorem dX12_rests_98 : decode cX12_rests 98 = .ok (.ireturn, 1) := by decide +kernel
theorem dX12_bringsOf_0 : decode cX12_bringsOf 0 = .ok (.aload_n 0, 1) := by decide +kernel
theorem dX12_bringsOf_1 : decode cX12_bringsOf 1 = .ok (.aload_n 0, 1) := by decide +kernel
theorem dX12_bringsOf_2 : decode cX12_bringsOf 2 = .ok (.getfield 9, 3) := by decide +kernel
theorem dX12_bringsOf_5 : decode cX12_bringsOf 5 = .ok (.iload_n 1, 1) := by decide +kernel
theorem dX12_bringsOf_6 : decode cX12_bringsOf 6 = .ok (.iload_n 2, 1) := by decide +kernel
theorem dX12_bringsOf_7 : decode cX12_bringsOf 7 = .ok (.invokevirtual 283, 3) := by decide +kernel
theorem dX12_bringsOf_10 : decode cX12_bringsOf 10 = .ok (.ifCond .ge 7, 3) := by decide +kernel
theorem dX12_bringsOf_13 : decode cX12_bringsOf 13 = .ok (.iconst 0, 1) := by decide +kernel
theorem dX12_bringsOf_14 : decode cX12_bringsOf 14 = .ok (.goto 18, 3) := by decide +kernel
theorem dX12_bringsOf_17 : decode cX12_bringsOf 17 = .ok (.iconst 1, 1) := by decide +kernel
theorem dX12_bringsOf_18 : decode cX12_bringsOf 18 = .ok (.aload_n 0, 1) := by decide +kernel
theorem dX12_bringsOf_19 : decode cX12_bringsOf 19 = .ok (.aload_n 0, 1) := by decide +kernel
theorem dX12_bringsOf_20 : decode cX12_bringsOf 20 = .ok (.getfield 9, 3) := by decide +kernel
theorem dX12_bringsOf_23 : decode cX12_bringsOf 23 = .ok (.iload_n 1, 1) := by decide +kernel
theorem dX12_bringsOf_24 : decode cX12_bringsOf 24 = .ok (.iload_n 2, 1) := by decide +kernel
theorem dX12_bringsOf_25 : decode cX12_bringsOf 25 = .ok (.invokevirtual 260, 3) := by decide +kernel
theorem dX12_bringsOf_28 : decode cX12_bringsOf 28 = .ok (.invokestatic 192, 3) := by decide +kernel
theorem dX12_bringsOf_31 : decode cX12_bringsOf 31 = .ok (.iadd, 1) := by decide +kernel
theorem dX12_bringsOf_32 : decode cX12_bringsOf 32 = .ok (.ireturn, 1) := by decide +kernel
theorem dX12_law_0 : decode cX12_law 0 = .ok (.aload_n 0, 1) := by decide +kernel
theorem dX12_law_1 : decode cX12_law 1 = .ok (.iconst 0, 1) := by decide +kernel
theorem dX12_law_2 : decode cX12_law 2 = .ok (.putfield 79, 3) := by decide +kernel
theorem dX12_law_5 : decode cX12_law 5 = .ok (.aload_n 0, 1) := by decide +kernel
theorem dX12_law_6 : decode cX12_law 6 = .ok (.getfield 105, 3) := by decide +kernel
theorem dX12_law_9 : decode cX12_law 9 = .ok (.istore_n 3, 1) := by decide +kernel
theorem dX12_law_10 : decode cX12_law 10 = .ok (.aload_n 0, 1) := by decide +kernel
theorem dX12_law_11 : decode cX12_law 11 = .ok (.invokevirtual 180, 3) := by decide +kernel
theorem dX12_law_14 : decode cX12_law 14 = .ok (.ifCond .ne 12, 3) := by decide +kernel
theorem dX12_law_17 : decode cX12_law 17 = .ok (.sipush (-10000), 3) := by decide +kernel
theorem dX12_law_20 : decode cX12_law 20 = .ok (.aload_n 0, 1) := by decide +kernel
theorem dX12_law_21 : decode cX12_law 21 = .ok (.getfield 120, 3) := by decide +kernel
theorem dX12_law_24 : decode cX12_law 24 = .ok (.isub, 1) := by decide +kernel
theorem dX12_law_25 : decode cX12_law 25 = .ok (.ireturn, 1) := by decide +kernel
theorem dX12_law_26 : decode cX12_law 26 = .ok (.aload_n 0, 1) := by decide +kernel
theorem dX12_law_27 : decode cX12_law 27 = .ok (.getfield 9, 3) := by decide +kernel
theorem dX12_law_30 : decode cX12_law 30 = .ok (.iload_n 1, 1) := by decide +kernel
theorem dX12_law_31 : decode cX12_law 31 = .ok (.invokestatic 90, 3) := by decide +kernel
theorem dX12_law_34 : decode cX12_law 34 = .ok (.ifCond .eq 10, 3) := by decide +kernel
theorem dX12_law_37 : decode cX12_law 37 = .ok (.iload_n 2, 1) := by decide +kernel
theorem dX12_law_38 : decode cX12_law 38 = .ok (.invokestatic 235, 3) := by decide +kernel
theorem dX12_law_41 : decode cX12_law 41 = .ok (.ifCond .ne 6, 3) := by decide +kernel
theorem dX12_law_44 : decode cX12_law 44 = .ok (.bipush (-2), 2) := by decide +kernel
theorem dX12_law_46 : decode cX12_law 46 = .ok (.ireturn, 1) := by decide +kernel
theorem dX12_law_47 : decode cX12_law 47 = .ok (.aload_n 0, 1) := by decide +kernel
theorem dX12_law_48 : decode cX12_law 48 = .ok (.iload_n 1, 1) := by decide +kernel
theorem dX12_law_49 : decode cX12_law 49 = .ok (.iload_n 2, 1) := by decide +kernel
theorem dX12_law_50 : decode cX12_law 50 = .ok (.invokevirtual 416, 3) := by decide +kernel
theorem dX12_law_53 : decode cX12_law 53 = .ok (.istore 4, 2) := by decide +kernel
theorem dX12_law_55 : decode cX12_law 55 = .ok (.aload_n 0, 1) := by decide +kernel
theorem dX12_law_56 : decode cX12_law 56 = .ok (.getfield 21, 3) := by decide +kernel
theorem dX12_law_59 : decode cX12_law 59 = .ok (.astore 5, 2) := by decide +kernel
theorem dX12_law_61 : decode cX12_law 61 = .ok (.aload_n 0, 1) := by decide +kernel
theorem dX12_law_62 : decode cX12_law 62 = .ok (.getfield 183, 3) := by decide +kernel
theorem dX12_law_65 : decode cX12_law 65 = .ok (.istore 6, 2) := by decide +kernel
theorem dX12_law_67 : decode cX12_law 67 = .ok (.aload_n 0, 1) := by decide +kernel
theorem dX12_law_68 : decode cX12_law 68 = .ok (.aload_n 0, 1) := by decide +kernel
theorem dX12_law_69 : decode cX12_law 69 = .ok (.getfield 24, 3) := by decide +kernel
theorem dX12_law_72 : decode cX12_law 72 = .ok (.putfield 21, 3) := by decide +kernel
theorem dX12_law_75 : decode cX12_law 75 = .ok (.aload_n 0, 1) := by decide +kernel
theorem dX12_law_76 : decode cX12_law 76 = .ok (.iload_n 3, 1) := by decide +kernel
theorem dX12_law_77 : decode cX12_law 77 = .ok (.putfield 183, 3) := by decide +kernel
theorem dX12_law_80 : decode cX12_law 80 = .ok (.iconst 0, 1) := by decide +kernel
theorem dX12_law_81 : decode cX12_law 81 = .ok (.istore 7, 2) := by decide +kernel
theorem dX12_law_83 : decode cX12_law 83 = .ok (.iload 7, 2) := by decide +kernel
theorem dX12_law_85 : decode cX12_law 85 = .ok (.iload_n 3, 1) := by decide +kernel
theorem dX12_law_86 : decode cX12_law 86 = .ok (.if_icmp .ge 23, 3) := by decide +kernel
theorem dX12_law_89 : decode cX12_law 89 = .ok (.aload_n 0, 1) := by decide +kernel
theorem dX12_law_90 : decode cX12_law 90 = .ok (.getfield 21, 3) := by decide +kernel
theorem dX12_law_93 : decode cX12_law 93 = .ok (.iload 7, 2) := by decide +kernel
theorem dX12_law_95 : decode cX12_law 95 = .ok (.aload_n 0, 1) := by decide +kernel
theorem dX12_law_96 : decode cX12_law 96 = .ok (.getfield 13, 3) := by decide +kernel
theorem dX12_law_99 : decode cX12_law 99 = .ok (.iload 7, 2) := by decide +kernel
theorem dX12_law_101 : decode cX12_law 101 = .ok (.baload, 1) := by decide +kernel
theorem dX12_law_102 : decode cX12_law 102 = .ok (.bastore, 1) := by decide +kernel
theorem dX12_law_103 : decode cX12_law 103 = .ok (.iinc 7 1, 3) := by decide +kernel
theorem dX12_law_106 : decode cX12_law 106 = .ok (.goto (-23), 3) := by decide +kernel
theorem dX12_law_109 : decode cX12_law 109 = .ok (.aload_n 0, 1) := by decide +kernel
theorem dX12_law_110 : decode cX12_law 110 = .ok (.iload_n 1, 1) := by decide +kernel
theorem dX12_law_111 : decode cX12_law 111 = .ok (.iload_n 2, 1) := by decide +kernel
theorem dX12_law_112 : decode cX12_law 112 = .ok (.invokevirtual 416, 3) := by decide +kernel
theorem dX12_law_115 : decode cX12_law 115 = .ok (.istore 7, 2) := by decide +kernel
theorem dX12_law_117 : decode cX12_law 117 = .ok (.aload_n 0, 1) := by decide +kernel
theorem dX12_law_118 : decode cX12_law 118 = .ok (.aload 5, 2) := by decide +kernel
theorem dX12_law_120 : decode cX12_law 120 = .ok (.putfield 21, 3) := by decide +kernel
theorem dX12_law_123 : decode cX12_law 123 = .ok (.aload_n 0, 1) := by decide +kernel
theorem dX12_law_124 : decode cX12_law 124 = .ok (.iload 6, 2) := by decide +kernel
theorem dX12_law_126 : decode cX12_law 126 = .ok (.putfield 183, 3) := by decide +kernel
theorem dX12_law_129 : decode cX12_law 129 = .ok (.aload_n 0, 1) := by decide +kernel
theorem dX12_law_130 : decode cX12_law 130 = .ok (.iconst 0, 1) := by decide +kernel
theorem dX12_law_131 : decode cX12_law 131 = .ok (.putfield 83, 3) := by decide +kernel
theorem dX12_law_134 : decode cX12_law 134 = .ok (.aload_n 0, 1) := by decide +kernel
theorem dX12_law_135 : decode cX12_law 135 = .ok (.iload 7, 2) := by decide +kernel
theorem dX12_law_137 : decode cX12_law 137 = .ok (.i2l, 1) := by decide +kernel
theorem dX12_law_138 : decode cX12_law 138 = .ok (.invokevirtual 228, 3) := by decide +kernel
theorem dX12_law_141 : decode cX12_law 141 = .ok (.aload_n 0, 1) := by decide +kernel
theorem dX12_law_142 : decode cX12_law 142 = .ok (.iload 4, 2) := by decide +kernel
theorem dX12_law_144 : decode cX12_law 144 = .ok (.i2l, 1) := by decide +kernel
theorem dX12_law_145 : decode cX12_law 145 = .ok (.invokevirtual 228, 3) := by decide +kernel
theorem dX12_law_148 : decode cX12_law 148 = .ok (.iload 7, 2) := by decide +kernel
theorem dX12_law_150 : decode cX12_law 150 = .ok (.iload 4, 2) := by decide +kernel
theorem dX12_law_152 : decode cX12_law 152 = .ok (.isub, 1) := by decide +kernel
theorem dX12_law_153 : decode cX12_law 153 = .ok (.ireturn, 1) := by decide +kernel
theorem dX12_draw_0 : decode cX12_draw 0 = .ok (.aload_n 0, 1) := by decide +kernel
theorem dX12_draw_1 : decode cX12_draw 1 = .ok (.aload_n 0, 1) := by decide +kernel
theorem dX12_draw_2 : decode cX12_draw 2 = .ok (.getfield 419, 3) := by decide +kernel
theorem dX12_draw_5 : decode cX12_draw 5 = .ok (.ldc_w 422, 3) := by decide +kernel
theorem dX12_draw_8 : decode cX12_draw 8 = .ok (.imul, 1) := by decide +kernel
theorem dX12_draw_9 : decode cX12_draw 9 = .ok (.sipush 12345, 3) := by decide +kernel
theorem dX12_draw_12 : decode cX12_draw 12 = .ok (.iadd, 1) := by decide +kernel
theorem dX12_draw_13 : decode cX12_draw 13 = .ok (.putfield 419, 3) := by decide +kernel
theorem dX12_draw_16 : decode cX12_draw 16 = .ok (.aload_n 0, 1) := by decide +kernel
theorem dX12_draw_17 : decode cX12_draw 17 = .ok (.getfield 419, 3) := by decide +kernel
theorem dX12_draw_20 : decode cX12_draw 20 = .ok (.bipush 16, 2) := by decide +kernel
theorem dX12_draw_22 : decode cX12_draw 22 = .ok (.iushr, 1) := by decide +kernel
theorem dX12_draw_23 : decode cX12_draw 23 = .ok (.iload_n 1, 1) := by decide +kernel
theorem dX12_draw_24 : decode cX12_draw 24 = .ok (.irem, 1) := by decide +kernel
theorem dX12_draw_25 : decode cX12_draw 25 = .ok (.ireturn, 1) := by decide +kernel
theorem dX12_years_0 : decode cX12_years 0 = .ok (.aload_n 0, 1) := by decide +kernel
theorem dX12_years_1 : decode cX12_years 1 = .ok (.iconst 0, 1) := by decide +kernel
theorem dX12_years_2 : decode cX12_years 2 = .ok (.putfield 79, 3) := by decide +kernel
theorem dX12_years_5 : decode cX12_years 5 = .ok (.iload_n 2, 1) := by decide +kernel
theorem dX12_years_6 : decode cX12_years 6 = .ok (.iconst 1, 1) := by decide +kernel
theorem dX12_years_7 : decode cX12_years 7 = .ok (.bipush 40, 2) := by decide +kernel
theorem dX12_years_9 : decode cX12_years 9 = .ok (.invokestatic 86, 3) := by decide +kernel
theorem dX12_years_12 : decode cX12_years 12 = .ok (.ifCond .ne 5, 3) := by decide +kernel
theorem dX12_years_15 : decode cX12_years 15 = .ok (.iconst (-1), 1) := by decide +kernel
theorem dX12_years_16 : decode cX12_years 16 = .ok (.ireturn, 1) := by decide +kernel
theorem dX12_years_17 : decode cX12_years 17 = .ok (.aload_n 0, 1) := by decide +kernel
theorem dX12_years_18 : decode cX12_years 18 = .ok (.iload_n 1, 1) := by decide +kernel
theorem dX12_years_19 : decode cX12_years 19 = .ok (.putfield 419, 3) := by decide +kernel
theorem dX12_years_22 : decode cX12_years 22 = .ok (.aload_n 0, 1) := by decide +kernel
theorem dX12_years_23 : decode cX12_years 23 = .ok (.getfield 9, 3) := by decide +kernel
theorem dX12_years_26 : decode cX12_years 26 = .ok (.aload_n 0, 1) := by decide +kernel
theorem dX12_years_27 : decode cX12_years 27 = .ok (.getfield 39, 3) := by decide +kernel
theorem dX12_years_30 : decode cX12_years 30 = .ok (.iconst 0, 1) := by decide +kernel
theorem dX12_years_31 : decode cX12_years 31 = .ok (.invokestatic 242, 3) := by decide +kernel
theorem dX12_years_34 : decode cX12_years 34 = .ok (.iconst 0, 1) := by decide +kernel
theorem dX12_years_35 : decode cX12_years 35 = .ok (.istore_n 3, 1) := by decide +kernel
theorem dX12_years_36 : decode cX12_years 36 = .ok (.iload_n 3, 1) := by decide +kernel
theorem dX12_years_37 : decode cX12_years 37 = .ok (.iload_n 2, 1) := by decide +kernel
theorem dX12_years_38 : decode cX12_years 38 = .ok (.if_icmp .ge 179, 3) := by decide +kernel
theorem dX12_years_41 : decode cX12_years 41 = .ok (.aload_n 0, 1) := by decide +kernel
theorem dX12_years_42 : decode cX12_years 42 = .ok (.bipush 6, 2) := by decide +kernel
theorem dX12_years_44 : decode cX12_years 44 = .ok (.invokevirtual 423, 3) := by decide +kernel
theorem dX12_years_47 : decode cX12_years 47 = .ok (.istore 4, 2) := by decide +kernel
theorem dX12_years_49 : decode cX12_years 49 = .ok (.aload_n 0, 1) := by decide +kernel
theorem dX12_years_50 : decode cX12_years 50 = .ok (.bipush 24, 2) := by decide +kernel
theorem dX12_years_52 : decode cX12_years 52 = .ok (.invokevirtual 423, 3) := by decide +kernel
theorem dX12_years_55 : decode cX12_years 55 = .ok (.istore 5, 2) := by decide +kernel
theorem dX12_years_57 : decode cX12_years 57 = .ok (.aload_n 0, 1) := by decide +kernel
theorem dX12_years_58 : decode cX12_years 58 = .ok (.iconst 4, 1) := by decide +kernel
theorem dX12_years_59 : decode cX12_years 59 = .ok (.invokevirtual 423, 3) := by decide +kernel
theorem dX12_years_62 : decode cX12_years 62 = .ok (.istore 6, 2) := by decide +kernel
theorem dX12_years_64 : decode cX12_years 64 = .ok (.iload 4, 2) := by decide +kernel
theorem dX12_years_66 : decode cX12_years 66 = .ok (.iconst 3, 1) := by decide +kernel
theorem dX12_years_67 : decode cX12_years 67 = .ok (.if_icmp .ge 33, 3) := by decide +kernel
theorem dX12_years_70 : decode cX12_years 70 = .ok (.aload_n 0, 1) := by decide +kernel
theorem dX12_years_71 : decode cX12_years 71 = .ok (.aload_n 0, 1) := by decide +kernel
theorem dX12_years_72 : decode cX12_years 72 = .ok (.getfield 39, 3) := by decide +kernel
theorem dX12_years_75 : decode cX12_years 75 = .ok (.iload 5, 2) := by decide +kernel
theorem dX12_years_77 : decode cX12_years 77 = .ok (.iload 6, 2) := by decide +kernel
theorem dX12_years_79 : decode cX12_years 79 = .ok (.invokevirtual 283, 3) := by decide +kernel
theorem dX12_years_82 : decode cX12_years 82 = .ok (.ifCond .ne 18, 3) := by decide +kernel
theorem dX12_years_85 : decode cX12_years 85 = .ok (.aload_n 0, 1) := by decide +kernel
theorem dX12_years_86 : decode cX12_years 86 = .ok (.aload_n 0, 1) := by decide +kernel
theorem dX12_years_87 : decode cX12_years 87 = .ok (.getfield 39, 3) := by decide +kernel
theorem dX12_years_90 : decode cX12_years 90 = .ok (.bipush 24, 2) := by decide +kernel
theorem dX12_years_92 : decode cX12_years 92 = .ok (.iload 5, 2) := by decide +kernel
theorem dX12_years_94 : decode cX12_years 94 = .ok (.iload 6, 2) := by decide +kernel
theorem dX12_years_96 : decode cX12_years 96 = .ok (.invokevirtual 290, 3) := by decide +kernel
theorem dX12_years_99 : decode cX12_years 99 = .ok (.pop, 1) := by decide +kernel
theorem dX12_years_100 : decode cX12_years 100 = .ok (.iload 4, 2) := by decide +kernel
theorem dX12_years_102 : decode cX12_years 102 = .ok (.iconst 3, 1) := by decide +kernel
theorem dX12_years_103 : decode cX12_years 103 = .ok (.if_icmp .ne 26, 3) := by decide +kernel
theorem dX12_years_106 : decode cX12_years 106 = .ok (.aload_n 0, 1) := by decide +kernel
theorem dX12_years_107 : decode cX12_years 107 = .ok (.getfield 39, 3) := by decide +kernel
theorem dX12_years_110 : decode cX12_years 110 = .ok (.iload 5, 2) := by decide +kernel
theorem dX12_years_112 : decode cX12_years 112 = .ok (.iconst 1, 1) := by decide +kernel
theorem dX12_years_113 : decode cX12_years 113 = .ok (.invokestatic 317, 3) := by decide +kernel
theorem dX12_years_116 : decode cX12_years 116 = .ok (.ifCond .ne 13, 3) := by decide +kernel
theorem dX12_years_119 : decode cX12_years 119 = .ok (.aload_n 0, 1) := by decide +kernel
theorem dX12_years_120 : decode cX12_years 120 = .ok (.getfield 39, 3) := by decide +kernel
theorem dX12_years_123 : decode cX12_years 123 = .ok (.iload 5, 2) := by decide +kernel
theorem dX12_years_125 : decode cX12_years 125 = .ok (.iconst 1, 1) := by decide +kernel
theorem dX12_years_126 : decode cX12_years 126 = .ok (.invokestatic 320, 3) := by decide +kernel
theorem dX12_years_129 : decode cX12_years 129 = .ok (.iload 4, 2) := by decide +kernel
theorem dX12_years_131 : decode cX12_years 131 = .ok (.iconst 5, 1) := by decide +kernel
theorem dX12_years_132 : decode cX12_years 132 = .ok (.if_icmp .ne 30, 3) := by decide +kernel
theorem dX12_years_135 : decode cX12_years 135 = .ok (.aload_n 0, 1) := by decide +kernel
theorem dX12_years_136 : decode cX12_years 136 = .ok (.getfield 39, 3) := by decide +kernel
theorem dX12_years_139 : decode cX12_years 139 = .ok (.iload 5, 2) := by decide +kernel
theorem dX12_years_141 : decode cX12_years 141 = .ok (.iload 6, 2) := by decide +kernel
theorem dX12_years_143 : decode cX12_years 143 = .ok (.invokestatic 329, 3) := by decide +kernel
theorem dX12_years_146 : decode cX12_years 146 = .ok (.ifCond .ne 16, 3) := by decide +kernel
theorem dX12_years_149 : decode cX12_years 149 = .ok (.aload_n 0, 1) := by decide +kernel
theorem dX12_years_150 : decode cX12_years 150 = .ok (.aload_n 0, 1) := by decide +kernel
theorem dX12_years_151 : decode cX12_years 151 = .ok (.getfield 39, 3) := by decide +kernel
theorem dX12_years_154 : decode cX12_years 154 = .ok (.iload 5, 2) := by decide +kernel
theorem dX12_years_156 : decode cX12_years 156 = .ok (.iload 6, 2) := by decide +kernel
theorem dX12_years_158 : decode cX12_years 158 = .ok (.invokevirtual 332, 3) := by decide +kernel
theorem dX12_years_161 : decode cX12_years 161 = .ok (.pop, 1) := by decide +kernel
theorem dX12_years_162 : decode cX12_years 162 = .ok (.iload 4, 2) := by decide +kernel
theorem dX12_years_164 : decode cX12_years 164 = .ok (.iconst 4, 1) := by decide +kernel
theorem dX12_years_165 : decode cX12_years 165 = .ok (.if_icmp .eq 6, 3) := by decide +kernel
theorem dX12_years_168 : decode cX12_years 168 = .ok (.goto 43, 3) := by decide +kernel
theorem dX12_years_171 : decode cX12_years 171 = .ok (.aload_n 0, 1) := by decide +kernel
theorem dX12_years_172 : decode cX12_years 172 = .ok (.bipush 24, 2) := by decide +kernel
theorem dX12_years_174 : decode cX12_years 174 = .ok (.invokevirtual 423, 3) := by decide +kernel
theorem dX12_years_177 : decode cX12_years 177 = .ok (.istore 7, 2) := by decide +kernel
theorem dX12_years_179 : decode cX12_years 179 = .ok (.aload_n 0, 1) := by decide +kernel
theorem dX12_years_180 : decode cX12_years 180 = .ok (.aload_n 0, 1) := by decide +kernel
theorem dX12_years_181 : decode cX12_years 181 = .ok (.getfield 39, 3) := by decide +kernel
theorem dX12_years_184 : decode cX12_years 184 = .ok (.iload 7, 2) := by decide +kernel
theorem dX12_years_186 : decode cX12_years 186 = .ok (.iload 5, 2) := by decide +kernel
theorem dX12_years_188 : decode cX12_years 188 = .ok (.iload 6, 2) := by decide +kernel
theorem dX12_years_190 : decode cX12_years 190 = .ok (.invokevirtual 297, 3) := by decide +kernel
theorem dX12_years_193 : decode cX12_years 193 = .ok (.ifCond .ne 18, 3) := by decide +kernel
theorem dX12_years_196 : decode cX12_years 196 = .ok (.aload_n 0, 1) := by decide +kernel
theorem dX12_years_197 : decode cX12_years 197 = .ok (.aload_n 0, 1) := by decide +kernel
theorem dX12_years_198 : decode cX12_years 198 = .ok (.getfield 39, 3) := by decide +kernel
theorem dX12_years_201 : decode cX12_years 201 = .ok (.iload 7, 2) := by decide +kernel
theorem dX12_years_203 : decode cX12_years 203 = .ok (.iload 5, 2) := by decide +kernel
theorem dX12_years_205 : decode cX12_years 205 = .ok (.iload 6, 2) := by decide +kernel
theorem dX12_years_207 : decode cX12_years 207 = .ok (.invokevirtual 290, 3) := by decide +kernel
theorem dX12_years_210 : decode cX12_years 210 = .ok (.pop, 1) := by decide +kernel
theorem dX12_years_211 : decode cX12_years 211 = .ok (.iinc 3 1, 3) := by decide +kernel
theorem dX12_years_214 : decode cX12_years 214 = .ok (.goto (-178), 3) := by decide +kernel
theorem dX12_years_217 : decode cX12_years 217 = .ok (.aload_n 0, 1) := by decide +kernel
theorem dX12_years_218 : decode cX12_years 218 = .ok (.iconst 0, 1) := by decide +kernel
theorem dX12_years_219 : decode cX12_years 219 = .ok (.putfield 83, 3) := by decide +kernel
theorem dX12_years_222 : decode cX12_years 222 = .ok (.aload_n 0, 1) := by decide +kernel
theorem dX12_years_223 : decode cX12_years 223 = .ok (.aload_n 0, 1) := by decide +kernel
theorem dX12_years_224 : decode cX12_years 224 = .ok (.getfield 39, 3) := by decide +kernel
theorem dX12_years_227 : decode cX12_years 227 = .ok (.invokestatic 363, 3) := by decide +kernel
theorem dX12_years_230 : decode cX12_years 230 = .ok (.i2l, 1) := by decide +kernel
theorem dX12_years_231 : decode cX12_years 231 = .ok (.invokevirtual 228, 3) := by decide +kernel
theorem dX12_years_234 : decode cX12_years 234 = .ok (.aload_n 0, 1) := by decide +kernel
theorem dX12_years_235 : decode cX12_years 235 = .ok (.aload_n 0, 1) := by decide +kernel
theorem dX12_years_236 : decode cX12_years 236 = .ok (.getfield 39, 3) := by decide +kernel
theorem dX12_years_239 : decode cX12_years 239 = .ok (.bipush 120, 2) := by decide +kernel
theorem dX12_years_241 : decode cX12_years 241 = .ok (.iaload, 1) := by decide +kernel
theorem dX12_years_242 : decode cX12_years 242 = .ok (.aload_n 0, 1) := by decide +kernel
theorem dX12_years_243 : decode cX12_years 243 = .ok (.getfield 9, 3) := by decide +kernel
theorem dX12_years_246 : decode cX12_years 246 = .ok (.bipush 120, 2) := by decide +kernel
theorem dX12_years_248 : decode cX12_years 248 = .ok (.iaload, 1) := by decide +kernel
theorem dX12_years_249 : decode cX12_years 249 = .ok (.isub, 1) := by decide +kernel
theorem dX12_years_250 : decode cX12_years 250 = .ok (.i2l, 1) := by decide +kernel
theorem dX12_years_251 : decode cX12_years 251 = .ok (.invokevirtual 228, 3) := by decide +kernel
theorem dX12_years_254 : decode cX12_years 254 = .ok (.aload_n 0, 1) := by decide +kernel
theorem dX12_years_255 : decode cX12_years 255 = .ok (.getfield 39, 3) := by decide +kernel
theorem dX12_years_258 : decode cX12_years 258 = .ok (.invokestatic 280, 3) := by decide +kernel
theorem dX12_years_261 : decode cX12_years 261 = .ok (.invokestatic 192, 3) := by decide +kernel
theorem dX12_years_264 : decode cX12_years 264 = .ok (.ireturn, 1) := by decide +kernel
theorem dX12_keep_0 : decode cX12_keep 0 = .ok (.aload_n 0, 1) := by decide +kernel
theorem dX12_keep_1 : decode cX12_keep 1 = .ok (.iconst 0, 1) := by decide +kernel
theorem dX12_keep_2 : decode cX12_keep 2 = .ok (.putfield 79, 3) := by decide +kernel
theorem dX12_keep_5 : decode cX12_keep 5 = .ok (.iload_n 1, 1) := by decide +kernel
theorem dX12_keep_6 : decode cX12_keep 6 = .ok (.iconst 0, 1) := by decide +kernel
theorem dX12_keep_7 : decode cX12_keep 7 = .ok (.iconst 1, 1) := by decide +kernel
theorem dX12_keep_8 : decode cX12_keep 8 = .ok (.invokestatic 86, 3) := by decide +kernel
theorem dX12_keep_11 : decode cX12_keep 11 = .ok (.ifCond .ne 5, 3) := by decide +kernel
theorem dX12_keep_14 : decode cX12_keep 14 = .ok (.iconst 0, 1) := by decide +kernel
theorem dX12_keep_15 : decode cX12_keep 15 = .ok (.ireturn, 1) := by decide +kernel
theorem dX12_keep_16 : decode cX12_keep 16 = .ok (.aload_n 0, 1) := by decide +kernel
theorem dX12_keep_17 : decode cX12_keep 17 = .ok (.getfield 75, 3) := by decide +kernel
theorem dX12_keep_20 : decode cX12_keep 20 = .ok (.iload_n 1, 1) := by decide +kernel
theorem dX12_keep_21 : decode cX12_keep 21 = .ok (.iconst 1, 1) := by decide +kernel
theorem dX12_keep_22 : decode cX12_keep 22 = .ok (.bastore, 1) := by decide +kernel
theorem dX12_keep_23 : decode cX12_keep 23 = .ok (.aload_n 0, 1) := by decide +kernel
theorem dX12_keep_24 : decode cX12_keep 24 = .ok (.getfield 9, 3) := by decide +kernel
theorem dX12_keep_27 : decode cX12_keep 27 = .ok (.aload_n 0, 1) := by decide +kernel
theorem dX12_keep_28 : decode cX12_keep 28 = .ok (.getfield 72, 3) := by decide +kernel
theorem dX12_keep_31 : decode cX12_keep 31 = .ok (.bipush 122, 2) := by decide +kernel
theorem dX12_keep_33 : decode cX12_keep 33 = .ok (.iload_n 1, 1) := by decide +kernel
theorem dX12_keep_34 : decode cX12_keep 34 = .ok (.imul, 1) := by decide +kernel
theorem dX12_keep_35 : decode cX12_keep 35 = .ok (.invokestatic 242, 3) := by decide +kernel
theorem dX12_keep_38 : decode cX12_keep 38 = .ok (.iconst 1, 1) := by decide +kernel
theorem dX12_keep_39 : decode cX12_keep 39 = .ok (.ireturn, 1) := by decide +kernel
theorem dX12_again_0 : decode cX12_again 0 = .ok (.aload_n 0, 1) := by decide +kernel
theorem dX12_again_1 : decode cX12_again 1 = .ok (.iconst 0, 1) := by decide +kernel
theorem dX12_again_2 : decode cX12_again 2 = .ok (.putfield 79, 3) := by decide +kernel
theorem dX12_again_5 : decode cX12_again 5 = .ok (.iload_n 1, 1) := by decide +kernel
theorem dX12_again_6 : decode cX12_again 6 = .ok (.iconst 0, 1) := by decide +kernel
theorem dX12_again_7 : decode cX12_again 7 = .ok (.iconst 1, 1) := by decide +kernel
theorem dX12_again_8 : decode cX12_again 8 = .ok (.invokestatic 86, 3) := by decide +kernel
theorem dX12_again_11 : decode cX12_again 11 = .ok (.ifCond .eq 12, 3) := by decide +kernel
theorem dX12_again_14 : decode cX12_again 14 = .ok (.aload_n 0, 1) := by decide +kernel
theorem dX12_again_15 : decode cX12_again 15 = .ok (.getfield 75, 3) := by decide +kernel
theorem dX12_again_18 : decode cX12_again 18 = .ok (.iload_n 1, 1) := by decide +kernel
theorem dX12_again_19 : decode cX12_again 19 = .ok (.baload, 1) := by decide +kernel
theorem dX12_again_20 : decode cX12_again 20 = .ok (.ifCond .ne 5, 3) := by decide +kernel
theorem dX12_again_23 : decode cX12_again 23 = .ok (.iconst 0, 1) := by decide +kernel
theorem dX12_again_24 : decode cX12_again 24 = .ok (.ireturn, 1) := by decide +kernel
theorem dX12_again_25 : decode cX12_again 25 = .ok (.iconst 0, 1) := by decide +kernel
theorem dX12_again_26 : decode cX12_again 26 = .ok (.istore_n 2, 1) := by decide +kernel
theorem dX12_again_27 : decode cX12_again 27 = .ok (.iload_n 2, 1) := by decide +kernel
theorem dX12_again_28 : decode cX12_again 28 = .ok (.bipush 122, 2) := by decide +kernel
theorem dX12_again_30 : decode cX12_again 30 = .ok (.if_icmp .ge 26, 3) := by decide +kernel
theorem dX12_again_33 : decode cX12_again 33 = .ok (.aload_n 0, 1) := by decide +kernel
theorem dX12_again_34 : decode cX12_again 34 = .ok (.getfield 9, 3) := by decide +kernel
theorem dX12_again_37 : decode cX12_again 37 = .ok (.iload_n 2, 1) := by decide +kernel
theorem dX12_again_38 : decode cX12_again 38 = .ok (.aload_n 0, 1) := by decide +kernel
theorem dX12_again_39 : decode cX12_again 39 = .ok (.getfield 72, 3) := by decide +kernel
theorem dX12_again_42 : decode cX12_again 42 = .ok (.bipush 122, 2) := by decide +kernel
theorem dX12_again_44 : decode cX12_again 44 = .ok (.iload_n 1, 1) := by decide +kernel
theorem dX12_again_45 : decode cX12_again 45 = .ok (.imul, 1) := by decide +kernel
theorem dX12_again_46 : decode cX12_again 46 = .ok (.iload_n 2, 1) := by decide +kernel
theorem dX12_again_47 : decode cX12_again 47 = .ok (.iadd, 1) := by decide +kernel
theorem dX12_again_48 : decode cX12_again 48 = .ok (.iaload, 1) := by decide +kernel
theorem dX12_again_49 : decode cX12_again 49 = .ok (.iastore, 1) := by decide +kernel
theorem dX12_again_50 : decode cX12_again 50 = .ok (.iinc 2 1, 3) := by decide +kernel
theorem dX12_again_53 : decode cX12_again 53 = .ok (.goto (-26), 3) := by decide +kernel
theorem dX12_again_56 : decode cX12_again 56 = .ok (.aload_n 0, 1) := by decide +kernel
theorem dX12_again_57 : decode cX12_again 57 = .ok (.iconst 0, 1) := by decide +kernel
theorem dX12_again_58 : decode cX12_again 58 = .ok (.putfield 239, 3) := by decide +kernel
theorem dX12_again_61 : decode cX12_again 61 = .ok (.iconst 1, 1) := by decide +kernel
theorem dX12_again_62 : decode cX12_again 62 = .ok (.ireturn, 1) := by decide +kernel
theorem dX12_bitsOf_0 : decode cX12_bitsOf 0 = .ok (.iconst 0, 1) := by decide +kernel
theorem dX12_bitsOf_1 : decode cX12_bitsOf 1 = .ok (.istore_n 2, 1) := by decide +kernel
theorem dX12_bitsOf_2 : decode cX12_bitsOf 2 = .ok (.iconst 0, 1) := by decide +kernel
theorem dX12_bitsOf_3 : decode cX12_bitsOf 3 = .ok (.istore_n 3, 1) := by decide +kernel
theorem dX12_bitsOf_4 : decode cX12_bitsOf 4 = .ok (.iload_n 3, 1) := by decide +kernel
theorem dX12_bitsOf_5 : decode cX12_bitsOf 5 = .ok (.bipush 24, 2) := by decide +kernel
theorem dX12_bitsOf_7 : decode cX12_bitsOf 7 = .ok (.if_icmp .ge 41, 3) := by decide +kernel
theorem dX12_bitsOf_10 : decode cX12_bitsOf 10 = .ok (.iload_n 2, 1) := by decide +kernel
theorem dX12_bitsOf_11 : decode cX12_bitsOf 11 = .ok (.aload_n 0, 1) := by decide +kernel
theorem dX12_bitsOf_12 : decode cX12_bitsOf 12 = .ok (.getfield 9, 3) := by decide +kernel
theorem dX12_bitsOf_15 : decode cX12_bitsOf 15 = .ok (.iload_n 3, 1) := by decide +kernel
theorem dX12_bitsOf_16 : decode cX12_bitsOf 16 = .ok (.invokestatic 90, 3) := by decide +kernel
theorem dX12_bitsOf_19 : decode cX12_bitsOf 19 = .ok (.ifCond .eq 20, 3) := by decide +kernel
theorem dX12_bitsOf_22 : decode cX12_bitsOf 22 = .ok (.aload_n 0, 1) := by decide +kernel
theorem dX12_bitsOf_23 : decode cX12_bitsOf 23 = .ok (.getfield 9, 3) := by decide +kernel
theorem dX12_bitsOf_26 : decode cX12_bitsOf 26 = .ok (.iload_n 1, 1) := by decide +kernel
theorem dX12_bitsOf_27 : decode cX12_bitsOf 27 = .ok (.iload_n 3, 1) := by decide +kernel
theorem dX12_bitsOf_28 : decode cX12_bitsOf 28 = .ok (.iadd, 1) := by decide +kernel
theorem dX12_bitsOf_29 : decode cX12_bitsOf 29 = .ok (.iaload, 1) := by decide +kernel
theorem dX12_bitsOf_30 : decode cX12_bitsOf 30 = .ok (.ifCond .eq 9, 3) := by decide +kernel
theorem dX12_bitsOf_33 : decode cX12_bitsOf 33 = .ok (.iconst 1, 1) := by decide +kernel
theorem dX12_bitsOf_34 : decode cX12_bitsOf 34 = .ok (.iload_n 3, 1) := by decide +kernel
theorem dX12_bitsOf_35 : decode cX12_bitsOf 35 = .ok (.ishl, 1) := by decide +kernel
theorem dX12_bitsOf_36 : decode cX12_bitsOf 36 = .ok (.goto 4, 3) := by decide +kernel
theorem dX12_bitsOf_39 : decode cX12_bitsOf 39 = .ok (.iconst 0, 1) := by decide +kernel
theorem dX12_bitsOf_40 : decode cX12_bitsOf 40 = .ok (.ior, 1) := by decide +kernel
theorem dX12_bitsOf_41 : decode cX12_bitsOf 41 = .ok (.istore_n 2, 1) := by decide +kernel
theorem dX12_bitsOf_42 : decode cX12_bitsOf 42 = .ok (.iinc 3 1, 3) := by decide +kernel
theorem dX12_bitsOf_45 : decode cX12_bitsOf 45 = .ok (.goto (-41), 3) := by decide +kernel
theorem dX12_bitsOf_48 : decode cX12_bitsOf 48 = .ok (.iload_n 2, 1) := by decide +kernel
theorem dX12_bitsOf_49 : decode cX12_bitsOf 49 = .ok (.ireturn, 1) := by decide +kernel
theorem dX12_count_0 : decode cX12_count 0 = .ok (.aload_n 0, 1) := by decide +kernel
theorem dX12_count_1 : decode cX12_count 1 = .ok (.iconst 0, 1) := by decide +kernel
theorem dX12_count_2 : decode cX12_count 2 = .ok (.putfield 79, 3) := by decide +kernel
theorem dX12_count_5 : decode cX12_count 5 = .ok (.iload_n 1, 1) := by decide +kernel
theorem dX12_count_6 : decode cX12_count 6 = .ok (.tableswitch 128 0 10 #[58, 66, 73, 80, 87, 95, 103, 108, 113, 118, 123], 58) := by decide +kernel
theorem dX12_count_64 : decode cX12_count 64 = .ok (.aload_n 0, 1) := by decide +kernel
theorem dX12_count_65 : decode cX12_count 65 = .ok (.getfield 9, 3) := by decide +kernel
theorem dX12_count_68 : decode cX12_count 68 = .ok (.invokestatic 280, 3) := by decide +kernel
theorem dX12_count_71 : decode cX12_count 71 = .ok (.ireturn, 1) := by decide +kernel
theorem dX12_count_72 : decode cX12_count 72 = .ok (.aload_n 0, 1) := by decide +kernel
theorem dX12_count_73 : decode cX12_count 73 = .ok (.bipush 48, 2) := by decide +kernel
theorem dX12_count_75 : decode cX12_count 75 = .ok (.invokevirtual 426, 3) := by decide +kernel
theorem dX12_count_78 : decode cX12_count 78 = .ok (.ireturn, 1) := by decide +kernel
theorem dX12_count_79 : decode cX12_count 79 = .ok (.aload_n 0, 1) := by decide +kernel
theorem dX12_count_80 : decode cX12_count 80 = .ok (.bipush 72, 2) := by decide +kernel
theorem dX12_count_82 : decode cX12_count 82 = .ok (.invokevirtual 426, 3) := by decide +kernel
theorem dX12_count_85 : decode cX12_count 85 = .ok (.ireturn, 1) := by decide +kernel
theorem dX12_count_86 : decode cX12_count 86 = .ok (.aload_n 0, 1) := by decide +kernel
theorem dX12_count_87 : decode cX12_count 87 = .ok (.bipush 96, 2) := by decide +kernel
theorem dX12_count_89 : decode cX12_count 89 = .ok (.invokevirtual 426, 3) := by decide +kernel
theorem dX12_count_92 : decode cX12_count 92 = .ok (.ireturn, 1) := by decide +kernel
theorem dX12_count_93 : decode cX12_count 93 = .ok (.aload_n 0, 1) := by decide +kernel
theorem dX12_count_94 : decode cX12_count 94 = .ok (.getfield 9, 3) := by decide +kernel
theorem dX12_count_97 : decode cX12_count 97 = .ok (.bipush 120, 2) := by decide +kernel
theorem dX12_count_99 : decode cX12_count 99 = .ok (.iaload, 1) := by decide +kernel
theorem dX12_count_100 : decode cX12_count 100 = .ok (.ireturn, 1) := by decide +kernel
theorem dX12_count_101 : decode cX12_count 101 = .ok (.aload_n 0, 1) := by decide +kernel
theorem dX12_count_102 : decode cX12_count 102 = .ok (.getfield 9, 3) := by decide +kernel
theorem dX12_count_105 : decode cX12_count 105 = .ok (.bipush 121, 2) := by decide +kernel
theorem dX12_count_107 : decode cX12_count 107 = .ok (.iaload, 1) := by decide +kernel
theorem dX12_count_108 : decode cX12_count 108 = .ok (.ireturn, 1) := by decide +kernel
theorem dX12_count_109 : decode cX12_count 109 = .ok (.aload_n 0, 1) := by decide +kernel
theorem dX12_count_110 : decode cX12_count 110 = .ok (.getfield 378, 3) := by decide +kernel
theorem dX12_count_113 : decode cX12_count 113 = .ok (.ireturn, 1) := by decide +kernel
theorem dX12_count_114 : decode cX12_count 114 = .ok (.aload_n 0, 1) := by decide +kernel
theorem dX12_count_115 : decode cX12_count 115 = .ok (.getfield 388, 3) := by decide +kernel
theorem dX12_count_118 : decode cX12_count 118 = .ok (.ireturn, 1) := by decide +kernel
theorem dX12_count_119 : decode cX12_count 119 = .ok (.aload_n 0, 1) := by decide +kernel
theorem dX12_count_120 : decode cX12_count 120 = .ok (.getfield 239, 3) := by decide +kernel
theorem dX12_count_123 : decode cX12_count 123 = .ok (.ireturn, 1) := by decide +kernel
theorem dX12_count_124 : decode cX12_count 124 = .ok (.aload_n 0, 1) := by decide +kernel
theorem dX12_count_125 : decode cX12_count 125 = .ok (.getfield 83, 3) := by decide +kernel
theorem dX12_count_128 : decode cX12_count 128 = .ok (.ireturn, 1) := by decide +kernel
theorem dX12_count_129 : decode cX12_count 129 = .ok (.aload_n 0, 1) := by decide +kernel
theorem dX12_count_130 : decode cX12_count 130 = .ok (.getfield 105, 3) := by decide +kernel
theorem dX12_count_133 : decode cX12_count 133 = .ok (.ireturn, 1) := by decide +kernel
theorem dX12_count_134 : decode cX12_count 134 = .ok (.iconst (-1), 1) := by decide +kernel
theorem dX12_count_135 : decode cX12_count 135 = .ok (.ireturn, 1) := by decide +kernel
theorem dX12_row_0 : decode cX12_row 0 = .ok (.aload_n 0, 1) := by decide +kernel
theorem dX12_row_1 : decode cX12_row 1 = .ok (.iconst 0, 1) := by decide +kernel
theorem dX12_row_2 : decode cX12_row 2 = .ok (.putfield 79, 3) := by decide +kernel
theorem dX12_row_5 : decode cX12_row 5 = .ok (.iload_n 1, 1) := by decide +kernel
theorem dX12_row_6 : decode cX12_row 6 = .ok (.iconst 0, 1) := by decide +kernel
theorem dX12_row_7 : decode cX12_row 7 = .ok (.aload_n 0, 1) := by decide +kernel
theorem dX12_row_8 : decode cX12_row 8 = .ok (.getfield 83, 3) := by decide +kernel
theorem dX12_row_11 : decode cX12_row 11 = .ok (.iconst 1, 1) := by decide +kernel
theorem dX12_row_12 : decode cX12_row 12 = .ok (.isub, 1) := by decide +kernel
theorem dX12_row_13 : decode cX12_row 13 = .ok (.invokestatic 86, 3) := by decide +kernel
theorem dX12_row_16 : decode cX12_row 16 = .ok (.ifCond .eq 12, 3) := by decide +kernel
theorem dX12_row_19 : decode cX12_row 19 = .ok (.aload_n 0, 1) := by decide +kernel
theorem dX12_row_20 : decode cX12_row 20 = .ok (.getfield 17, 3) := by decide +kernel
theorem dX12_row_23 : decode cX12_row 23 = .ok (.iload_n 1, 1) := by decide +kernel
theorem dX12_row_24 : decode cX12_row 24 = .ok (.laload, 1) := by decide +kernel
theorem dX12_row_25 : decode cX12_row 25 = .ok (.goto 8, 3) := by decide +kernel
theorem dX12_row_28 : decode cX12_row 28 = .ok (.aload_n 0, 1) := by decide +kernel
theorem dX12_row_29 : decode cX12_row 29 = .ok (.invokevirtual 232, 3) := by decide +kernel
theorem dX12_row_32 : decode cX12_row 32 = .ok (.i2l, 1) := by decide +kernel
theorem dX12_row_33 : decode cX12_row 33 = .ok (.lreturn, 1) := by decide +kernel
theorem dJ11_isValidCodePoint_9a6ad_0 : decode cJ11_isValidCodePoint_9a6ad 0 = .ok (.iload_n 0, 1) := by decide +kernel
theorem dJ11_isValidCodePoint_9a6ad_1 : decode cJ11_isValidCodePoint_9a6ad 1 = .ok (.bipush 16, 2) := by decide +kernel
theorem dJ11_isValidCodePoint_9a6ad_3 : decode cJ11_isValidCodePoint_9a6ad 3 = .ok (.iushr, 1) := by decide +kernel
theorem dJ11_isValidCodePoint_9a6ad_4 : decode cJ11_isValidCodePoint_9a6ad 4 = .ok (.istore_n 1, 1) := by decide +kernel
theorem dJ11_isValidCodePoint_9a6ad_5 : decode cJ11_isValidCodePoint_9a6ad 5 = .ok (.iload_n 1, 1) := by decide +kernel
theorem dJ11_isValidCodePoint_9a6ad_6 : decode cJ11_isValidCodePoint_9a6ad 6 = .ok (.bipush 17, 2) := by decide +kernel
theorem dJ11_isValidCodePoint_9a6ad_8 : decode cJ11_isValidCodePoint_9a6ad 8 = .ok (.if_icmp .ge 7, 3) := by decide +kernel
theorem dJ11_isValidCodePoint_9a6ad_11 : decode cJ11_isValidCodePoint_9a6ad 11 = .ok (.iconst 1, 1) := by decide +kernel
theorem dJ11_isValidCodePoint_9a6ad_12 : decode cJ11_isValidCodePoint_9a6ad 12 = .ok (.goto 4, 3) := by decide +kernel
theorem dJ11_isValidCodePoint_9a6ad_15 : decode cJ11_isValidCodePoint_9a6ad 15 = .ok (.iconst 0, 1) := by decide +kernel
theorem dJ11_isValidCodePoint_9a6ad_16 : decode cJ11_isValidCodePoint_9a6ad 16 = .ok (.ireturn, 1) := by decide +kernel
theorem dJ11_highSurrogate_5068e_0 : decode cJ11_highSurrogate_5068e 0 = .ok (.iload_n 0, 1) := by decide +kernel
theorem dJ11_highSurrogate_5068e_1 : decode cJ11_highSurrogate_5068e 1 = .ok (.bipush 10, 2) := by decide +kernel
theorem dJ11_highSurrogate_5068e_3 : decode cJ11_highSurrogate_5068e 3 = .ok (.iushr, 1) := by decide +kernel
theorem dJ11_highSurrogate_5068e_4 : decode cJ11_highSurrogate_5068e 4 = .ok (.ldc 110, 2) := by decide +kernel
theorem dJ11_highSurrogate_5068e_6 : decode cJ11_highSurrogate_5068e 6 = .ok (.iadd, 1) := by decide +kernel
theorem dJ11_highSurrogate_5068e_7 : decode cJ11_highSurrogate_5068e 7 = .ok (.i2c, 1) := by decide +kernel
theorem dJ11_highSurrogate_5068e_8 : decode cJ11_highSurrogate_5068e 8 = .ok (.ireturn, 1) := by decide +kernel
theorem dJ11_lowSurrogate_5068e_0 : decode cJ11_lowSurrogate_5068e 0 = .ok (.iload_n 0, 1) := by decide +kernel
theorem dJ11_lowSurrogate_5068e_1 : decode cJ11_lowSurrogate_5068e 1 = .ok (.sipush 1023, 3) := by decide +kernel
theorem dJ11_lowSurrogate_5068e_4 : decode cJ11_lowSurrogate_5068e 4 = .ok (.iand, 1) := by decide +kernel
theorem dJ11_lowSurrogate_5068e_5 : decode cJ11_lowSurrogate_5068e 5 = .ok (.ldc 76, 2) := by decide +kernel
theorem dJ11_lowSurrogate_5068e_7 : decode cJ11_lowSurrogate_5068e 7 = .ok (.iadd, 1) := by decide +kernel
theorem dJ11_lowSurrogate_5068e_8 : decode cJ11_lowSurrogate_5068e 8 = .ok (.i2c, 1) := by decide +kernel
theorem dJ11_lowSurrogate_5068e_9 : decode cJ11_lowSurrogate_5068e 9 = .ok (.ireturn, 1) := by decide +kernel
theorem dJ6_numberOfTrailingZeros_0f7a4_0 : decode cJ6_numberOfTrailingZeros_0f7a4 0 = .ok (.iload_n 0, 1) := by decide +kernel
theorem dJ6_numberOfTrailingZeros_0f7a4_1 : decode cJ6_numberOfTrailingZeros_0f7a4 1 = .ok (.iconst (-1), 1) := by decide +kernel
theorem dJ6_numberOfTrailingZeros_0f7a4_2 : decode cJ6_numberOfTrailingZeros_0f7a4 2 = .ok (.ixor, 1) := by decide +kernel
theorem dJ6_numberOfTrailingZeros_0f7a4_3 : decode cJ6_numberOfTrailingZeros_0f7a4 3 = .ok (.iload_n 0, 1) := by decide +kernel
theorem dJ6_numberOfTrailingZeros_0f7a4_4 : decode cJ6_numberOfTrailingZeros_0f7a4 4 = .ok (.iconst 1, 1) := by decide +kernel
theorem dJ6_numberOfTrailingZeros_0f7a4_5 : decode cJ6_numberOfTrailingZeros_0f7a4 5 = .ok (.isub, 1) := by decide +kernel
theorem dJ6_numberOfTrailingZeros_0f7a4_6 : decode cJ6_numberOfTrailingZeros_0f7a4 6 = .ok (.iand, 1) := by decide +kernel
theorem dJ6_numberOfTrailingZeros_0f7a4_7 : decode cJ6_numberOfTrailingZeros_0f7a4 7 = .ok (.istore_n 0, 1) := by decide +kernel
theorem dJ6_numberOfTrailingZeros_0f7a4_8 : decode cJ6_numberOfTrailingZeros_0f7a4 8 = .ok (.iload_n 0, 1) := by decide +kernel
theorem dJ6_numberOfTrailingZeros_0f7a4_9 : decode cJ6_numberOfTrailingZeros_0f7a4 9 = .ok (.ifCond .gt 8, 3) := by decide +kernel
theorem dJ6_numberOfTrailingZeros_0f7a4_12 : decode cJ6_numberOfTrailingZeros_0f7a4 12 = .ok (.iload_n 0, 1) := by decide +kernel
theorem dJ6_numberOfTrailingZeros_0f7a4_13 : decode cJ6_numberOfTrailingZeros_0f7a4 13 = .ok (.bipush 32, 2) := by decide +kernel
theorem dJ6_numberOfTrailingZeros_0f7a4_15 : decode cJ6_numberOfTrailingZeros_0f7a4 15 = .ok (.iand, 1) := by decide +kernel
theorem dJ6_numberOfTrailingZeros_0f7a4_16 : decode cJ6_numberOfTrailingZeros_0f7a4 16 = .ok (.ireturn, 1) := by decide +kernel
theorem dJ6_numberOfTrailingZeros_0f7a4_17 : decode cJ6_numberOfTrailingZeros_0f7a4 17 = .ok (.iconst 1, 1) := by decide +kernel
theorem dJ6_numberOfTrailingZeros_0f7a4_18 : decode cJ6_numberOfTrailingZeros_0f7a4 18 = .ok (.istore_n 1, 1) := by decide +kernel
theorem dJ6_numberOfTrailingZeros_0f7a4_19 : decode cJ6_numberOfTrailingZeros_0f7a4 19 = .ok (.iload_n 0, 1) := by decide +kernel
theorem dJ6_numberOfTrailingZeros_0f7a4_20 : decode cJ6_numberOfTrailingZeros_0f7a4 20 = .ok (.ldc_w 264, 3) := by decide +kernel
theorem dJ6_numberOfTrailingZeros_0f7a4_23 : decode cJ6_numberOfTrailingZeros_0f7a4 23 = .ok (.if_icmp .le 11, 3) := by decide +kernel
theorem dJ6_numberOfTrailingZeros_0f7a4_26 : decode cJ6_numberOfTrailingZeros_0f7a4 26 = .ok (.iinc 1 16, 3) := by decide +kernel
theorem dJ6_numberOfTrailingZeros_0f7a4_29 : decode cJ6_numberOfTrailingZeros_0f7a4 29 = .ok (.iload_n 0, 1) := by decide +kernel
theorem dJ6_numberOfTrailingZeros_0f7a4_30 : decode cJ6_numberOfTrailingZeros_0f7a4 30 = .ok (.bipush 16, 2) := by decide +kernel
theorem dJ6_numberOfTrailingZeros_0f7a4_32 : decode cJ6_numberOfTrailingZeros_0f7a4 32 = .ok (.iushr, 1) := by decide +kernel
theorem dJ6_numberOfTrailingZeros_0f7a4_33 : decode cJ6_numberOfTrailingZeros_0f7a4 33 = .ok (.istore_n 0, 1) := by decide +kernel
theorem dJ6_numberOfTrailingZeros_0f7a4_34 : decode cJ6_numberOfTrailingZeros_0f7a4 34 = .ok (.iload_n 0, 1) := by decide +kernel
theorem dJ6_numberOfTrailingZeros_0f7a4_35 : decode cJ6_numberOfTrailingZeros_0f7a4 35 = .ok (.sipush 256, 3) := by decide +kernel
theorem dJ6_numberOfTrailingZeros_0f7a4_38 : decode cJ6_numberOfTrailingZeros_0f7a4 38 = .ok (.if_icmp .le 11, 3) := by decide +kernel
theorem dJ6_numberOfTrailingZeros_0f7a4_41 : decode cJ6_numberOfTrailingZeros_0f7a4 41 = .ok (.iinc 1 8, 3) := by decide +kernel
theorem dJ6_numberOfTrailingZeros_0f7a4_44 : decode cJ6_numberOfTrailingZeros_0f7a4 44 = .ok (.iload_n 0, 1) := by decide +kernel
theorem dJ6_numberOfTrailingZeros_0f7a4_45 : decode cJ6_numberOfTrailingZeros_0f7a4 45 = .ok (.bipush 8, 2) := by decide +kernel
theorem dJ6_numberOfTrailingZeros_0f7a4_47 : decode cJ6_numberOfTrailingZeros_0f7a4 47 = .ok (.iushr, 1) := by decide +kernel
theorem dJ6_numberOfTrailingZeros_0f7a4_48 : decode cJ6_numberOfTrailingZeros_0f7a4 48 = .ok (.istore_n 0, 1) := by decide +kernel
theorem dJ6_numberOfTrailingZeros_0f7a4_49 : decode cJ6_numberOfTrailingZeros_0f7a4 49 = .ok (.iload_n 0, 1) := by decide +kernel
theorem dJ6_numberOfTrailingZeros_0f7a4_50 : decode cJ6_numberOfTrailingZeros_0f7a4 50 = .ok (.bipush 16, 2) := by decide +kernel
theorem dJ6_numberOfTrailingZeros_0f7a4_52 : decode cJ6_numberOfTrailingZeros_0f7a4 52 = .ok (.if_icmp .le 10, 3) := by decide +kernel
theorem dJ6_numberOfTrailingZeros_0f7a4_55 : decode cJ6_numberOfTrailingZeros_0f7a4 55 = .ok (.iinc 1 4, 3) := by decide +kernel
theorem dJ6_numberOfTrailingZeros_0f7a4_58 : decode cJ6_numberOfTrailingZeros_0f7a4 58 = .ok (.iload_n 0, 1) := by decide +kernel
theorem dJ6_numberOfTrailingZeros_0f7a4_59 : decode cJ6_numberOfTrailingZeros_0f7a4 59 = .ok (.iconst 4, 1) := by decide +kernel
theorem dJ6_numberOfTrailingZeros_0f7a4_60 : decode cJ6_numberOfTrailingZeros_0f7a4 60 = .ok (.iushr, 1) := by decide +kernel
theorem dJ6_numberOfTrailingZeros_0f7a4_61 : decode cJ6_numberOfTrailingZeros_0f7a4 61 = .ok (.istore_n 0, 1) := by decide +kernel
theorem dJ6_numberOfTrailingZeros_0f7a4_62 : decode cJ6_numberOfTrailingZeros_0f7a4 62 = .ok (.iload_n 0, 1) := by decide +kernel
theorem dJ6_numberOfTrailingZeros_0f7a4_63 : decode cJ6_numberOfTrailingZeros_0f7a4 63 = .ok (.iconst 4, 1) := by decide +kernel
theorem dJ6_numberOfTrailingZeros_0f7a4_64 : decode cJ6_numberOfTrailingZeros_0f7a4 64 = .ok (.if_icmp .le 10, 3) := by decide +kernel
theorem dJ6_numberOfTrailingZeros_0f7a4_67 : decode cJ6_numberOfTrailingZeros_0f7a4 67 = .ok (.iinc 1 2, 3) := by decide +kernel
theorem dJ6_numberOfTrailingZeros_0f7a4_70 : decode cJ6_numberOfTrailingZeros_0f7a4 70 = .ok (.iload_n 0, 1) := by decide +kernel
theorem dJ6_numberOfTrailingZeros_0f7a4_71 : decode cJ6_numberOfTrailingZeros_0f7a4 71 = .ok (.iconst 2, 1) := by decide +kernel
theorem dJ6_numberOfTrailingZeros_0f7a4_72 : decode cJ6_numberOfTrailingZeros_0f7a4 72 = .ok (.iushr, 1) := by decide +kernel
theorem dJ6_numberOfTrailingZeros_0f7a4_73 : decode cJ6_numberOfTrailingZeros_0f7a4 73 = .ok (.istore_n 0, 1) := by decide +kernel
theorem dJ6_numberOfTrailingZeros_0f7a4_74 : decode cJ6_numberOfTrailingZeros_0f7a4 74 = .ok (.iload_n 1, 1) := by decide +kernel
theorem dJ6_numberOfTrailingZeros_0f7a4_75 : decode cJ6_numberOfTrailingZeros_0f7a4 75 = .ok (.iload_n 0, 1) := by decide +kernel
theorem dJ6_numberOfTrailingZeros_0f7a4_76 : decode cJ6_numberOfTrailingZeros_0f7a4 76 = .ok (.iconst 1, 1) := by decide +kernel
theorem dJ6_numberOfTrailingZeros_0f7a4_77 : decode cJ6_numberOfTrailingZeros_0f7a4 77 = .ok (.iushr, 1) := by decide +kernel
theorem dJ6_numberOfTrailingZeros_0f7a4_78 : decode cJ6_numberOfTrailingZeros_0f7a4 78 = .ok (.iadd, 1) := by decide +kernel
theorem dJ6_numberOfTrailingZeros_0f7a4_79 : decode cJ6_numberOfTrailingZeros_0f7a4 79 = .ok (.ireturn, 1) := by decide +kernel
theorem dJ6_bitCount_0f7a4_0 : decode cJ6_bitCount_0f7a4 0 = .ok (.iload_n 0, 1) := by decide +kernel
theorem dJ6_bitCount_0f7a4_1 : decode cJ6_bitCount_0f7a4 1 = .ok (.iload_n 0, 1) := by decide +kernel
theorem dJ6_bitCount_0f7a4_2 : decode cJ6_bitCount_0f7a4 2 = .ok (.iconst 1, 1) := by decide +kernel
theorem dJ6_bitCount_0f7a4_3 : decode cJ6_bitCount_0f7a4 3 = .ok (.iushr, 1) := by decide +kernel
theorem dJ6_bitCount_0f7a4_4 : decode cJ6_bitCount_0f7a4 4 = .ok (.ldc_w 265, 3) := by decide +kernel
theorem dJ6_bitCount_0f7a4_7 : decode cJ6_bitCount_0f7a4 7 = .ok (.iand, 1) := by decide +kernel
theorem dJ6_bitCount_0f7a4_8 : decode cJ6_bitCount_0f7a4 8 = .ok (.isub, 1) := by decide +kernel
theorem dJ6_bitCount_0f7a4_9 : decode cJ6_bitCount_0f7a4 9 = .ok (.istore_n 0, 1) := by decide +kernel
theorem dJ6_bitCount_0f7a4_10 : decode cJ6_bitCount_0f7a4 10 = .ok (.iload_n 0, 1) := by decide +kernel
theorem dJ6_bitCount_0f7a4_11 : decode cJ6_bitCount_0f7a4 11 = .ok (.ldc_w 266, 3) := by decide +kernel
theorem dJ6_bitCount_0f7a4_14 : decode cJ6_bitCount_0f7a4 14 = .ok (.iand, 1) := by decide +kernel
theorem dJ6_bitCount_0f7a4_15 : decode cJ6_bitCount_0f7a4 15 = .ok (.iload_n 0, 1) := by decide +kernel
theorem dJ6_bitCount_0f7a4_16 : decode cJ6_bitCount_0f7a4 16 = .ok (.iconst 2, 1) := by decide +kernel
theorem dJ6_bitCount_0f7a4_17 : decode cJ6_bitCount_0f7a4 17 = .ok (.iushr, 1) := by decide +kernel
theorem dJ6_bitCount_0f7a4_18 : decode cJ6_bitCount_0f7a4 18 = .ok (.ldc_w 266, 3) := by decide +kernel
theorem dJ6_bitCount_0f7a4_21 : decode cJ6_bitCount_0f7a4 21 = .ok (.iand, 1) := by decide +kernel
theorem dJ6_bitCount_0f7a4_22 : decode cJ6_bitCount_0f7a4 22 = .ok (.iadd, 1) := by decide +kernel
theorem dJ6_bitCount_0f7a4_23 : decode cJ6_bitCount_0f7a4 23 = .ok (.istore_n 0, 1) := by decide +kernel
theorem dJ6_bitCount_0f7a4_24 : decode cJ6_bitCount_0f7a4 24 = .ok (.iload_n 0, 1) := by decide +kernel
theorem dJ6_bitCount_0f7a4_25 : decode cJ6_bitCount_0f7a4 25 = .ok (.iload_n 0, 1) := by decide +kernel
theorem dJ6_bitCount_0f7a4_26 : decode cJ6_bitCount_0f7a4 26 = .ok (.iconst 4, 1) := by decide +kernel
theorem dJ6_bitCount_0f7a4_27 : decode cJ6_bitCount_0f7a4 27 = .ok (.iushr, 1) := by decide +kernel
theorem dJ6_bitCount_0f7a4_28 : decode cJ6_bitCount_0f7a4 28 = .ok (.iadd, 1) := by decide +kernel
theorem dJ6_bitCount_0f7a4_29 : decode cJ6_bitCount_0f7a4 29 = .ok (.ldc_w 267, 3) := by decide +kernel
theorem dJ6_bitCount_0f7a4_32 : decode cJ6_bitCount_0f7a4 32 = .ok (.iand, 1) := by decide +kernel
theorem dJ6_bitCount_0f7a4_33 : decode cJ6_bitCount_0f7a4 33 = .ok (.istore_n 0, 1) := by decide +kernel
theorem dJ6_bitCount_0f7a4_34 : decode cJ6_bitCount_0f7a4 34 = .ok (.iload_n 0, 1) := by decide +kernel
theorem dJ6_bitCount_0f7a4_35 : decode cJ6_bitCount_0f7a4 35 = .ok (.iload_n 0, 1) := by decide +kernel
theorem dJ6_bitCount_0f7a4_36 : decode cJ6_bitCount_0f7a4 36 = .ok (.bipush 8, 2) := by decide +kernel
theorem dJ6_bitCount_0f7a4_38 : decode cJ6_bitCount_0f7a4 38 = .ok (.iushr, 1) := by decide +kernel
theorem dJ6_bitCount_0f7a4_39 : decode cJ6_bitCount_0f7a4 39 = .ok (.iadd, 1) := by decide +kernel
theorem dJ6_bitCount_0f7a4_40 : decode cJ6_bitCount_0f7a4 40 = .ok (.istore_n 0, 1) := by decide +kernel
theorem dJ6_bitCount_0f7a4_41 : decode cJ6_bitCount_0f7a4 41 = .ok (.iload_n 0, 1) := by decide +kernel
theorem dJ6_bitCount_0f7a4_42 : decode cJ6_bitCount_0f7a4 42 = .ok (.iload_n 0, 1) := by decide +kernel
theorem dJ6_bitCount_0f7a4_43 : decode cJ6_bitCount_0f7a4 43 = .ok (.bipush 16, 2) := by decide +kernel
theorem dJ6_bitCount_0f7a4_45 : decode cJ6_bitCount_0f7a4 45 = .ok (.iushr, 1) := by decide +kernel
theorem dJ6_bitCount_0f7a4_46 : decode cJ6_bitCount_0f7a4 46 = .ok (.iadd, 1) := by decide +kernel
theorem dJ6_bitCount_0f7a4_47 : decode cJ6_bitCount_0f7a4 47 = .ok (.istore_n 0, 1) := by decide +kernel
theorem dJ6_bitCount_0f7a4_48 : decode cJ6_bitCount_0f7a4 48 = .ok (.iload_n 0, 1) := by decide +kernel
theorem dJ6_bitCount_0f7a4_49 : decode cJ6_bitCount_0f7a4 49 = .ok (.bipush 63, 2) := by decide +kernel
theorem dJ6_bitCount_0f7a4_51 : decode cJ6_bitCount_0f7a4 51 = .ok (.iand, 1) := by decide +kernel
theorem dJ6_bitCount_0f7a4_52 : decode cJ6_bitCount_0f7a4 52 = .ok (.ireturn, 1) := by decide +kernel
theorem dJ13_bitCount_95d88_0 : decode cJ13_bitCount_95d88 0 = .ok (.lload_n 0, 1) := by decide +kernel
theorem dJ13_bitCount_95d88_1 : decode cJ13_bitCount_95d88 1 = .ok (.lload_n 0, 1) := by decide +kernel
theorem dJ13_bitCount_95d88_2 : decode cJ13_bitCount_95d88 2 = .ok (.iconst 1, 1) := by decide +kernel
theorem dJ13_bitCount_95d88_3 : decode cJ13_bitCount_95d88 3 = .ok (.lushr, 1) := by decide +kernel
theorem dJ13_bitCount_95d88_4 : decode cJ13_bitCount_95d88 4 = .ok (.ldc2_w 314, 3) := by decide +kernel
theorem dJ13_bitCount_95d88_7 : decode cJ13_bitCount_95d88 7 = .ok (.land, 1) := by decide +kernel
theorem dJ13_bitCount_95d88_8 : decode cJ13_bitCount_95d88 8 = .ok (.lsub, 1) := by decide +kernel
theorem dJ13_bitCount_95d88_9 : decode cJ13_bitCount_95d88 9 = .ok (.lstore_n 0, 1) := by decide +kernel
theorem dJ13_bitCount_95d88_10 : decode cJ13_bitCount_95d88 10 = .ok (.lload_n 0, 1) := by decide +kernel
theorem dJ13_bitCount_95d88_11 : decode cJ13_bitCount_95d88 11 = .ok (.ldc2_w 316, 3) := by decide +kernel
theorem dJ13_bitCount_95d88_14 : decode cJ13_bitCount_95d88 14 = .ok (.land, 1) := by decide +kernel
theorem dJ13_bitCount_95d88_15 : decode cJ13_bitCount_95d88 15 = .ok (.lload_n 0, 1) := by decide +kernel
theorem dJ13_bitCount_95d88_16 : decode cJ13_bitCount_95d88 16 = .ok (.iconst 2, 1) := by decide +kernel
theorem dJ13_bitCount_95d88_17 : decode cJ13_bitCount_95d88 17 = .ok (.lushr, 1) := by decide +kernel
theorem dJ13_bitCount_95d88_18 : decode cJ13_bitCount_95d88 18 = .ok (.ldc2_w 316, 3) := by decide +kernel
theorem dJ13_bitCount_95d88_21 : decode cJ13_bitCount_95d88 21 = .ok (.land, 1) := by decide +kernel
theorem dJ13_bitCount_95d88_22 : decode cJ13_bitCount_95d88 22 = .ok (.ladd, 1) := by decide +kernel
theorem dJ13_bitCount_95d88_23 : decode cJ13_bitCount_95d88 23 = .ok (.lstore_n 0, 1) := by decide +kernel
theorem dJ13_bitCount_95d88_24 : decode cJ13_bitCount_95d88 24 = .ok (.lload_n 0, 1) := by decide +kernel
theorem dJ13_bitCount_95d88_25 : decode cJ13_bitCount_95d88 25 = .ok (.lload_n 0, 1) := by decide +kernel
theorem dJ13_bitCount_95d88_26 : decode cJ13_bitCount_95d88 26 = .ok (.iconst 4, 1) := by decide +kernel
theorem dJ13_bitCount_95d88_27 : decode cJ13_bitCount_95d88 27 = .ok (.lushr, 1) := by decide +kernel
theorem dJ13_bitCount_95d88_28 : decode cJ13_bitCount_95d88 28 = .ok (.ladd, 1) := by decide +kernel
theorem dJ13_bitCount_95d88_29 : decode cJ13_bitCount_95d88 29 = .ok (.ldc2_w 318, 3) := by decide +kernel
theorem dJ13_bitCount_95d88_32 : decode cJ13_bitCount_95d88 32 = .ok (.land, 1) := by decide +kernel
theorem dJ13_bitCount_95d88_33 : decode cJ13_bitCount_95d88 33 = .ok (.lstore_n 0, 1) := by decide +kernel
theorem dJ13_bitCount_95d88_34 : decode cJ13_bitCount_95d88 34 = .ok (.lload_n 0, 1) := by decide +kernel
theorem dJ13_bitCount_95d88_35 : decode cJ13_bitCount_95d88 35 = .ok (.lload_n 0, 1) := by decide +kernel
theorem dJ13_bitCount_95d88_36 : decode cJ13_bitCount_95d88 36 = .ok (.bipush 8, 2) := by decide +kernel
theorem dJ13_bitCount_95d88_38 : decode cJ13_bitCount_95d88 38 = .ok (.lushr, 1) := by decide +kernel
theorem dJ13_bitCount_95d88_39 : decode cJ13_bitCount_95d88 39 = .ok (.ladd, 1) := by decide +kernel
theorem dJ13_bitCount_95d88_40 : decode cJ13_bitCount_95d88 40 = .ok (.lstore_n 0, 1) := by decide +kernel
theorem dJ13_bitCount_95d88_41 : decode cJ13_bitCount_95d88 41 = .ok (.lload_n 0, 1) := by decide +kernel
theorem dJ13_bitCount_95d88_42 : decode cJ13_bitCount_95d88 42 = .ok (.lload_n 0, 1) := by decide +kernel
theorem dJ13_bitCount_95d88_43 : decode cJ13_bitCount_95d88 43 = .ok (.bipush 16, 2) := by decide +kernel
theorem dJ13_bitCount_95d88_45 : decode cJ13_bitCount_95d88 45 = .ok (.lushr, 1) := by decide +kernel
theorem dJ13_bitCount_95d88_46 : decode cJ13_bitCount_95d88 46 = .ok (.ladd, 1) := by decide +kernel
theorem dJ13_bitCount_95d88_47 : decode cJ13_bitCount_95d88 47 = .ok (.lstore_n 0, 1) := by decide +kernel
theorem dJ13_bitCount_95d88_48 : decode cJ13_bitCount_95d88 48 = .ok (.lload_n 0, 1) := by decide +kernel
theorem dJ13_bitCount_95d88_49 : decode cJ13_bitCount_95d88 49 = .ok (.lload_n 0, 1) := by decide +kernel
theorem dJ13_bitCount_95d88_50 : decode cJ13_bitCount_95d88 50 = .ok (.bipush 32, 2) := by decide +kernel
theorem dJ13_bitCount_95d88_52 : decode cJ13_bitCount_95d88 52 = .ok (.lushr, 1) := by decide +kernel
theorem dJ13_bitCount_95d88_53 : decode cJ13_bitCount_95d88 53 = .ok (.ladd, 1) := by decide +kernel
theorem dJ13_bitCount_95d88_54 : decode cJ13_bitCount_95d88 54 = .ok (.lstore_n 0, 1) := by decide +kernel
theorem dJ13_bitCount_95d88_55 : decode cJ13_bitCount_95d88 55 = .ok (.lload_n 0, 1) := by decide +kernel
theorem dJ13_bitCount_95d88_56 : decode cJ13_bitCount_95d88 56 = .ok (.l2i, 1) := by decide +kernel
theorem dJ13_bitCount_95d88_57 : decode cJ13_bitCount_95d88 57 = .ok (.bipush 127, 2) := by decide +kernel
theorem dJ13_bitCount_95d88_59 : decode cJ13_bitCount_95d88 59 = .ok (.iand, 1) := by decide +kernel
theorem dJ13_bitCount_95d88_60 : decode cJ13_bitCount_95d88 60 = .ok (.ireturn, 1) := by decide +kernel
theorem dJ9_max_7cf53_0 : decode cJ9_max_7cf53 0 = .ok (.iload_n 0, 1) := by decide +kernel
theorem dJ9_max_7cf53_1 : decode cJ9_max_7cf53 1 = .ok (.iload_n 1, 1) := by decide +kernel
theorem dJ9_max_7cf53_2 : decode cJ9_max_7cf53 2 = .ok (.if_icmp .lt 7, 3) := by decide +kernel
theorem dJ9_max_7cf53_5 : decode cJ9_max_7cf53 5 = .ok (.iload_n 0, 1) := by decide +kernel
theorem dJ9_max_7cf53_6 : decode cJ9_max_7cf53 6 = .ok (.goto 4, 3) := by decide +kernel
theorem dJ9_max_7cf53_9 : decode cJ9_max_7cf53 9 = .ok (.iload_n 1, 1) := by decide +kernel
theorem dJ9_max_7cf53_10 : decode cJ9_max_7cf53 10 = .ok (.ireturn, 1) := by decide +kernel
theorem dJ9_min_7cf53_0 : decode cJ9_min_7cf53 0 = .ok (.iload_n 0, 1) := by decide +kernel
theorem dJ9_min_7cf53_1 : decode cJ9_min_7cf53 1 = .ok (.iload_n 1, 1) := by decide +kernel
theorem dJ9_min_7cf53_2 : decode cJ9_min_7cf53 2 = .ok (.if_icmp .gt 7, 3) := by decide +kernel
theorem dJ9_min_7cf53_5 : decode cJ9_min_7cf53 5 = .ok (.iload_n 0, 1) := by decide +kernel
theorem dJ9_min_7cf53_6 : decode cJ9_min_7cf53 6 = .ok (.goto 4, 3) := by decide +kernel
theorem dJ9_min_7cf53_9 : decode cJ9_min_7cf53 9 = .ok (.iload_n 1, 1) := by decide +kernel
theorem dJ9_min_7cf53_10 : decode cJ9_min_7cf53 10 = .ok (.ireturn, 1) := by decide +kernel
theorem dJ0_length_8abf5_0 : decode cJ0_length_8abf5 0 = .ok (.aload_n 0, 1) := by decide +kernel
theorem dJ0_length_8abf5_1 : decode cJ0_length_8abf5 1 = .ok (.getfield 9, 3) := by decide +kernel
theorem dJ0_length_8abf5_4 : decode cJ0_length_8abf5 4 = .ok (.arraylength, 1) := by decide +kernel
theorem dJ0_length_8abf5_5 : decode cJ0_length_8abf5 5 = .ok (.aload_n 0, 1) := by decide +kernel
theorem dJ0_length_8abf5_6 : decode cJ0_length_8abf5 6 = .ok (.invokevirtual 335, 3) := by decide +kernel
theorem dJ0_length_8abf5_9 : decode cJ0_length_8abf5 9 = .ok (.ishr, 1) := by decide +kernel
theorem dJ0_length_8abf5_10 : decode cJ0_length_8abf5 10 = .ok (.ireturn, 1) := by decide +kernel
theorem dJ0_indexOf_0f7a4_0 : decode cJ0_indexOf_0f7a4 0 = .ok (.aload_n 0, 1) := by decide +kernel
theorem dJ0_indexOf_0f7a4_1 : decode cJ0_indexOf_0f7a4 1 = .ok (.iload_n 1, 1) := by decide +kernel
theorem dJ0_indexOf_0f7a4_2 : decode cJ0_indexOf_0f7a4 2 = .ok (.iconst 0, 1) := by decide +kernel
theorem dJ0_indexOf_0f7a4_3 : decode cJ0_indexOf_0f7a4 3 = .ok (.invokevirtual 633, 3) := by decide +kernel
theorem dJ0_indexOf_0f7a4_6 : decode cJ0_indexOf_0f7a4 6 = .ok (.ireturn, 1) := by decide +kernel
theorem dJ0_indexOf_7cf53_0 : decode cJ0_indexOf_7cf53 0 = .ok (.aload_n 0, 1) := by decide +kernel
theorem dJ0_indexOf_7cf53_1 : decode cJ0_indexOf_7cf53 1 = .ok (.invokevirtual 492, 3) := by decide +kernel
theorem dJ0_indexOf_7cf53_4 : decode cJ0_indexOf_7cf53 4 = .ok (.ifCond .eq 19, 3) := by decide +kernel
theorem dJ0_indexOf_7cf53_7 : decode cJ0_indexOf_7cf53 7 = .ok (.aload_n 0, 1) := by decide +kernel
theorem dJ0_indexOf_7cf53_8 : decode cJ0_indexOf_7cf53 8 = .ok (.getfield 9, 3) := by decide +kernel
theorem dJ0_indexOf_7cf53_11 : decode cJ0_indexOf_7cf53 11 = .ok (.iload_n 1, 1) := by decide +kernel
theorem dJ0_indexOf_7cf53_12 : decode cJ0_indexOf_7cf53 12 = .ok (.iload_n 2, 1) := by decide +kernel
theorem dJ0_indexOf_7cf53_13 : decode cJ0_indexOf_7cf53 13 = .ok (.aload_n 0, 1) := by decide +kernel
theorem dJ0_indexOf_7cf53_14 : decode cJ0_indexOf_7cf53 14 = .ok (.invokevirtual 505, 3) := by decide +kernel
theorem dJ0_indexOf_7cf53_17 : decode cJ0_indexOf_7cf53 17 = .ok (.invokestatic 637, 3) := by decide +kernel
theorem dJ0_indexOf_7cf53_20 : decode cJ0_indexOf_7cf53 20 = .ok (.goto 16, 3) := by decide +kernel
theorem dJ0_indexOf_7cf53_23 : decode cJ0_indexOf_7cf53 23 = .ok (.aload_n 0, 1) := by decide +kernel
theorem dJ0_indexOf_7cf53_24 : decode cJ0_indexOf_7cf53 24 = .ok (.getfield 9, 3) := by decide +kernel
theorem dJ0_indexOf_7cf53_27 : decode cJ0_indexOf_7cf53 27 = .ok (.iload_n 1, 1) := by decide +kernel
theorem dJ0_indexOf_7cf53_28 : decode cJ0_indexOf_7cf53 28 = .ok (.iload_n 2, 1) := by decide +kernel
theorem dJ0_indexOf_7cf53_29 : decode cJ0_indexOf_7cf53 29 = .ok (.aload_n 0, 1) := by decide +kernel
theorem dJ0_indexOf_7cf53_30 : decode cJ0_indexOf_7cf53 30 = .ok (.invokevirtual 505, 3) := by decide +kernel
theorem dJ0_indexOf_7cf53_33 : decode cJ0_indexOf_7cf53 33 = .ok (.invokestatic 640, 3) := by decide +kernel
theorem dJ0_indexOf_7cf53_36 : decode cJ0_indexOf_7cf53 36 = .ok (.ireturn, 1) := by decide +kernel
theorem dJ0_coder_7d493_0 : decode cJ0_coder_7d493 0 = .ok (.getstatic 38, 3) := by decide +kernel
theorem dJ0_coder_7d493_3 : decode cJ0_coder_7d493 3 = .ok (.ifCond .eq 10, 3) := by decide +kernel
theorem dJ0_coder_7d493_6 : decode cJ0_coder_7d493 6 = .ok (.aload_n 0, 1) := by decide +kernel
theorem dJ0_coder_7d493_7 : decode cJ0_coder_7d493 7 = .ok (.getfield 15, 3) := by decide +kernel
theorem dJ0_coder_7d493_10 : decode cJ0_coder_7d493 10 = .ok (.goto 4, 3) := by decide +kernel
theorem dJ0_coder_7d493_13 : decode cJ0_coder_7d493 13 = .ok (.iconst 1, 1) := by decide +kernel
theorem dJ0_coder_7d493_14 : decode cJ0_coder_7d493 14 = .ok (.ireturn, 1) := by decide +kernel
theorem dJ0_isLatin1_aae02_0 : decode cJ0_isLatin1_aae02 0 = .ok (.getstatic 38, 3) := by decide +kernel
theorem dJ0_isLatin1_aae02_3 : decode cJ0_isLatin1_aae02 3 = .ok (.ifCond .eq 14, 3) := by decide +kernel
theorem dJ0_isLatin1_aae02_6 : decode cJ0_isLatin1_aae02 6 = .ok (.aload_n 0, 1) := by decide +kernel
theorem dJ0_isLatin1_aae02_7 : decode cJ0_isLatin1_aae02 7 = .ok (.getfield 15, 3) := by decide +kernel
theorem dJ0_isLatin1_aae02_10 : decode cJ0_isLatin1_aae02 10 = .ok (.ifCond .ne 7, 3) := by decide +kernel
theorem dJ0_isLatin1_aae02_13 : decode cJ0_isLatin1_aae02 13 = .ok (.iconst 1, 1) := by decide +kernel
theorem dJ0_isLatin1_aae02_14 : decode cJ0_isLatin1_aae02 14 = .ok (.goto 4, 3) := by decide +kernel
theorem dJ0_isLatin1_aae02_17 : decode cJ0_isLatin1_aae02 17 = .ok (.iconst 0, 1) := by decide +kernel
theorem dJ0_isLatin1_aae02_18 : decode cJ0_isLatin1_aae02 18 = .ok (.ireturn, 1) := by decide +kernel
theorem dJ0_checkBoundsBeginEnd_23922_0 : decode cJ0_checkBoundsBeginEnd_23922 0 = .ok (.iload_n 0, 1) := by decide +kernel
theorem dJ0_checkBoundsBeginEnd_23922_1 : decode cJ0_checkBoundsBeginEnd_23922 1 = .ok (.iload_n 1, 1) := by decide +kernel
theorem dJ0_checkBoundsBeginEnd_23922_2 : decode cJ0_checkBoundsBeginEnd_23922 2 = .ok (.iload_n 2, 1) := by decide +kernel
theorem dJ0_checkBoundsBeginEnd_23922_3 : decode cJ0_checkBoundsBeginEnd_23922 3 = .ok (.getstatic 1053, 3) := by decide +kernel
theorem dJ0_checkBoundsBeginEnd_23922_6 : decode cJ0_checkBoundsBeginEnd_23922 6 = .ok (.invokestatic 1062, 3) := by decide +kernel
theorem dJ0_checkBoundsBeginEnd_23922_9 : decode cJ0_checkBoundsBeginEnd_23922 9 = .ok (.pop, 1) := by decide +kernel
theorem dJ0_checkBoundsBeginEnd_23922_10 : decode cJ0_checkBoundsBeginEnd_23922 10 = .ok (.return_, 1) := by decide +kernel
theorem dJ1_canEncode_9a6ad_0 : decode cJ1_canEncode_9a6ad 0 = .ok (.iload_n 0, 1) := by decide +kernel
theorem dJ1_canEncode_9a6ad_1 : decode cJ1_canEncode_9a6ad 1 = .ok (.ifCond .lt 14, 3) := by decide +kernel
theorem dJ1_canEncode_9a6ad_4 : decode cJ1_canEncode_9a6ad 4 = .ok (.iload_n 0, 1) := by decide +kernel
theorem dJ1_canEncode_9a6ad_5 : decode cJ1_canEncode_9a6ad 5 = .ok (.sipush 255, 3) := by decide +kernel
theorem dJ1_canEncode_9a6ad_8 : decode cJ1_canEncode_9a6ad 8 = .ok (.if_icmp .gt 7, 3) := by decide +kernel
theorem dJ1_canEncode_9a6ad_11 : decode cJ1_canEncode_9a6ad 11 = .ok (.iconst 1, 1) := by decide +kernel
theorem dJ1_canEncode_9a6ad_12 : decode cJ1_canEncode_9a6ad 12 = .ok (.goto 4, 3) := by decide +kernel
theorem dJ1_canEncode_9a6ad_15 : decode cJ1_canEncode_9a6ad 15 = .ok (.iconst 0, 1) := by decide +kernel
theorem dJ1_canEncode_9a6ad_16 : decode cJ1_canEncode_9a6ad 16 = .ok (.ireturn, 1) := by decide +kernel
theorem dJ1_indexOf_4cfef_0 : decode cJ1_indexOf_4cfef 0 = .ok (.iload_n 1, 1) := by decide +kernel
theorem dJ1_indexOf_4cfef_1 : decode cJ1_indexOf_4cfef 1 = .ok (.invokestatic 88, 3) := by decide +kernel
theorem dJ1_indexOf_4cfef_4 : decode cJ1_indexOf_4cfef 4 = .ok (.ifCond .ne 5, 3) := by decide +kernel
theorem dJ1_indexOf_4cfef_7 : decode cJ1_indexOf_4cfef 7 = .ok (.iconst (-1), 1) := by decide +kernel
theorem dJ1_indexOf_4cfef_8 : decode cJ1_indexOf_4cfef 8 = .ok (.ireturn, 1) := by decide +kernel
theorem dJ1_indexOf_4cfef_9 : decode cJ1_indexOf_4cfef 9 = .ok (.iload_n 2, 1) := by decide +kernel
theorem dJ1_indexOf_4cfef_10 : decode cJ1_indexOf_4cfef 10 = .ok (.iconst 0, 1) := by decide +kernel
theorem dJ1_indexOf_4cfef_11 : decode cJ1_indexOf_4cfef 11 = .ok (.invokestatic 92, 3) := by decide +kernel
theorem dJ1_indexOf_4cfef_14 : decode cJ1_indexOf_4cfef 14 = .ok (.istore_n 2, 1) := by decide +kernel
theorem dJ1_indexOf_4cfef_15 : decode cJ1_indexOf_4cfef 15 = .ok (.iload_n 3, 1) := by decide +kernel
theorem dJ1_indexOf_4cfef_16 : decode cJ1_indexOf_4cfef 16 = .ok (.aload_n 0, 1) := by decide +kernel
theorem dJ1_indexOf_4cfef_17 : decode cJ1_indexOf_4cfef 17 = .ok (.arraylength, 1) := by decide +kernel
theorem dJ1_indexOf_4cfef_18 : decode cJ1_indexOf_4cfef 18 = .ok (.invokestatic 38, 3) := by decide +kernel
theorem dJ1_indexOf_4cfef_21 : decode cJ1_indexOf_4cfef 21 = .ok (.istore_n 3, 1) := by decide +kernel
theorem dJ1_indexOf_4cfef_22 : decode cJ1_indexOf_4cfef 22 = .ok (.iload_n 2, 1) := by decide +kernel
theorem dJ1_indexOf_4cfef_23 : decode cJ1_indexOf_4cfef 23 = .ok (.iload_n 3, 1) := by decide +kernel
theorem dJ1_indexOf_4cfef_24 : decode cJ1_indexOf_4cfef 24 = .ok (.if_icmp .lt 5, 3) := by decide +kernel
theorem dJ1_indexOf_4cfef_27 : decode cJ1_indexOf_4cfef 27 = .ok (.iconst (-1), 1) := by decide +kernel
theorem dJ1_indexOf_4cfef_28 : decode cJ1_indexOf_4cfef 28 = .ok (.ireturn, 1) := by decide +kernel
theorem dJ1_indexOf_4cfef_29 : decode cJ1_indexOf_4cfef 29 = .ok (.aload_n 0, 1) := by decide +kernel
theorem dJ1_indexOf_4cfef_30 : decode cJ1_indexOf_4cfef 30 = .ok (.iload_n 1, 1) := by decide +kernel
theorem dJ1_indexOf_4cfef_31 : decode cJ1_indexOf_4cfef 31 = .ok (.iload_n 2, 1) := by decide +kernel
theorem dJ1_indexOf_4cfef_32 : decode cJ1_indexOf_4cfef 32 = .ok (.iload_n 3, 1) := by decide +kernel
theorem dJ1_indexOf_4cfef_33 : decode cJ1_indexOf_4cfef 33 = .ok (.invokestatic 95, 3) := by decide +kernel
theorem dJ1_indexOf_4cfef_36 : decode cJ1_indexOf_4cfef 36 = .ok (.ireturn, 1) := by decide +kernel
theorem dJ1_indexOfChar_4cfef_0 : decode cJ1_indexOfChar_4cfef 0 = .ok (.iload_n 1, 1) := by decide +kernel
theorem dJ1_indexOfChar_4cfef_1 : decode cJ1_indexOfChar_4cfef 1 = .ok (.i2b, 1) := by decide +kernel
theorem dJ1_indexOfChar_4cfef_2 : decode cJ1_indexOfChar_4cfef 2 = .ok (.istore 4, 2) := by decide +kernel
theorem dJ1_indexOfChar_4cfef_4 : decode cJ1_indexOfChar_4cfef 4 = .ok (.iload_n 2, 1) := by decide +kernel
theorem dJ1_indexOfChar_4cfef_5 : decode cJ1_indexOfChar_4cfef 5 = .ok (.istore 5, 2) := by decide +kernel
theorem dJ1_indexOfChar_4cfef_7 : decode cJ1_indexOfChar_4cfef 7 = .ok (.iload 5, 2) := by decide +kernel
theorem dJ1_indexOfChar_4cfef_9 : decode cJ1_indexOfChar_4cfef 9 = .ok (.iload_n 3, 1) := by decide +kernel
theorem dJ1_indexOfChar_4cfef_10 : decode cJ1_indexOfChar_4cfef 10 = .ok (.if_icmp .ge 21, 3) := by decide +kernel
theorem dJ1_indexOfChar_4cfef_13 : decode cJ1_indexOfChar_4cfef 13 = .ok (.aload_n 0, 1) := by decide +kernel
theorem dJ1_indexOfChar_4cfef_14 : decode cJ1_indexOfChar_4cfef 14 = .ok (.iload 5, 2) := by decide +kernel
theorem dJ1_indexOfChar_4cfef_16 : decode cJ1_indexOfChar_4cfef 16 = .ok (.baload, 1) := by decide +kernel
theorem dJ1_indexOfChar_4cfef_17 : decode cJ1_indexOfChar_4cfef 17 = .ok (.iload 4, 2) := by decide +kernel
theorem dJ1_indexOfChar_4cfef_19 : decode cJ1_indexOfChar_4cfef 19 = .ok (.if_icmp .ne 6, 3) := by decide +kernel
theorem dJ1_indexOfChar_4cfef_22 : decode cJ1_indexOfChar_4cfef 22 = .ok (.iload 5, 2) := by decide +kernel
theorem dJ1_indexOfChar_4cfef_24 : decode cJ1_indexOfChar_4cfef 24 = .ok (.ireturn, 1) := by decide +kernel
theorem dJ1_indexOfChar_4cfef_25 : decode cJ1_indexOfChar_4cfef 25 = .ok (.iinc 5 1, 3) := by decide +kernel
theorem dJ1_indexOfChar_4cfef_28 : decode cJ1_indexOfChar_4cfef 28 = .ok (.goto (-21), 3) := by decide +kernel
theorem dJ1_indexOfChar_4cfef_31 : decode cJ1_indexOfChar_4cfef 31 = .ok (.iconst (-1), 1) := by decide +kernel
theorem dJ1_indexOfChar_4cfef_32 : decode cJ1_indexOfChar_4cfef 32 = .ok (.ireturn, 1) := by decide +kernel
theorem dJ2_getChar_3b067_0 : decode cJ2_getChar_3b067 0 = .ok (.getstatic 44, 3) := by decide +kernel
theorem dJ2_getChar_3b067_3 : decode cJ2_getChar_3b067 3 = .ok (.ifCond .ne 25, 3) := by decide +kernel
theorem dJ2_getChar_3b067_6 : decode cJ2_getChar_3b067 6 = .ok (.iload_n 1, 1) := by decide +kernel
theorem dJ2_getChar_3b067_7 : decode cJ2_getChar_3b067 7 = .ok (.ifCond .lt 11, 3) := by decide +kernel
theorem dJ2_getChar_3b067_10 : decode cJ2_getChar_3b067 10 = .ok (.iload_n 1, 1) := by decide +kernel
theorem dJ2_getChar_3b067_11 : decode cJ2_getChar_3b067 11 = .ok (.aload_n 0, 1) := by decide +kernel
theorem dJ2_getChar_3b067_12 : decode cJ2_getChar_3b067 12 = .ok (.invokestatic 48, 3) := by decide +kernel
theorem dJ2_getChar_3b067_15 : decode cJ2_getChar_3b067 15 = .ok (.if_icmp .lt 13, 3) := by decide +kernel
theorem dJ2_getChar_3b067_18 : decode cJ2_getChar_3b067 18 = .ok (.new 52, 3) := by decide +kernel
theorem dJ2_getChar_3b067_21 : decode cJ2_getChar_3b067 21 = .ok (.dup, 1) := by decide +kernel
theorem dJ2_getChar_3b067_22 : decode cJ2_getChar_3b067 22 = .ok (.ldc 54, 2) := by decide +kernel
theorem dJ2_getChar_3b067_24 : decode cJ2_getChar_3b067 24 = .ok (.invokespecial 56, 3) := by decide +kernel
theorem dJ2_getChar_3b067_27 : decode cJ2_getChar_3b067 27 = .ok (.athrow, 1) := by decide +kernel
theorem dJ2_getChar_3b067_28 : decode cJ2_getChar_3b067 28 = .ok (.iload_n 1, 1) := by decide +kernel
theorem dJ2_getChar_3b067_29 : decode cJ2_getChar_3b067 29 = .ok (.iconst 1, 1) := by decide +kernel
theorem dJ2_getChar_3b067_30 : decode cJ2_getChar_3b067 30 = .ok (.ishl, 1) := by decide +kernel
theorem dJ2_getChar_3b067_31 : decode cJ2_getChar_3b067 31 = .ok (.istore_n 1, 1) := by decide +kernel
theorem dJ2_getChar_3b067_32 : decode cJ2_getChar_3b067 32 = .ok (.aload_n 0, 1) := by decide +kernel
theorem dJ2_getChar_3b067_33 : decode cJ2_getChar_3b067 33 = .ok (.iload_n 1, 1) := by decide +kernel
theorem dJ2_getChar_3b067_34 : decode cJ2_getChar_3b067 34 = .ok (.iinc 1 1, 3) := by decide +kernel
theorem dJ2_getChar_3b067_37 : decode cJ2_getChar_3b067 37 = .ok (.baload, 1) := by decide +kernel
theorem dJ2_getChar_3b067_38 : decode cJ2_getChar_3b067 38 = .ok (.sipush 255, 3) := by decide +kernel
theorem dJ2_getChar_3b067_41 : decode cJ2_getChar_3b067 41 = .ok (.iand, 1) := by decide +kernel
theorem dJ2_getChar_3b067_42 : decode cJ2_getChar_3b067 42 = .ok (.getstatic 59, 3) := by decide +kernel
theorem dJ2_getChar_3b067_45 : decode cJ2_getChar_3b067 45 = .ok (.ishl, 1) := by decide +kernel
theorem dJ2_getChar_3b067_46 : decode cJ2_getChar_3b067 46 = .ok (.aload_n 0, 1) := by decide +kernel
theorem dJ2_getChar_3b067_47 : decode cJ2_getChar_3b067 47 = .ok (.iload_n 1, 1) := by decide +kernel
theorem dJ2_getChar_3b067_48 : decode cJ2_getChar_3b067 48 = .ok (.baload, 1) := by decide +kernel
theorem dJ2_getChar_3b067_49 : decode cJ2_getChar_3b067 49 = .ok (.sipush 255, 3) := by decide +kernel
theorem dJ2_getChar_3b067_52 : decode cJ2_getChar_3b067 52 = .ok (.iand, 1) := by decide +kernel
theorem dJ2_getChar_3b067_53 : decode cJ2_getChar_3b067 53 = .ok (.getstatic 63, 3) := by decide +kernel
theorem dJ2_getChar_3b067_56 : decode cJ2_getChar_3b067 56 = .ok (.ishl, 1) := by decide +kernel
theorem dJ2_getChar_3b067_57 : decode cJ2_getChar_3b067 57 = .ok (.ior, 1) := by decide +kernel
theorem dJ2_getChar_3b067_58 : decode cJ2_getChar_3b067 58 = .ok (.i2c, 1) := by decide +kernel
theorem dJ2_getChar_3b067_59 : decode cJ2_getChar_3b067 59 = .ok (.ireturn, 1) := by decide +kernel
theorem dJ2_length_9d52b_0 : decode cJ2_length_9d52b 0 = .ok (.aload_n 0, 1) := by decide +kernel
theorem dJ2_length_9d52b_1 : decode cJ2_length_9d52b 1 = .ok (.arraylength, 1) := by decide +kernel
theorem dJ2_length_9d52b_2 : decode cJ2_length_9d52b 2 = .ok (.iconst 1, 1) := by decide +kernel
theorem dJ2_length_9d52b_3 : decode cJ2_length_9d52b 3 = .ok (.ishr, 1) := by decide +kernel
theorem dJ2_length_9d52b_4 : decode cJ2_length_9d52b 4 = .ok (.ireturn, 1) := by decide +kernel
theorem dJ2_indexOf_4cfef_0 : decode cJ2_indexOf_4cfef 0 = .ok (.iload_n 2, 1) := by decide +kernel
theorem dJ2_indexOf_4cfef_1 : decode cJ2_indexOf_4cfef 1 = .ok (.iconst 0, 1) := by decide +kernel
theorem dJ2_indexOf_4cfef_2 : decode cJ2_indexOf_4cfef 2 = .ok (.invokestatic 224, 3) := by decide +kernel
theorem dJ2_indexOf_4cfef_5 : decode cJ2_indexOf_4cfef 5 = .ok (.istore_n 2, 1) := by decide +kernel
theorem dJ2_indexOf_4cfef_6 : decode cJ2_indexOf_4cfef 6 = .ok (.iload_n 3, 1) := by decide +kernel
theorem dJ2_indexOf_4cfef_7 : decode cJ2_indexOf_4cfef 7 = .ok (.aload_n 0, 1) := by decide +kernel
theorem dJ2_indexOf_4cfef_8 : decode cJ2_indexOf_4cfef 8 = .ok (.arraylength, 1) := by decide +kernel
theorem dJ2_indexOf_4cfef_9 : decode cJ2_indexOf_4cfef 9 = .ok (.iconst 1, 1) := by decide +kernel
theorem dJ2_indexOf_4cfef_10 : decode cJ2_indexOf_4cfef 10 = .ok (.ishr, 1) := by decide +kernel
theorem dJ2_indexOf_4cfef_11 : decode cJ2_indexOf_4cfef 11 = .ok (.invokestatic 183, 3) := by decide +kernel
theorem dJ2_indexOf_4cfef_14 : decode cJ2_indexOf_4cfef 14 = .ok (.istore_n 3, 1) := by decide +kernel
theorem dJ2_indexOf_4cfef_15 : decode cJ2_indexOf_4cfef 15 = .ok (.iload_n 2, 1) := by decide +kernel
theorem dJ2_indexOf_4cfef_16 : decode cJ2_indexOf_4cfef 16 = .ok (.iload_n 3, 1) := by decide +kernel
theorem dJ2_indexOf_4cfef_17 : decode cJ2_indexOf_4cfef 17 = .ok (.if_icmp .lt 5, 3) := by decide +kernel
theorem dJ2_indexOf_4cfef_20 : decode cJ2_indexOf_4cfef 20 = .ok (.iconst (-1), 1) := by decide +kernel
theorem dJ2_indexOf_4cfef_21 : decode cJ2_indexOf_4cfef 21 = .ok (.ireturn, 1) := by decide +kernel
theorem dJ2_indexOf_4cfef_22 : decode cJ2_indexOf_4cfef 22 = .ok (.iload_n 1, 1) := by decide +kernel
theorem dJ2_indexOf_4cfef_23 : decode cJ2_indexOf_4cfef 23 = .ok (.ldc 227, 2) := by decide +kernel
theorem dJ2_indexOf_4cfef_25 : decode cJ2_indexOf_4cfef 25 = .ok (.if_icmp .ge 11, 3) := by decide +kernel
theorem dJ2_indexOf_4cfef_28 : decode cJ2_indexOf_4cfef 28 = .ok (.aload_n 0, 1) := by decide +kernel
theorem dJ2_indexOf_4cfef_29 : decode cJ2_indexOf_4cfef 29 = .ok (.iload_n 1, 1) := by decide +kernel
theorem dJ2_indexOf_4cfef_30 : decode cJ2_indexOf_4cfef 30 = .ok (.iload_n 2, 1) := by decide +kernel
theorem dJ2_indexOf_4cfef_31 : decode cJ2_indexOf_4cfef 31 = .ok (.iload_n 3, 1) := by decide +kernel
theorem dJ2_indexOf_4cfef_32 : decode cJ2_indexOf_4cfef 32 = .ok (.invokestatic 228, 3) := by decide +kernel
theorem dJ2_indexOf_4cfef_35 : decode cJ2_indexOf_4cfef 35 = .ok (.ireturn, 1) := by decide +kernel
theorem dJ2_indexOf_4cfef_36 : decode cJ2_indexOf_4cfef 36 = .ok (.aload_n 0, 1) := by decide +kernel
theorem dJ2_indexOf_4cfef_37 : decode cJ2_indexOf_4cfef 37 = .ok (.iload_n 1, 1) := by decide +kernel
theorem dJ2_indexOf_4cfef_38 : decode cJ2_indexOf_4cfef 38 = .ok (.iload_n 2, 1) := by decide +kernel
theorem dJ2_indexOf_4cfef_39 : decode cJ2_indexOf_4cfef 39 = .ok (.iload_n 3, 1) := by decide +kernel
theorem dJ2_indexOf_4cfef_40 : decode cJ2_indexOf_4cfef 40 = .ok (.invokestatic 232, 3) := by decide +kernel
theorem dJ2_indexOf_4cfef_43 : decode cJ2_indexOf_4cfef 43 = .ok (.ireturn, 1) := by decide +kernel
theorem dJ2_indexOfChar_4cfef_0 : decode cJ2_indexOfChar_4cfef 0 = .ok (.iload_n 2, 1) := by decide +kernel
theorem dJ2_indexOfChar_4cfef_1 : decode cJ2_indexOfChar_4cfef 1 = .ok (.iload_n 3, 1) := by decide +kernel
theorem dJ2_indexOfChar_4cfef_2 : decode cJ2_indexOfChar_4cfef 2 = .ok (.aload_n 0, 1) := by decide +kernel
theorem dJ2_indexOfChar_4cfef_3 : decode cJ2_indexOfChar_4cfef 3 = .ok (.invokestatic 96, 3) := by decide +kernel
theorem dJ2_indexOfChar_4cfef_6 : decode cJ2_indexOfChar_4cfef 6 = .ok (.aload_n 0, 1) := by decide +kernel
theorem dJ2_indexOfChar_4cfef_7 : decode cJ2_indexOfChar_4cfef 7 = .ok (.iload_n 1, 1) := by decide +kernel
theorem dJ2_indexOfChar_4cfef_8 : decode cJ2_indexOfChar_4cfef 8 = .ok (.iload_n 2, 1) := by decide +kernel
theorem dJ2_indexOfChar_4cfef_9 : decode cJ2_indexOfChar_4cfef 9 = .ok (.iload_n 3, 1) := by decide +kernel
theorem dJ2_indexOfChar_4cfef_10 : decode cJ2_indexOfChar_4cfef 10 = .ok (.invokestatic 244, 3) := by decide +kernel
theorem dJ2_indexOfChar_4cfef_13 : decode cJ2_indexOfChar_4cfef 13 = .ok (.ireturn, 1) := by decide +kernel
theorem dJ2_indexOfCharUnsafe_4cfef_0 : decode cJ2_indexOfCharUnsafe_4cfef 0 = .ok (.iload_n 2, 1) := by decide +kernel
theorem dJ2_indexOfCharUnsafe_4cfef_1 : decode cJ2_indexOfCharUnsafe_4cfef 1 = .ok (.istore 4, 2) := by decide +kernel
theorem dJ2_indexOfCharUnsafe_4cfef_3 : decode cJ2_indexOfCharUnsafe_4cfef 3 = .ok (.iload 4, 2) := by decide +kernel
theorem dJ2_indexOfCharUnsafe_4cfef_5 : decode cJ2_indexOfCharUnsafe_4cfef 5 = .ok (.iload_n 3, 1) := by decide +kernel
theorem dJ2_indexOfCharUnsafe_4cfef_6 : decode cJ2_indexOfCharUnsafe_4cfef 6 = .ok (.if_icmp .ge 22, 3) := by decide +kernel
theorem dJ2_indexOfCharUnsafe_4cfef_9 : decode cJ2_indexOfCharUnsafe_4cfef 9 = .ok (.aload_n 0, 1) := by decide +kernel
theorem dJ2_indexOfCharUnsafe_4cfef_10 : decode cJ2_indexOfCharUnsafe_4cfef 10 = .ok (.iload 4, 2) := by decide +kernel
theorem dJ2_indexOfCharUnsafe_4cfef_12 : decode cJ2_indexOfCharUnsafe_4cfef 12 = .ok (.invokestatic 71, 3) := by decide +kernel
theorem dJ2_indexOfCharUnsafe_4cfef_15 : decode cJ2_indexOfCharUnsafe_4cfef 15 = .ok (.iload_n 1, 1) := by decide +kernel
theorem dJ2_indexOfCharUnsafe_4cfef_16 : decode cJ2_indexOfCharUnsafe_4cfef 16 = .ok (.if_icmp .ne 6, 3) := by decide +kernel
theorem dJ2_indexOfCharUnsafe_4cfef_19 : decode cJ2_indexOfCharUnsafe_4cfef 19 = .ok (.iload 4, 2) := by decide +kernel
theorem dJ2_indexOfCharUnsafe_4cfef_21 : decode cJ2_indexOfCharUnsafe_4cfef 21 = .ok (.ireturn, 1) := by decide +kernel
theorem dJ2_indexOfCharUnsafe_4cfef_22 : decode cJ2_indexOfCharUnsafe_4cfef 22 = .ok (.iinc 4 1, 3) := by decide +kernel
theorem dJ2_indexOfCharUnsafe_4cfef_25 : decode cJ2_indexOfCharUnsafe_4cfef 25 = .ok (.goto (-22), 3) := by decide +kernel
theorem dJ2_indexOfCharUnsafe_4cfef_28 : decode cJ2_indexOfCharUnsafe_4cfef 28 = .ok (.iconst (-1), 1) := by decide +kernel
theorem dJ2_indexOfCharUnsafe_4cfef_29 : decode cJ2_indexOfCharUnsafe_4cfef 29 = .ok (.ireturn, 1) := by decide +kernel
theorem dJ2_indexOfSupplementary_4cfef_0 : decode cJ2_indexOfSupplementary_4cfef 0 = .ok (.iload_n 1, 1) := by decide +kernel
theorem dJ2_indexOfSupplementary_4cfef_1 : decode cJ2_indexOfSupplementary_4cfef 1 = .ok (.invokestatic 164, 3) := by decide +kernel
theorem dJ2_indexOfSupplementary_4cfef_4 : decode cJ2_indexOfSupplementary_4cfef 4 = .ok (.ifCond .eq 65, 3) := by decide +kernel
theorem dJ2_indexOfSupplementary_4cfef_7 : decode cJ2_indexOfSupplementary_4cfef 7 = .ok (.iload_n 1, 1) := by decide +kernel
theorem dJ2_indexOfSupplementary_4cfef_8 : decode cJ2_indexOfSupplementary_4cfef 8 = .ok (.invokestatic 157, 3) := by decide +kernel
theorem dJ2_indexOfSupplementary_4cfef_11 : decode cJ2_indexOfSupplementary_4cfef 11 = .ok (.istore 4, 2) := by decide +kernel
theorem dJ2_indexOfSupplementary_4cfef_13 : decode cJ2_indexOfSupplementary_4cfef 13 = .ok (.iload_n 1, 1) := by decide +kernel
theorem dJ2_indexOfSupplementary_4cfef_14 : decode cJ2_indexOfSupplementary_4cfef 14 = .ok (.invokestatic 161, 3) := by decide +kernel
theorem dJ2_indexOfSupplementary_4cfef_17 : decode cJ2_indexOfSupplementary_4cfef 17 = .ok (.istore 5, 2) := by decide +kernel
theorem dJ2_indexOfSupplementary_4cfef_19 : decode cJ2_indexOfSupplementary_4cfef 19 = .ok (.iload_n 2, 1) := by decide +kernel
theorem dJ2_indexOfSupplementary_4cfef_20 : decode cJ2_indexOfSupplementary_4cfef 20 = .ok (.iload_n 3, 1) := by decide +kernel
theorem dJ2_indexOfSupplementary_4cfef_21 : decode cJ2_indexOfSupplementary_4cfef 21 = .ok (.aload_n 0, 1) := by decide +kernel
theorem dJ2_indexOfSupplementary_4cfef_22 : decode cJ2_indexOfSupplementary_4cfef 22 = .ok (.invokestatic 96, 3) := by decide +kernel
theorem dJ2_indexOfSupplementary_4cfef_25 : decode cJ2_indexOfSupplementary_4cfef 25 = .ok (.iload_n 2, 1) := by decide +kernel
theorem dJ2_indexOfSupplementary_4cfef_26 : decode cJ2_indexOfSupplementary_4cfef 26 = .ok (.istore 6, 2) := by decide +kernel
theorem dJ2_indexOfSupplementary_4cfef_28 : decode cJ2_indexOfSupplementary_4cfef 28 = .ok (.iload 6, 2) := by decide +kernel
theorem dJ2_indexOfSupplementary_4cfef_30 : decode cJ2_indexOfSupplementary_4cfef 30 = .ok (.iload_n 3, 1) := by decide +kernel
theorem dJ2_indexOfSupplementary_4cfef_31 : decode cJ2_indexOfSupplementary_4cfef 31 = .ok (.iconst 1, 1) := by decide +kernel
theorem dJ2_indexOfSupplementary_4cfef_32 : decode cJ2_indexOfSupplementary_4cfef 32 = .ok (.isub, 1) := by decide +kernel
theorem dJ2_indexOfSupplementary_4cfef_33 : decode cJ2_indexOfSupplementary_4cfef 33 = .ok (.if_icmp .ge 36, 3) := by decide +kernel
theorem dJ2_indexOfSupplementary_4cfef_36 : decode cJ2_indexOfSupplementary_4cfef 36 = .ok (.aload_n 0, 1) := by decide +kernel
theorem dJ2_indexOfSupplementary_4cfef_37 : decode cJ2_indexOfSupplementary_4cfef 37 = .ok (.iload 6, 2) := by decide +kernel
theorem dJ2_indexOfSupplementary_4cfef_39 : decode cJ2_indexOfSupplementary_4cfef 39 = .ok (.invokestatic 71, 3) := by decide +kernel
theorem dJ2_indexOfSupplementary_4cfef_42 : decode cJ2_indexOfSupplementary_4cfef 42 = .ok (.iload 4, 2) := by decide +kernel
theorem dJ2_indexOfSupplementary_4cfef_44 : decode cJ2_indexOfSupplementary_4cfef 44 = .ok (.if_icmp .ne 19, 3) := by decide +kernel
theorem dJ2_indexOfSupplementary_4cfef_47 : decode cJ2_indexOfSupplementary_4cfef 47 = .ok (.aload_n 0, 1) := by decide +kernel
theorem dJ2_indexOfSupplementary_4cfef_48 : decode cJ2_indexOfSupplementary_4cfef 48 = .ok (.iload 6, 2) := by decide +kernel
theorem dJ2_indexOfSupplementary_4cfef_50 : decode cJ2_indexOfSupplementary_4cfef 50 = .ok (.iconst 1, 1) := by decide +kernel
theorem dJ2_indexOfSupplementary_4cfef_51 : decode cJ2_indexOfSupplementary_4cfef 51 = .ok (.iadd, 1) := by decide +kernel
theorem dJ2_indexOfSupplementary_4cfef_52 : decode cJ2_indexOfSupplementary_4cfef 52 = .ok (.invokestatic 71, 3) := by decide +kernel
theorem dJ2_indexOfSupplementary_4cfef_55 : decode cJ2_indexOfSupplementary_4cfef 55 = .ok (.iload 5, 2) := by decide +kernel
theorem dJ2_indexOfSupplementary_4cfef_57 : decode cJ2_indexOfSupplementary_4cfef 57 = .ok (.if_icmp .ne 6, 3) := by decide +kernel
theorem dJ2_indexOfSupplementary_4cfef_60 : decode cJ2_indexOfSupplementary_4cfef 60 = .ok (.iload 6, 2) := by decide +kernel
theorem dJ2_indexOfSupplementary_4cfef_62 : decode cJ2_indexOfSupplementary_4cfef 62 = .ok (.ireturn, 1) := by decide +kernel
theorem dJ2_indexOfSupplementary_4cfef_63 : decode cJ2_indexOfSupplementary_4cfef 63 = .ok (.iinc 6 1, 3) := by decide +kernel
theorem dJ2_indexOfSupplementary_4cfef_66 : decode cJ2_indexOfSupplementary_4cfef 66 = .ok (.goto (-38), 3) := by decide +kernel
theorem dJ2_indexOfSupplementary_4cfef_69 : decode cJ2_indexOfSupplementary_4cfef 69 = .ok (.iconst (-1), 1) := by decide +kernel
theorem dJ2_indexOfSupplementary_4cfef_70 : decode cJ2_indexOfSupplementary_4cfef 70 = .ok (.ireturn, 1) := by decide +kernel
theorem dJ2_checkBoundsBeginEnd_d044e_0 : decode cJ2_checkBoundsBeginEnd_d044e 0 = .ok (.iload_n 0, 1) := by decide +kernel
theorem dJ2_checkBoundsBeginEnd_d044e_1 : decode cJ2_checkBoundsBeginEnd_d044e 1 = .ok (.iload_n 1, 1) := by decide +kernel
theorem dJ2_checkBoundsBeginEnd_d044e_2 : decode cJ2_checkBoundsBeginEnd_d044e 2 = .ok (.aload_n 2, 1) := by decide +kernel
theorem dJ2_checkBoundsBeginEnd_d044e_3 : decode cJ2_checkBoundsBeginEnd_d044e 3 = .ok (.invokestatic 48, 3) := by decide +kernel
theorem dJ2_checkBoundsBeginEnd_d044e_6 : decode cJ2_checkBoundsBeginEnd_d044e 6 = .ok (.invokestatic 241, 3) := by decide +kernel
theorem dJ2_checkBoundsBeginEnd_d044e_9 : decode cJ2_checkBoundsBeginEnd_d044e 9 = .ok (.return_, 1) := by decide +kernel
theorem dJ3_checkFromToIndex_8c36e_0 : decode cJ3_checkFromToIndex_8c36e 0 = .ok (.iload_n 0, 1) := by decide +kernel
theorem dJ3_checkFromToIndex_8c36e_1 : decode cJ3_checkFromToIndex_8c36e 1 = .ok (.ifCond .lt 13, 3) := by decide +kernel
theorem dJ3_checkFromToIndex_8c36e_4 : decode cJ3_checkFromToIndex_8c36e 4 = .ok (.iload_n 0, 1) := by decide +kernel
theorem dJ3_checkFromToIndex_8c36e_5 : decode cJ3_checkFromToIndex_8c36e 5 = .ok (.iload_n 1, 1) := by decide +kernel
theorem dJ3_checkFromToIndex_8c36e_6 : decode cJ3_checkFromToIndex_8c36e 6 = .ok (.if_icmp .gt 8, 3) := by decide +kernel
theorem dJ3_checkFromToIndex_8c36e_9 : decode cJ3_checkFromToIndex_8c36e 9 = .ok (.iload_n 1, 1) := by decide +kernel
theorem dJ3_checkFromToIndex_8c36e_10 : decode cJ3_checkFromToIndex_8c36e 10 = .ok (.iload_n 2, 1) := by decide +kernel
theorem dJ3_checkFromToIndex_8c36e_11 : decode cJ3_checkFromToIndex_8c36e 11 = .ok (.if_icmp .le 11, 3) := by decide +kernel
theorem dJ3_checkFromToIndex_8c36e_14 : decode cJ3_checkFromToIndex_8c36e 14 = .ok (.aload_n 3, 1) := by decide +kernel
theorem dJ3_checkFromToIndex_8c36e_15 : decode cJ3_checkFromToIndex_8c36e 15 = .ok (.iload_n 0, 1) := by decide +kernel
theorem dJ3_checkFromToIndex_8c36e_16 : decode cJ3_checkFromToIndex_8c36e 16 = .ok (.iload_n 1, 1) := by decide +kernel
theorem dJ3_checkFromToIndex_8c36e_17 : decode cJ3_checkFromToIndex_8c36e 17 = .ok (.iload_n 2, 1) := by decide +kernel
theorem dJ3_checkFromToIndex_8c36e_18 : decode cJ3_checkFromToIndex_8c36e 18 = .ok (.invokestatic 99, 3) := by decide +kernel
theorem dJ3_checkFromToIndex_8c36e_21 : decode cJ3_checkFromToIndex_8c36e 21 = .ok (.athrow, 1) := by decide +kernel
theorem dJ3_checkFromToIndex_8c36e_22 : decode cJ3_checkFromToIndex_8c36e 22 = .ok (.iload_n 0, 1) := by decide +kernel
theorem dJ3_checkFromToIndex_8c36e_23 : decode cJ3_checkFromToIndex_8c36e 23 = .ok (.ireturn, 1) := by decide +kernel
