theorem d_La_shire_0 : decode method_4_code 0 = .ok (.iconst 1, 1) := by decide +kernel
theorem d_La_shire_1 : decode method_4_code 1 = .ok (.istore 5, 2) := by decide +kernel
theorem d_La_shire_3 : decode method_4_code 3 = .ok (.aload 4, 2) := by decide +kernel
theorem d_La_shire_5 : decode method_4_code 5 = .ok (.iconst 0, 1) := by decide +kernel
theorem d_La_shire_6 : decode method_4_code 6 = .ok (.iconst 1, 1) := by decide +kernel
theorem d_La_shire_7 : decode method_4_code 7 = .ok (.iload_n 1, 1) := by decide +kernel
theorem d_La_shire_8 : decode method_4_code 8 = .ok (.iconst 3, 1) := by decide +kernel
theorem d_La_shire_9 : decode method_4_code 9 = .ok (.irem, 1) := by decide +kernel
theorem d_La_shire_10 : decode method_4_code 10 = .ok (.iadd, 1) := by decide +kernel
theorem d_La_shire_11 : decode method_4_code 11 = .ok (.iastore, 1) := by decide +kernel
theorem d_La_shire_12 : decode method_4_code 12 = .ok (.aload 4, 2) := by decide +kernel
theorem d_La_shire_14 : decode method_4_code 14 = .ok (.iconst 1, 1) := by decide +kernel
theorem d_La_shire_15 : decode method_4_code 15 = .ok (.iconst 2, 1) := by decide +kernel
theorem d_La_shire_16 : decode method_4_code 16 = .ok (.iload_n 2, 1) := by decide +kernel
theorem d_La_shire_17 : decode method_4_code 17 = .ok (.bipush 6, 2) := by decide +kernel
theorem d_La_shire_19 : decode method_4_code 19 = .ok (.irem, 1) := by decide +kernel
theorem d_La_shire_20 : decode method_4_code 20 = .ok (.iadd, 1) := by decide +kernel
theorem d_La_shire_21 : decode method_4_code 21 = .ok (.iastore, 1) := by decide +kernel
theorem d_La_shire_22 : decode method_4_code 22 = .ok (.aload 4, 2) := by decide +kernel
theorem d_La_shire_24 : decode method_4_code 24 = .ok (.iconst 2, 1) := by decide +kernel
theorem d_La_shire_25 : decode method_4_code 25 = .ok (.iconst 0, 1) := by decide +kernel
theorem d_La_shire_26 : decode method_4_code 26 = .ok (.iastore, 1) := by decide +kernel
theorem d_La_shire_27 : decode method_4_code 27 = .ok (.aload 4, 2) := by decide +kernel
theorem d_La_shire_29 : decode method_4_code 29 = .ok (.iconst 3, 1) := by decide +kernel
theorem d_La_shire_30 : decode method_4_code 30 = .ok (.iconst 0, 1) := by decide +kernel
theorem d_La_shire_31 : decode method_4_code 31 = .ok (.iastore, 1) := by decide +kernel
theorem d_La_shire_32 : decode method_4_code 32 = .ok (.iconst 0, 1) := by decide +kernel
theorem d_La_shire_33 : decode method_4_code 33 = .ok (.istore 6, 2) := by decide +kernel
theorem d_La_shire_35 : decode method_4_code 35 = .ok (.iload 6, 2) := by decide +kernel
theorem d_La_shire_37 : decode method_4_code 37 = .ok (.aload 4, 2) := by decide +kernel
theorem d_La_shire_39 : decode method_4_code 39 = .ok (.iconst 0, 1) := by decide +kernel
theorem d_La_shire_40 : decode method_4_code 40 = .ok (.iaload, 1) := by decide +kernel
theorem d_La_shire_41 : decode method_4_code 41 = .ok (.if_icmp .ge 124, 3) := by decide +kernel
theorem d_La_shire_44 : decode method_4_code 44 = .ok (.aload 4, 2) := by decide +kernel
theorem d_La_shire_46 : decode method_4_code 46 = .ok (.iconst 4, 1) := by decide +kernel
theorem d_La_shire_47 : decode method_4_code 47 = .ok (.iload 6, 2) := by decide +kernel
theorem d_La_shire_49 : decode method_4_code 49 = .ok (.iadd, 1) := by decide +kernel
theorem d_La_shire_50 : decode method_4_code 50 = .ok (.iload_n 1, 1) := by decide +kernel
theorem d_La_shire_51 : decode method_4_code 51 = .ok (.iconst 2, 1) := by decide +kernel
theorem d_La_shire_52 : decode method_4_code 52 = .ok (.iconst 4, 1) := by decide +kernel
theorem d_La_shire_53 : decode method_4_code 53 = .ok (.iload 6, 2) := by decide +kernel
theorem d_La_shire_55 : decode method_4_code 55 = .ok (.imul, 1) := by decide +kernel
theorem d_La_shire_56 : decode method_4_code 56 = .ok (.iadd, 1) := by decide +kernel
theorem d_La_shire_57 : decode method_4_code 57 = .ok (.ishr, 1) := by decide +kernel
theorem d_La_shire_58 : decode method_4_code 58 = .ok (.bipush 15, 2) := by decide +kernel
theorem d_La_shire_60 : decode method_4_code 60 = .ok (.iand, 1) := by decide +kernel
theorem d_La_shire_61 : decode method_4_code 61 = .ok (.bipush 10, 2) := by decide +kernel
theorem d_La_shire_63 : decode method_4_code 63 = .ok (.irem, 1) := by decide +kernel
theorem d_La_shire_64 : decode method_4_code 64 = .ok (.iastore, 1) := by decide +kernel
theorem d_La_shire_65 : decode method_4_code 65 = .ok (.aload 4, 2) := by decide +kernel
theorem d_La_shire_67 : decode method_4_code 67 = .ok (.bipush 7, 2) := by decide +kernel
theorem d_La_shire_69 : decode method_4_code 69 = .ok (.iload 6, 2) := by decide +kernel
theorem d_La_shire_71 : decode method_4_code 71 = .ok (.iadd, 1) := by decide +kernel
theorem d_La_shire_72 : decode method_4_code 72 = .ok (.iload_n 1, 1) := by decide +kernel
theorem d_La_shire_73 : decode method_4_code 73 = .ok (.bipush 14, 2) := by decide +kernel
theorem d_La_shire_75 : decode method_4_code 75 = .ok (.iconst 4, 1) := by decide +kernel
theorem d_La_shire_76 : decode method_4_code 76 = .ok (.iload 6, 2) := by decide +kernel
theorem d_La_shire_78 : decode method_4_code 78 = .ok (.imul, 1) := by decide +kernel
theorem d_La_shire_79 : decode method_4_code 79 = .ok (.iadd, 1) := by decide +kernel
theorem d_La_shire_80 : decode method_4_code 80 = .ok (.ishr, 1) := by decide +kernel
theorem d_La_shire_81 : decode method_4_code 81 = .ok (.bipush 15, 2) := by decide +kernel
theorem d_La_shire_83 : decode method_4_code 83 = .ok (.iand, 1) := by decide +kernel
theorem d_La_shire_84 : decode method_4_code 84 = .ok (.iload_n 2, 1) := by decide +kernel
theorem d_La_shire_85 : decode method_4_code 85 = .ok (.iconst 2, 1) := by decide +kernel
theorem d_La_shire_86 : decode method_4_code 86 = .ok (.irem, 1) := by decide +kernel
theorem d_La_shire_87 : decode method_4_code 87 = .ok (.ifCond .ne 8, 3) := by decide +kernel
theorem d_La_shire_90 : decode method_4_code 90 = .ok (.bipush 10, 2) := by decide +kernel
theorem d_La_shire_92 : decode method_4_code 92 = .ok (.goto 4, 3) := by decide +kernel
theorem d_La_shire_95 : decode method_4_code 95 = .ok (.iconst 4, 1) := by decide +kernel
theorem d_La_shire_96 : decode method_4_code 96 = .ok (.irem, 1) := by decide +kernel
theorem d_La_shire_97 : decode method_4_code 97 = .ok (.iastore, 1) := by decide +kernel
theorem d_La_shire_98 : decode method_4_code 98 = .ok (.iload 5, 2) := by decide +kernel
theorem d_La_shire_100 : decode method_4_code 100 = .ok (.ifCond .eq 56, 3) := by decide +kernel
theorem d_La_shire_103 : decode method_4_code 103 = .ok (.iload 6, 2) := by decide +kernel
theorem d_La_shire_105 : decode method_4_code 105 = .ok (.ifCond .eq 12, 3) := by decide +kernel
theorem d_La_shire_108 : decode method_4_code 108 = .ok (.aload_n 0, 1) := by decide +kernel
theorem d_La_shire_109 : decode method_4_code 109 = .ok (.bipush 44, 2) := by decide +kernel
theorem d_La_shire_111 : decode method_4_code 111 = .ok (.invokestatic 14, 3) := by decide +kernel
theorem d_La_shire_114 : decode method_4_code 114 = .ok (.ifCond .eq 42, 3) := by decide +kernel
theorem d_La_shire_117 : decode method_4_code 117 = .ok (.aload_n 0, 1) := by decide +kernel
theorem d_La_shire_118 : decode method_4_code 118 = .ok (.bipush 48, 2) := by decide +kernel
theorem d_La_shire_120 : decode method_4_code 120 = .ok (.aload 4, 2) := by decide +kernel
theorem d_La_shire_122 : decode method_4_code 122 = .ok (.iconst 4, 1) := by decide +kernel
theorem d_La_shire_123 : decode method_4_code 123 = .ok (.iload 6, 2) := by decide +kernel
theorem d_La_shire_125 : decode method_4_code 125 = .ok (.iadd, 1) := by decide +kernel
theorem d_La_shire_126 : decode method_4_code 126 = .ok (.iaload, 1) := by decide +kernel
theorem d_La_shire_127 : decode method_4_code 127 = .ok (.iadd, 1) := by decide +kernel
theorem d_La_shire_128 : decode method_4_code 128 = .ok (.invokestatic 14, 3) := by decide +kernel
theorem d_La_shire_131 : decode method_4_code 131 = .ok (.ifCond .eq 25, 3) := by decide +kernel
theorem d_La_shire_134 : decode method_4_code 134 = .ok (.aload_n 0, 1) := by decide +kernel
theorem d_La_shire_135 : decode method_4_code 135 = .ok (.bipush 48, 2) := by decide +kernel
theorem d_La_shire_137 : decode method_4_code 137 = .ok (.aload 4, 2) := by decide +kernel
theorem d_La_shire_139 : decode method_4_code 139 = .ok (.bipush 7, 2) := by decide +kernel
theorem d_La_shire_141 : decode method_4_code 141 = .ok (.iload 6, 2) := by decide +kernel
theorem d_La_shire_143 : decode method_4_code 143 = .ok (.iadd, 1) := by decide +kernel
theorem d_La_shire_144 : decode method_4_code 144 = .ok (.iaload, 1) := by decide +kernel
theorem d_La_shire_145 : decode method_4_code 145 = .ok (.iadd, 1) := by decide +kernel
theorem d_La_shire_146 : decode method_4_code 146 = .ok (.invokestatic 14, 3) := by decide +kernel
theorem d_La_shire_149 : decode method_4_code 149 = .ok (.ifCond .eq 7, 3) := by decide +kernel
theorem d_La_shire_152 : decode method_4_code 152 = .ok (.iconst 1, 1) := by decide +kernel
theorem d_La_shire_153 : decode method_4_code 153 = .ok (.goto 4, 3) := by decide +kernel
theorem d_La_shire_156 : decode method_4_code 156 = .ok (.iconst 0, 1) := by decide +kernel
theorem d_La_shire_157 : decode method_4_code 157 = .ok (.istore 5, 2) := by decide +kernel
theorem d_La_shire_159 : decode method_4_code 159 = .ok (.iinc 6 1, 3) := by decide +kernel
theorem d_La_shire_162 : decode method_4_code 162 = .ok (.goto (-127), 3) := by decide +kernel
theorem d_La_shire_165 : decode method_4_code 165 = .ok (.iload 5, 2) := by decide +kernel
theorem d_La_shire_167 : decode method_4_code 167 = .ok (.ifCond .eq 16, 3) := by decide +kernel
theorem d_La_shire_170 : decode method_4_code 170 = .ok (.aload_n 0, 1) := by decide +kernel
theorem d_La_shire_171 : decode method_4_code 171 = .ok (.bipush 59, 2) := by decide +kernel
theorem d_La_shire_173 : decode method_4_code 173 = .ok (.invokestatic 14, 3) := by decide +kernel
theorem d_La_shire_176 : decode method_4_code 176 = .ok (.ifCond .eq 7, 3) := by decide +kernel
theorem d_La_shire_179 : decode method_4_code 179 = .ok (.iconst 1, 1) := by decide +kernel
theorem d_La_shire_180 : decode method_4_code 180 = .ok (.goto 4, 3) := by decide +kernel
theorem d_La_shire_183 : decode method_4_code 183 = .ok (.iconst 0, 1) := by decide +kernel
theorem d_La_shire_184 : decode method_4_code 184 = .ok (.istore 5, 2) := by decide +kernel
theorem d_La_shire_186 : decode method_4_code 186 = .ok (.iconst 0, 1) := by decide +kernel
theorem d_La_shire_187 : decode method_4_code 187 = .ok (.istore 6, 2) := by decide +kernel
theorem d_La_shire_189 : decode method_4_code 189 = .ok (.iload 6, 2) := by decide +kernel
theorem d_La_shire_191 : decode method_4_code 191 = .ok (.aload 4, 2) := by decide +kernel
theorem d_La_shire_193 : decode method_4_code 193 = .ok (.iconst 1, 1) := by decide +kernel
theorem d_La_shire_194 : decode method_4_code 194 = .ok (.iaload, 1) := by decide +kernel
theorem d_La_shire_195 : decode method_4_code 195 = .ok (.if_icmp .ge 272, 3) := by decide +kernel
theorem d_La_shire_198 : decode method_4_code 198 = .ok (.bipush 10, 2) := by decide +kernel
theorem d_La_shire_200 : decode method_4_code 200 = .ok (.iconst 5, 1) := by decide +kernel
theorem d_La_shire_201 : decode method_4_code 201 = .ok (.iload 6, 2) := by decide +kernel
theorem d_La_shire_203 : decode method_4_code 203 = .ok (.imul, 1) := by decide +kernel
theorem d_La_shire_204 : decode method_4_code 204 = .ok (.iadd, 1) := by decide +kernel
theorem d_La_shire_205 : decode method_4_code 205 = .ok (.istore 7, 2) := by decide +kernel
theorem d_La_shire_207 : decode method_4_code 207 = .ok (.iload_n 3, 1) := by decide +kernel
theorem d_La_shire_208 : decode method_4_code 208 = .ok (.iconst 3, 1) := by decide +kernel
theorem d_La_shire_209 : decode method_4_code 209 = .ok (.iload 6, 2) := by decide +kernel
theorem d_La_shire_211 : decode method_4_code 211 = .ok (.imul, 1) := by decide +kernel
theorem d_La_shire_212 : decode method_4_code 212 = .ok (.ishr, 1) := by decide +kernel
theorem d_La_shire_213 : decode method_4_code 213 = .ok (.bipush 7, 2) := by decide +kernel
theorem d_La_shire_215 : decode method_4_code 215 = .ok (.iand, 1) := by decide +kernel
theorem d_La_shire_216 : decode method_4_code 216 = .ok (.iconst 5, 1) := by decide +kernel
theorem d_La_shire_217 : decode method_4_code 217 = .ok (.irem, 1) := by decide +kernel
theorem d_La_shire_218 : decode method_4_code 218 = .ok (.istore 8, 2) := by decide +kernel
theorem d_La_shire_220 : decode method_4_code 220 = .ok (.aload 4, 2) := by decide +kernel
theorem d_La_shire_222 : decode method_4_code 222 = .ok (.iload 7, 2) := by decide +kernel
theorem d_La_shire_224 : decode method_4_code 224 = .ok (.iload 8, 2) := by decide +kernel
theorem d_La_shire_226 : decode method_4_code 226 = .ok (.iastore, 1) := by decide +kernel
theorem d_La_shire_227 : decode method_4_code 227 = .ok (.aload 4, 2) := by decide +kernel
theorem d_La_shire_229 : decode method_4_code 229 = .ok (.iload 7, 2) := by decide +kernel
theorem d_La_shire_231 : decode method_4_code 231 = .ok (.iconst 1, 1) := by decide +kernel
theorem d_La_shire_232 : decode method_4_code 232 = .ok (.iadd, 1) := by decide +kernel
theorem d_La_shire_233 : decode method_4_code 233 = .ok (.iconst 1, 1) := by decide +kernel
theorem d_La_shire_234 : decode method_4_code 234 = .ok (.iload_n 2, 1) := by decide +kernel
theorem d_La_shire_235 : decode method_4_code 235 = .ok (.iconst 3, 1) := by decide +kernel
theorem d_La_shire_236 : decode method_4_code 236 = .ok (.iconst 3, 1) := by decide +kernel
theorem d_La_shire_237 : decode method_4_code 237 = .ok (.iload 6, 2) := by decide +kernel
theorem d_La_shire_239 : decode method_4_code 239 = .ok (.imul, 1) := by decide +kernel
theorem d_La_shire_240 : decode method_4_code 240 = .ok (.iadd, 1) := by decide +kernel
theorem d_La_shire_241 : decode method_4_code 241 = .ok (.ishr, 1) := by decide +kernel
theorem d_La_shire_242 : decode method_4_code 242 = .ok (.bipush 15, 2) := by decide +kernel
theorem d_La_shire_244 : decode method_4_code 244 = .ok (.iand, 1) := by decide +kernel
theorem d_La_shire_245 : decode method_4_code 245 = .ok (.iload_n 1, 1) := by decide +kernel
theorem d_La_shire_246 : decode method_4_code 246 = .ok (.iconst 4, 1) := by decide +kernel
theorem d_La_shire_247 : decode method_4_code 247 = .ok (.irem, 1) := by decide +kernel
theorem d_La_shire_248 : decode method_4_code 248 = .ok (.ifCond .ne 8, 3) := by decide +kernel
theorem d_La_shire_251 : decode method_4_code 251 = .ok (.bipush 9, 2) := by decide +kernel
theorem d_La_shire_253 : decode method_4_code 253 = .ok (.goto 4, 3) := by decide +kernel
theorem d_La_shire_256 : decode method_4_code 256 = .ok (.iconst 4, 1) := by decide +kernel
theorem d_La_shire_257 : decode method_4_code 257 = .ok (.irem, 1) := by decide +kernel
theorem d_La_shire_258 : decode method_4_code 258 = .ok (.iadd, 1) := by decide +kernel
theorem d_La_shire_259 : decode method_4_code 259 = .ok (.iastore, 1) := by decide +kernel
theorem d_La_shire_260 : decode method_4_code 260 = .ok (.aload 4, 2) := by decide +kernel
theorem d_La_shire_262 : decode method_4_code 262 = .ok (.iload 7, 2) := by decide +kernel
theorem d_La_shire_264 : decode method_4_code 264 = .ok (.iconst 2, 1) := by decide +kernel
theorem d_La_shire_265 : decode method_4_code 265 = .ok (.iadd, 1) := by decide +kernel
theorem d_La_shire_266 : decode method_4_code 266 = .ok (.iconst 1, 1) := by decide +kernel
theorem d_La_shire_267 : decode method_4_code 267 = .ok (.iload_n 3, 1) := by decide +kernel
theorem d_La_shire_268 : decode method_4_code 268 = .ok (.bipush 7, 2) := by decide +kernel
theorem d_La_shire_270 : decode method_4_code 270 = .ok (.iconst 2, 1) := by decide +kernel
theorem d_La_shire_271 : decode method_4_code 271 = .ok (.iload 6, 2) := by decide +kernel
theorem d_La_shire_273 : decode method_4_code 273 = .ok (.imul, 1) := by decide +kernel
theorem d_La_shire_274 : decode method_4_code 274 = .ok (.iadd, 1) := by decide +kernel
theorem d_La_shire_275 : decode method_4_code 275 = .ok (.ishr, 1) := by decide +kernel
theorem d_La_shire_276 : decode method_4_code 276 = .ok (.bipush 15, 2) := by decide +kernel
theorem d_La_shire_278 : decode method_4_code 278 = .ok (.iand, 1) := by decide +kernel
theorem d_La_shire_279 : decode method_4_code 279 = .ok (.bipush 9, 2) := by decide +kernel
theorem d_La_shire_281 : decode method_4_code 281 = .ok (.irem, 1) := by decide +kernel
theorem d_La_shire_282 : decode method_4_code 282 = .ok (.iadd, 1) := by decide +kernel
theorem d_La_shire_283 : decode method_4_code 283 = .ok (.iastore, 1) := by decide +kernel
theorem d_La_shire_284 : decode method_4_code 284 = .ok (.aload 4, 2) := by decide +kernel
theorem d_La_shire_286 : decode method_4_code 286 = .ok (.iload 7, 2) := by decide +kernel
theorem d_La_shire_288 : decode method_4_code 288 = .ok (.iconst 3, 1) := by decide +kernel
theorem d_La_shire_289 : decode method_4_code 289 = .ok (.iadd, 1) := by decide +kernel
theorem d_La_shire_290 : decode method_4_code 290 = .ok (.iload_n 1, 1) := by decide +kernel
theorem d_La_shire_291 : decode method_4_code 291 = .ok (.iconst 3, 1) := by decide +kernel
theorem d_La_shire_292 : decode method_4_code 292 = .ok (.iconst 3, 1) := by decide +kernel
theorem d_La_shire_293 : decode method_4_code 293 = .ok (.iload 6, 2) := by decide +kernel
theorem d_La_shire_295 : decode method_4_code 295 = .ok (.imul, 1) := by decide +kernel
theorem d_La_shire_296 : decode method_4_code 296 = .ok (.iadd, 1) := by decide +kernel
theorem d_La_shire_297 : decode method_4_code 297 = .ok (.ishr, 1) := by decide +kernel
theorem d_La_shire_298 : decode method_4_code 298 = .ok (.bipush 15, 2) := by decide +kernel
theorem d_La_shire_300 : decode method_4_code 300 = .ok (.iand, 1) := by decide +kernel
theorem d_La_shire_301 : decode method_4_code 301 = .ok (.iload 6, 2) := by decide +kernel
theorem d_La_shire_303 : decode method_4_code 303 = .ok (.iconst 1, 1) := by decide +kernel
theorem d_La_shire_304 : decode method_4_code 304 = .ok (.iadd, 1) := by decide +kernel
theorem d_La_shire_305 : decode method_4_code 305 = .ok (.irem, 1) := by decide +kernel
theorem d_La_shire_306 : decode method_4_code 306 = .ok (.iconst 1, 1) := by decide +kernel
theorem d_La_shire_307 : decode method_4_code 307 = .ok (.isub, 1) := by decide +kernel
theorem d_La_shire_308 : decode method_4_code 308 = .ok (.iastore, 1) := by decide +kernel
theorem d_La_shire_309 : decode method_4_code 309 = .ok (.aload 4, 2) := by decide +kernel
theorem d_La_shire_311 : decode method_4_code 311 = .ok (.iload 7, 2) := by decide +kernel
theorem d_La_shire_313 : decode method_4_code 313 = .ok (.iconst 4, 1) := by decide +kernel
theorem d_La_shire_314 : decode method_4_code 314 = .ok (.iadd, 1) := by decide +kernel
theorem d_La_shire_315 : decode method_4_code 315 = .ok (.iconst 0, 1) := by decide +kernel
theorem d_La_shire_316 : decode method_4_code 316 = .ok (.iastore, 1) := by decide +kernel
theorem d_La_shire_317 : decode method_4_code 317 = .ok (.iload 5, 2) := by decide +kernel
theorem d_La_shire_319 : decode method_4_code 319 = .ok (.ifCond .eq 139, 3) := by decide +kernel
theorem d_La_shire_322 : decode method_4_code 322 = .ok (.iload 6, 2) := by decide +kernel
theorem d_La_shire_324 : decode method_4_code 324 = .ok (.ifCond .eq 12, 3) := by decide +kernel
theorem d_La_shire_327 : decode method_4_code 327 = .ok (.aload_n 0, 1) := by decide +kernel
theorem d_La_shire_328 : decode method_4_code 328 = .ok (.bipush 44, 2) := by decide +kernel
theorem d_La_shire_330 : decode method_4_code 330 = .ok (.invokestatic 14, 3) := by decide +kernel
theorem d_La_shire_333 : decode method_4_code 333 = .ok (.ifCond .eq 125, 3) := by decide +kernel
theorem d_La_shire_336 : decode method_4_code 336 = .ok (.aload_n 0, 1) := by decide +kernel
theorem d_La_shire_337 : decode method_4_code 337 = .ok (.iload 8, 2) := by decide +kernel
theorem d_La_shire_339 : decode method_4_code 339 = .ok (.ifCond .ne 8, 3) := by decide +kernel
theorem d_La_shire_342 : decode method_4_code 342 = .ok (.bipush 99, 2) := by decide +kernel
theorem d_La_shire_344 : decode method_4_code 344 = .ok (.goto 38, 3) := by decide +kernel
theorem d_La_shire_347 : decode method_4_code 347 = .ok (.iload 8, 2) := by decide +kernel
theorem d_La_shire_349 : decode method_4_code 349 = .ok (.iconst 1, 1) := by decide +kernel
theorem d_La_shire_350 : decode method_4_code 350 = .ok (.if_icmp .ne 8, 3) := by decide +kernel
theorem d_La_shire_353 : decode method_4_code 353 = .ok (.bipush 109, 2) := by decide +kernel
theorem d_La_shire_355 : decode method_4_code 355 = .ok (.goto 27, 3) := by decide +kernel
theorem d_La_shire_358 : decode method_4_code 358 = .ok (.iload 8, 2) := by decide +kernel
theorem d_La_shire_360 : decode method_4_code 360 = .ok (.iconst 2, 1) := by decide +kernel
theorem d_La_shire_361 : decode method_4_code 361 = .ok (.if_icmp .ne 8, 3) := by decide +kernel
theorem d_La_shire_364 : decode method_4_code 364 = .ok (.bipush 117, 2) := by decide +kernel
theorem d_La_shire_366 : decode method_4_code 366 = .ok (.goto 16, 3) := by decide +kernel
theorem d_La_shire_369 : decode method_4_code 369 = .ok (.iload 8, 2) := by decide +kernel
theorem d_La_shire_371 : decode method_4_code 371 = .ok (.iconst 3, 1) := by decide +kernel
theorem d_La_shire_372 : decode method_4_code 372 = .ok (.if_icmp .ne 8, 3) := by decide +kernel
theorem d_La_shire_375 : decode method_4_code 375 = .ok (.bipush 111, 2) := by decide +kernel
theorem d_La_shire_377 : decode method_4_code 377 = .ok (.goto 5, 3) := by decide +kernel
theorem d_La_shire_380 : decode method_4_code 380 = .ok (.bipush 97, 2) := by decide +kernel
theorem d_La_shire_382 : decode method_4_code 382 = .ok (.invokestatic 14, 3) := by decide +kernel
theorem d_La_shire_385 : decode method_4_code 385 = .ok (.ifCond .eq 73, 3) := by decide +kernel
theorem d_La_shire_388 : decode method_4_code 388 = .ok (.aload_n 0, 1) := by decide +kernel
theorem d_La_shire_389 : decode method_4_code 389 = .ok (.bipush 48, 2) := by decide +kernel
theorem d_La_shire_391 : decode method_4_code 391 = .ok (.aload 4, 2) := by decide +kernel
theorem d_La_shire_393 : decode method_4_code 393 = .ok (.iload 7, 2) := by decide +kernel
theorem d_La_shire_395 : decode method_4_code 395 = .ok (.iconst 1, 1) := by decide +kernel
theorem d_La_shire_396 : decode method_4_code 396 = .ok (.iadd, 1) := by decide +kernel
theorem d_La_shire_397 : decode method_4_code 397 = .ok (.iaload, 1) := by decide +kernel
theorem d_La_shire_398 : decode method_4_code 398 = .ok (.iadd, 1) := by decide +kernel
theorem d_La_shire_399 : decode method_4_code 399 = .ok (.invokestatic 14, 3) := by decide +kernel
theorem d_La_shire_402 : decode method_4_code 402 = .ok (.ifCond .eq 56, 3) := by decide +kernel
theorem d_La_shire_405 : decode method_4_code 405 = .ok (.aload_n 0, 1) := by decide +kernel
theorem d_La_shire_406 : decode method_4_code 406 = .ok (.bipush 48, 2) := by decide +kernel
theorem d_La_shire_408 : decode method_4_code 408 = .ok (.aload 4, 2) := by decide +kernel
theorem d_La_shire_410 : decode method_4_code 410 = .ok (.iload 7, 2) := by decide +kernel
theorem d_La_shire_412 : decode method_4_code 412 = .ok (.iconst 2, 1) := by decide +kernel
theorem d_La_shire_413 : decode method_4_code 413 = .ok (.iadd, 1) := by decide +kernel
theorem d_La_shire_414 : decode method_4_code 414 = .ok (.iaload, 1) := by decide +kernel
theorem d_La_shire_415 : decode method_4_code 415 = .ok (.iadd, 1) := by decide +kernel
theorem d_La_shire_416 : decode method_4_code 416 = .ok (.invokestatic 14, 3) := by decide +kernel
theorem d_La_shire_419 : decode method_4_code 419 = .ok (.ifCond .eq 39, 3) := by decide +kernel
theorem d_La_shire_422 : decode method_4_code 422 = .ok (.aload_n 0, 1) := by decide +kernel
theorem d_La_shire_423 : decode method_4_code 423 = .ok (.aload 4, 2) := by decide +kernel
theorem d_La_shire_425 : decode method_4_code 425 = .ok (.iload 7, 2) := by decide +kernel
theorem d_La_shire_427 : decode method_4_code 427 = .ok (.iconst 3, 1) := by decide +kernel
theorem d_La_shire_428 : decode method_4_code 428 = .ok (.iadd, 1) := by decide +kernel
theorem d_La_shire_429 : decode method_4_code 429 = .ok (.iaload, 1) := by decide +kernel
theorem d_La_shire_430 : decode method_4_code 430 = .ok (.ifCond .ge 8, 3) := by decide +kernel
theorem d_La_shire_433 : decode method_4_code 433 = .ok (.bipush 45, 2) := by decide +kernel
theorem d_La_shire_435 : decode method_4_code 435 = .ok (.goto 13, 3) := by decide +kernel
theorem d_La_shire_438 : decode method_4_code 438 = .ok (.bipush 48, 2) := by decide +kernel
theorem d_La_shire_440 : decode method_4_code 440 = .ok (.aload 4, 2) := by decide +kernel
theorem d_La_shire_442 : decode method_4_code 442 = .ok (.iload 7, 2) := by decide +kernel
theorem d_La_shire_444 : decode method_4_code 444 = .ok (.iconst 3, 1) := by decide +kernel
theorem d_La_shire_445 : decode method_4_code 445 = .ok (.iadd, 1) := by decide +kernel
theorem d_La_shire_446 : decode method_4_code 446 = .ok (.iaload, 1) := by decide +kernel
theorem d_La_shire_447 : decode method_4_code 447 = .ok (.iadd, 1) := by decide +kernel
theorem d_La_shire_448 : decode method_4_code 448 = .ok (.invokestatic 14, 3) := by decide +kernel
theorem d_La_shire_451 : decode method_4_code 451 = .ok (.ifCond .eq 7, 3) := by decide +kernel
theorem d_La_shire_454 : decode method_4_code 454 = .ok (.iconst 1, 1) := by decide +kernel
theorem d_La_shire_455 : decode method_4_code 455 = .ok (.goto 4, 3) := by decide +kernel
theorem d_La_shire_458 : decode method_4_code 458 = .ok (.iconst 0, 1) := by decide +kernel
theorem d_La_shire_459 : decode method_4_code 459 = .ok (.istore 5, 2) := by decide +kernel
theorem d_La_shire_461 : decode method_4_code 461 = .ok (.iinc 6 1, 3) := by decide +kernel
theorem d_La_shire_464 : decode method_4_code 464 = .ok (.goto (-275), 3) := by decide +kernel
theorem d_La_shire_467 : decode method_4_code 467 = .ok (.iload 5, 2) := by decide +kernel
theorem d_La_shire_469 : decode method_4_code 469 = .ok (.ifCond .eq 40, 3) := by decide +kernel
theorem d_La_shire_472 : decode method_4_code 472 = .ok (.aload_n 0, 1) := by decide +kernel
theorem d_La_shire_473 : decode method_4_code 473 = .ok (.invokevirtual 20, 3) := by decide +kernel
theorem d_La_shire_476 : decode method_4_code 476 = .ok (.iconst 3, 1) := by decide +kernel
theorem d_La_shire_477 : decode method_4_code 477 = .ok (.aload 4, 2) := by decide +kernel
theorem d_La_shire_479 : decode method_4_code 479 = .ok (.iconst 0, 1) := by decide +kernel
theorem d_La_shire_480 : decode method_4_code 480 = .ok (.iaload, 1) := by decide +kernel
theorem d_La_shire_481 : decode method_4_code 481 = .ok (.imul, 1) := by decide +kernel
theorem d_La_shire_482 : decode method_4_code 482 = .ok (.iconst 5, 1) := by decide +kernel
theorem d_La_shire_483 : decode method_4_code 483 = .ok (.aload 4, 2) := by decide +kernel
theorem d_La_shire_485 : decode method_4_code 485 = .ok (.iconst 1, 1) := by decide +kernel
theorem d_La_shire_486 : decode method_4_code 486 = .ok (.iaload, 1) := by decide +kernel
theorem d_La_shire_487 : decode method_4_code 487 = .ok (.imul, 1) := by decide +kernel
theorem d_La_shire_488 : decode method_4_code 488 = .ok (.iadd, 1) := by decide +kernel
theorem d_La_shire_489 : decode method_4_code 489 = .ok (.iconst 1, 1) := by decide +kernel
theorem d_La_shire_490 : decode method_4_code 490 = .ok (.isub, 1) := by decide +kernel
theorem d_La_shire_491 : decode method_4_code 491 = .ok (.if_icmp .ne 18, 3) := by decide +kernel
theorem d_La_shire_494 : decode method_4_code 494 = .ok (.aload_n 0, 1) := by decide +kernel
theorem d_La_shire_495 : decode method_4_code 495 = .ok (.invokevirtual 24, 3) := by decide +kernel
theorem d_La_shire_498 : decode method_4_code 498 = .ok (.aload 4, 2) := by decide +kernel
theorem d_La_shire_500 : decode method_4_code 500 = .ok (.iconst 1, 1) := by decide +kernel
theorem d_La_shire_501 : decode method_4_code 501 = .ok (.iaload, 1) := by decide +kernel
theorem d_La_shire_502 : decode method_4_code 502 = .ok (.if_icmp .ne 7, 3) := by decide +kernel
theorem d_La_shire_505 : decode method_4_code 505 = .ok (.iconst 1, 1) := by decide +kernel
theorem d_La_shire_506 : decode method_4_code 506 = .ok (.goto 4, 3) := by decide +kernel
theorem d_La_shire_509 : decode method_4_code 509 = .ok (.iconst 0, 1) := by decide +kernel
theorem d_La_shire_510 : decode method_4_code 510 = .ok (.ireturn, 1) := by decide +kernel
theorem d_La_told_0 : decode method_18_code 0 = .ok (.aload_n 1, 1) := by decide +kernel
theorem d_La_told_1 : decode method_18_code 1 = .ok (.invokestatic 35, 3) := by decide +kernel
theorem d_La_told_4 : decode method_18_code 4 = .ok (.istore_n 2, 1) := by decide +kernel
theorem d_La_told_5 : decode method_18_code 5 = .ok (.iconst 0, 1) := by decide +kernel
theorem d_La_told_6 : decode method_18_code 6 = .ok (.istore_n 3, 1) := by decide +kernel
theorem d_La_told_7 : decode method_18_code 7 = .ok (.iload_n 3, 1) := by decide +kernel
theorem d_La_told_8 : decode method_18_code 8 = .ok (.aload_n 1, 1) := by decide +kernel
theorem d_La_told_9 : decode method_18_code 9 = .ok (.iconst 1, 1) := by decide +kernel
theorem d_La_told_10 : decode method_18_code 10 = .ok (.iaload, 1) := by decide +kernel
theorem d_La_told_11 : decode method_18_code 11 = .ok (.if_icmp .ge 220, 3) := by decide +kernel
theorem d_La_told_14 : decode method_18_code 14 = .ok (.bipush 10, 2) := by decide +kernel
theorem d_La_told_16 : decode method_18_code 16 = .ok (.iconst 5, 1) := by decide +kernel
theorem d_La_told_17 : decode method_18_code 17 = .ok (.iload_n 3, 1) := by decide +kernel
theorem d_La_told_18 : decode method_18_code 18 = .ok (.imul, 1) := by decide +kernel
theorem d_La_told_19 : decode method_18_code 19 = .ok (.iadd, 1) := by decide +kernel
theorem d_La_told_20 : decode method_18_code 20 = .ok (.istore 4, 2) := by decide +kernel
theorem d_La_told_22 : decode method_18_code 22 = .ok (.aload_n 0, 1) := by decide +kernel
theorem d_La_told_23 : decode method_18_code 23 = .ok (.iload_n 3, 1) := by decide +kernel
theorem d_La_told_24 : decode method_18_code 24 = .ok (.iconst 0, 1) := by decide +kernel
theorem d_La_told_25 : decode method_18_code 25 = .ok (.invokevirtual 110, 3) := by decide +kernel
theorem d_La_told_28 : decode method_18_code 28 = .ok (.aload_n 1, 1) := by decide +kernel
theorem d_La_told_29 : decode method_18_code 29 = .ok (.iload 4, 2) := by decide +kernel
theorem d_La_told_31 : decode method_18_code 31 = .ok (.iaload, 1) := by decide +kernel
theorem d_La_told_32 : decode method_18_code 32 = .ok (.if_icmp .ne 131, 3) := by decide +kernel
theorem d_La_told_35 : decode method_18_code 35 = .ok (.aload_n 0, 1) := by decide +kernel
theorem d_La_told_36 : decode method_18_code 36 = .ok (.iload_n 3, 1) := by decide +kernel
theorem d_La_told_37 : decode method_18_code 37 = .ok (.iconst 1, 1) := by decide +kernel
theorem d_La_told_38 : decode method_18_code 38 = .ok (.invokevirtual 110, 3) := by decide +kernel
theorem d_La_told_41 : decode method_18_code 41 = .ok (.aload_n 1, 1) := by decide +kernel
theorem d_La_told_42 : decode method_18_code 42 = .ok (.iload 4, 2) := by decide +kernel
theorem d_La_told_44 : decode method_18_code 44 = .ok (.iconst 1, 1) := by decide +kernel
theorem d_La_told_45 : decode method_18_code 45 = .ok (.iadd, 1) := by decide +kernel
theorem d_La_told_46 : decode method_18_code 46 = .ok (.iaload, 1) := by decide +kernel
theorem d_La_told_47 : decode method_18_code 47 = .ok (.if_icmp .ne 116, 3) := by decide +kernel
theorem d_La_told_50 : decode method_18_code 50 = .ok (.aload_n 0, 1) := by decide +kernel
theorem d_La_told_51 : decode method_18_code 51 = .ok (.iload_n 3, 1) := by decide +kernel
theorem d_La_told_52 : decode method_18_code 52 = .ok (.iconst 2, 1) := by decide +kernel
theorem d_La_told_53 : decode method_18_code 53 = .ok (.invokevirtual 110, 3) := by decide +kernel
theorem d_La_told_56 : decode method_18_code 56 = .ok (.aload_n 1, 1) := by decide +kernel
theorem d_La_told_57 : decode method_18_code 57 = .ok (.iload 4, 2) := by decide +kernel
theorem d_La_told_59 : decode method_18_code 59 = .ok (.iconst 2, 1) := by decide +kernel
theorem d_La_told_60 : decode method_18_code 60 = .ok (.iadd, 1) := by decide +kernel
theorem d_La_told_61 : decode method_18_code 61 = .ok (.iaload, 1) := by decide +kernel
theorem d_La_told_62 : decode method_18_code 62 = .ok (.if_icmp .ne 101, 3) := by decide +kernel
theorem d_La_told_65 : decode method_18_code 65 = .ok (.aload_n 0, 1) := by decide +kernel
theorem d_La_told_66 : decode method_18_code 66 = .ok (.iload_n 3, 1) := by decide +kernel
theorem d_La_told_67 : decode method_18_code 67 = .ok (.iconst 3, 1) := by decide +kernel
theorem d_La_told_68 : decode method_18_code 68 = .ok (.invokevirtual 110, 3) := by decide +kernel
theorem d_La_told_71 : decode method_18_code 71 = .ok (.aload_n 1, 1) := by decide +kernel
theorem d_La_told_72 : decode method_18_code 72 = .ok (.iload 4, 2) := by decide +kernel
theorem d_La_told_74 : decode method_18_code 74 = .ok (.iconst 3, 1) := by decide +kernel
theorem d_La_told_75 : decode method_18_code 75 = .ok (.iadd, 1) := by decide +kernel
theorem d_La_told_76 : decode method_18_code 76 = .ok (.iaload, 1) := by decide +kernel
theorem d_La_told_77 : decode method_18_code 77 = .ok (.if_icmp .ne 86, 3) := by decide +kernel
theorem d_La_told_80 : decode method_18_code 80 = .ok (.aload_n 0, 1) := by decide +kernel
theorem d_La_told_81 : decode method_18_code 81 = .ok (.iload_n 3, 1) := by decide +kernel
theorem d_La_told_82 : decode method_18_code 82 = .ok (.iconst 4, 1) := by decide +kernel
theorem d_La_told_83 : decode method_18_code 83 = .ok (.invokevirtual 110, 3) := by decide +kernel
theorem d_La_told_86 : decode method_18_code 86 = .ok (.aload_n 1, 1) := by decide +kernel
theorem d_La_told_87 : decode method_18_code 87 = .ok (.iload_n 3, 1) := by decide +kernel
theorem d_La_told_88 : decode method_18_code 88 = .ok (.aload_n 1, 1) := by decide +kernel
theorem d_La_told_89 : decode method_18_code 89 = .ok (.iload 4, 2) := by decide +kernel
theorem d_La_told_91 : decode method_18_code 91 = .ok (.iconst 1, 1) := by decide +kernel
theorem d_La_told_92 : decode method_18_code 92 = .ok (.iadd, 1) := by decide +kernel
theorem d_La_told_93 : decode method_18_code 93 = .ok (.iaload, 1) := by decide +kernel
theorem d_La_told_94 : decode method_18_code 94 = .ok (.invokestatic 31, 3) := by decide +kernel
theorem d_La_told_97 : decode method_18_code 97 = .ok (.if_icmp .ne 66, 3) := by decide +kernel
theorem d_La_told_100 : decode method_18_code 100 = .ok (.aload_n 0, 1) := by decide +kernel
theorem d_La_told_101 : decode method_18_code 101 = .ok (.iload_n 3, 1) := by decide +kernel
theorem d_La_told_102 : decode method_18_code 102 = .ok (.iconst 5, 1) := by decide +kernel
theorem d_La_told_103 : decode method_18_code 103 = .ok (.invokevirtual 110, 3) := by decide +kernel
theorem d_La_told_106 : decode method_18_code 106 = .ok (.aload_n 1, 1) := by decide +kernel
theorem d_La_told_107 : decode method_18_code 107 = .ok (.iload 4, 2) := by decide +kernel
theorem d_La_told_109 : decode method_18_code 109 = .ok (.iconst 4, 1) := by decide +kernel
theorem d_La_told_110 : decode method_18_code 110 = .ok (.iadd, 1) := by decide +kernel
theorem d_La_told_111 : decode method_18_code 111 = .ok (.iaload, 1) := by decide +kernel
theorem d_La_told_112 : decode method_18_code 112 = .ok (.if_icmp .ne 51, 3) := by decide +kernel
theorem d_La_told_115 : decode method_18_code 115 = .ok (.aload_n 0, 1) := by decide +kernel
theorem d_La_told_116 : decode method_18_code 116 = .ok (.iload_n 3, 1) := by decide +kernel
theorem d_La_told_117 : decode method_18_code 117 = .ok (.bipush 6, 2) := by decide +kernel
theorem d_La_told_119 : decode method_18_code 119 = .ok (.invokevirtual 110, 3) := by decide +kernel
theorem d_La_told_122 : decode method_18_code 122 = .ok (.aload_n 1, 1) := by decide +kernel
theorem d_La_told_123 : decode method_18_code 123 = .ok (.iload_n 3, 1) := by decide +kernel
theorem d_La_told_124 : decode method_18_code 124 = .ok (.invokestatic 42, 3) := by decide +kernel
theorem d_La_told_127 : decode method_18_code 127 = .ok (.if_icmp .ne 36, 3) := by decide +kernel
theorem d_La_told_130 : decode method_18_code 130 = .ok (.aload_n 0, 1) := by decide +kernel
theorem d_La_told_131 : decode method_18_code 131 = .ok (.iload_n 3, 1) := by decide +kernel
theorem d_La_told_132 : decode method_18_code 132 = .ok (.bipush 7, 2) := by decide +kernel
theorem d_La_told_134 : decode method_18_code 134 = .ok (.invokevirtual 110, 3) := by decide +kernel
theorem d_La_told_137 : decode method_18_code 137 = .ok (.aload_n 1, 1) := by decide +kernel
theorem d_La_told_138 : decode method_18_code 138 = .ok (.iload_n 3, 1) := by decide +kernel
theorem d_La_told_139 : decode method_18_code 139 = .ok (.invokestatic 42, 3) := by decide +kernel
theorem d_La_told_142 : decode method_18_code 142 = .ok (.iload_n 2, 1) := by decide +kernel
theorem d_La_told_143 : decode method_18_code 143 = .ok (.iand, 1) := by decide +kernel
theorem d_La_told_144 : decode method_18_code 144 = .ok (.invokestatic 46, 3) := by decide +kernel
theorem d_La_told_147 : decode method_18_code 147 = .ok (.if_icmp .ne 16, 3) := by decide +kernel
theorem d_La_told_150 : decode method_18_code 150 = .ok (.aload_n 0, 1) := by decide +kernel
theorem d_La_told_151 : decode method_18_code 151 = .ok (.iload_n 3, 1) := by decide +kernel
theorem d_La_told_152 : decode method_18_code 152 = .ok (.bipush 8, 2) := by decide +kernel
theorem d_La_told_154 : decode method_18_code 154 = .ok (.invokevirtual 110, 3) := by decide +kernel
theorem d_La_told_157 : decode method_18_code 157 = .ok (.sipush 511, 3) := by decide +kernel
theorem d_La_told_160 : decode method_18_code 160 = .ok (.if_icmp .eq 5, 3) := by decide +kernel
theorem d_La_told_163 : decode method_18_code 163 = .ok (.iconst 0, 1) := by decide +kernel
theorem d_La_told_164 : decode method_18_code 164 = .ok (.ireturn, 1) := by decide +kernel
theorem d_La_told_165 : decode method_18_code 165 = .ok (.iconst 0, 1) := by decide +kernel
theorem d_La_told_166 : decode method_18_code 166 = .ok (.istore 5, 2) := by decide +kernel
theorem d_La_told_168 : decode method_18_code 168 = .ok (.iload 5, 2) := by decide +kernel
theorem d_La_told_170 : decode method_18_code 170 = .ok (.iconst 5, 1) := by decide +kernel
theorem d_La_told_171 : decode method_18_code 171 = .ok (.if_icmp .ge 54, 3) := by decide +kernel
theorem d_La_told_174 : decode method_18_code 174 = .ok (.aload_n 0, 1) := by decide +kernel
theorem d_La_told_175 : decode method_18_code 175 = .ok (.iload_n 3, 1) := by decide +kernel
theorem d_La_told_176 : decode method_18_code 176 = .ok (.iload 5, 2) := by decide +kernel
theorem d_La_told_178 : decode method_18_code 178 = .ok (.invokevirtual 113, 3) := by decide +kernel
theorem d_La_told_181 : decode method_18_code 181 = .ok (.iload 5, 2) := by decide +kernel
theorem d_La_told_183 : decode method_18_code 183 = .ok (.ifCond .eq 26, 3) := by decide +kernel
theorem d_La_told_186 : decode method_18_code 186 = .ok (.iload 5, 2) := by decide +kernel
theorem d_La_told_188 : decode method_18_code 188 = .ok (.aload_n 1, 1) := by decide +kernel
theorem d_La_told_189 : decode method_18_code 189 = .ok (.iload 4, 2) := by decide +kernel
theorem d_La_told_191 : decode method_18_code 191 = .ok (.iaload, 1) := by decide +kernel
theorem d_La_told_192 : decode method_18_code 192 = .ok (.if_icmp .eq 17, 3) := by decide +kernel
theorem d_La_told_195 : decode method_18_code 195 = .ok (.iload 5, 2) := by decide +kernel
theorem d_La_told_197 : decode method_18_code 197 = .ok (.iconst 1, 1) := by decide +kernel
theorem d_La_told_198 : decode method_18_code 198 = .ok (.if_icmp .ne 15, 3) := by decide +kernel
theorem d_La_told_201 : decode method_18_code 201 = .ok (.aload_n 1, 1) := by decide +kernel
theorem d_La_told_202 : decode method_18_code 202 = .ok (.iload 4, 2) := by decide +kernel
theorem d_La_told_204 : decode method_18_code 204 = .ok (.iaload, 1) := by decide +kernel
theorem d_La_told_205 : decode method_18_code 205 = .ok (.iconst 4, 1) := by decide +kernel
theorem d_La_told_206 : decode method_18_code 206 = .ok (.if_icmp .ne 7, 3) := by decide +kernel
theorem d_La_told_209 : decode method_18_code 209 = .ok (.iload_n 3, 1) := by decide +kernel
theorem d_La_told_210 : decode method_18_code 210 = .ok (.goto 4, 3) := by decide +kernel
theorem d_La_told_213 : decode method_18_code 213 = .ok (.iconst (-1), 1) := by decide +kernel
theorem d_La_told_214 : decode method_18_code 214 = .ok (.if_icmp .eq 5, 3) := by decide +kernel
theorem d_La_told_217 : decode method_18_code 217 = .ok (.iconst 0, 1) := by decide +kernel
theorem d_La_told_218 : decode method_18_code 218 = .ok (.ireturn, 1) := by decide +kernel
theorem d_La_told_219 : decode method_18_code 219 = .ok (.iinc 5 1, 3) := by decide +kernel
theorem d_La_told_222 : decode method_18_code 222 = .ok (.goto (-54), 3) := by decide +kernel
theorem d_La_told_225 : decode method_18_code 225 = .ok (.iinc 3 1, 3) := by decide +kernel
theorem d_La_told_228 : decode method_18_code 228 = .ok (.goto (-221), 3) := by decide +kernel
theorem d_La_told_231 : decode method_18_code 231 = .ok (.iconst 0, 1) := by decide +kernel
theorem d_La_told_232 : decode method_18_code 232 = .ok (.istore_n 3, 1) := by decide +kernel
theorem d_La_told_233 : decode method_18_code 233 = .ok (.iconst 0, 1) := by decide +kernel
theorem d_La_told_234 : decode method_18_code 234 = .ok (.istore 4, 2) := by decide +kernel
theorem d_La_told_236 : decode method_18_code 236 = .ok (.iconst 0, 1) := by decide +kernel
theorem d_La_told_237 : decode method_18_code 237 = .ok (.istore 5, 2) := by decide +kernel
theorem d_La_told_239 : decode method_18_code 239 = .ok (.iload 5, 2) := by decide +kernel
theorem d_La_told_241 : decode method_18_code 241 = .ok (.aload_n 1, 1) := by decide +kernel
theorem d_La_told_242 : decode method_18_code 242 = .ok (.iconst 0, 1) := by decide +kernel
theorem d_La_told_243 : decode method_18_code 243 = .ok (.iaload, 1) := by decide +kernel
theorem d_La_told_244 : decode method_18_code 244 = .ok (.if_icmp .ge 121, 3) := by decide +kernel
theorem d_La_told_247 : decode method_18_code 247 = .ok (.iconst 0, 1) := by decide +kernel
theorem d_La_told_248 : decode method_18_code 248 = .ok (.istore 6, 2) := by decide +kernel
theorem d_La_told_250 : decode method_18_code 250 = .ok (.iconst 0, 1) := by decide +kernel
theorem d_La_told_251 : decode method_18_code 251 = .ok (.istore 7, 2) := by decide +kernel
theorem d_La_told_253 : decode method_18_code 253 = .ok (.iload 7, 2) := by decide +kernel
theorem d_La_told_255 : decode method_18_code 255 = .ok (.aload_n 1, 1) := by decide +kernel
theorem d_La_told_256 : decode method_18_code 256 = .ok (.iconst 1, 1) := by decide +kernel
theorem d_La_told_257 : decode method_18_code 257 = .ok (.iaload, 1) := by decide +kernel
theorem d_La_told_258 : decode method_18_code 258 = .ok (.if_icmp .ge 33, 3) := by decide +kernel
theorem d_La_told_261 : decode method_18_code 261 = .ok (.iload 6, 2) := by decide +kernel
theorem d_La_told_263 : decode method_18_code 263 = .ok (.aload_n 1, 1) := by decide +kernel
theorem d_La_told_264 : decode method_18_code 264 = .ok (.iload 7, 2) := by decide +kernel
theorem d_La_told_266 : decode method_18_code 266 = .ok (.iload 5, 2) := by decide +kernel
theorem d_La_told_268 : decode method_18_code 268 = .ok (.invokestatic 49, 3) := by decide +kernel
theorem d_La_told_271 : decode method_18_code 271 = .ok (.ifCond .eq 10, 3) := by decide +kernel
theorem d_La_told_274 : decode method_18_code 274 = .ok (.iconst 1, 1) := by decide +kernel
theorem d_La_told_275 : decode method_18_code 275 = .ok (.iload 7, 2) := by decide +kernel
theorem d_La_told_277 : decode method_18_code 277 = .ok (.ishl, 1) := by decide +kernel
theorem d_La_told_278 : decode method_18_code 278 = .ok (.goto 4, 3) := by decide +kernel
theorem d_La_told_281 : decode method_18_code 281 = .ok (.iconst 0, 1) := by decide +kernel
theorem d_La_told_282 : decode method_18_code 282 = .ok (.ior, 1) := by decide +kernel
theorem d_La_told_283 : decode method_18_code 283 = .ok (.istore 6, 2) := by decide +kernel
theorem d_La_told_285 : decode method_18_code 285 = .ok (.iinc 7 1, 3) := by decide +kernel
theorem d_La_told_288 : decode method_18_code 288 = .ok (.goto (-35), 3) := by decide +kernel
theorem d_La_told_291 : decode method_18_code 291 = .ok (.iload_n 3, 1) := by decide +kernel
theorem d_La_told_292 : decode method_18_code 292 = .ok (.aload_n 1, 1) := by decide +kernel
theorem d_La_told_293 : decode method_18_code 293 = .ok (.iconst 4, 1) := by decide +kernel
theorem d_La_told_294 : decode method_18_code 294 = .ok (.iload 5, 2) := by decide +kernel
theorem d_La_told_296 : decode method_18_code 296 = .ok (.iadd, 1) := by decide +kernel
theorem d_La_told_297 : decode method_18_code 297 = .ok (.iaload, 1) := by decide +kernel
theorem d_La_told_298 : decode method_18_code 298 = .ok (.iadd, 1) := by decide +kernel
theorem d_La_told_299 : decode method_18_code 299 = .ok (.istore_n 3, 1) := by decide +kernel
theorem d_La_told_300 : decode method_18_code 300 = .ok (.iload 4, 2) := by decide +kernel
theorem d_La_told_302 : decode method_18_code 302 = .ok (.aload_n 1, 1) := by decide +kernel
theorem d_La_told_303 : decode method_18_code 303 = .ok (.bipush 7, 2) := by decide +kernel
theorem d_La_told_305 : decode method_18_code 305 = .ok (.iload 5, 2) := by decide +kernel
theorem d_La_told_307 : decode method_18_code 307 = .ok (.iadd, 1) := by decide +kernel
theorem d_La_told_308 : decode method_18_code 308 = .ok (.iaload, 1) := by decide +kernel
theorem d_La_told_309 : decode method_18_code 309 = .ok (.iadd, 1) := by decide +kernel
theorem d_La_told_310 : decode method_18_code 310 = .ok (.istore 4, 2) := by decide +kernel
theorem d_La_told_312 : decode method_18_code 312 = .ok (.aload_n 0, 1) := by decide +kernel
theorem d_La_told_313 : decode method_18_code 313 = .ok (.iload 5, 2) := by decide +kernel
theorem d_La_told_315 : decode method_18_code 315 = .ok (.iconst 0, 1) := by decide +kernel
theorem d_La_told_316 : decode method_18_code 316 = .ok (.invokevirtual 107, 3) := by decide +kernel
theorem d_La_told_319 : decode method_18_code 319 = .ok (.aload_n 1, 1) := by decide +kernel
theorem d_La_told_320 : decode method_18_code 320 = .ok (.iconst 4, 1) := by decide +kernel
theorem d_La_told_321 : decode method_18_code 321 = .ok (.iload 5, 2) := by decide +kernel
theorem d_La_told_323 : decode method_18_code 323 = .ok (.iadd, 1) := by decide +kernel
theorem d_La_told_324 : decode method_18_code 324 = .ok (.iaload, 1) := by decide +kernel
theorem d_La_told_325 : decode method_18_code 325 = .ok (.if_icmp .ne 32, 3) := by decide +kernel
theorem d_La_told_328 : decode method_18_code 328 = .ok (.aload_n 0, 1) := by decide +kernel
theorem d_La_told_329 : decode method_18_code 329 = .ok (.iload 5, 2) := by decide +kernel
theorem d_La_told_331 : decode method_18_code 331 = .ok (.iconst 1, 1) := by decide +kernel
theorem d_La_told_332 : decode method_18_code 332 = .ok (.invokevirtual 107, 3) := by decide +kernel
theorem d_La_told_335 : decode method_18_code 335 = .ok (.aload_n 1, 1) := by decide +kernel
theorem d_La_told_336 : decode method_18_code 336 = .ok (.bipush 7, 2) := by decide +kernel
theorem d_La_told_338 : decode method_18_code 338 = .ok (.iload 5, 2) := by decide +kernel
theorem d_La_told_340 : decode method_18_code 340 = .ok (.iadd, 1) := by decide +kernel
theorem d_La_told_341 : decode method_18_code 341 = .ok (.iaload, 1) := by decide +kernel
theorem d_La_told_342 : decode method_18_code 342 = .ok (.if_icmp .ne 15, 3) := by decide +kernel
theorem d_La_told_345 : decode method_18_code 345 = .ok (.aload_n 0, 1) := by decide +kernel
theorem d_La_told_346 : decode method_18_code 346 = .ok (.iload 5, 2) := by decide +kernel
theorem d_La_told_348 : decode method_18_code 348 = .ok (.iconst 2, 1) := by decide +kernel
theorem d_La_told_349 : decode method_18_code 349 = .ok (.invokevirtual 107, 3) := by decide +kernel
theorem d_La_told_352 : decode method_18_code 352 = .ok (.iload 6, 2) := by decide +kernel
theorem d_La_told_354 : decode method_18_code 354 = .ok (.if_icmp .eq 5, 3) := by decide +kernel
theorem d_La_told_357 : decode method_18_code 357 = .ok (.iconst 0, 1) := by decide +kernel
theorem d_La_told_358 : decode method_18_code 358 = .ok (.ireturn, 1) := by decide +kernel
theorem d_La_told_359 : decode method_18_code 359 = .ok (.iinc 5 1, 3) := by decide +kernel
theorem d_La_told_362 : decode method_18_code 362 = .ok (.goto (-123), 3) := by decide +kernel
theorem d_La_told_365 : decode method_18_code 365 = .ok (.aload_n 0, 1) := by decide +kernel
theorem d_La_told_366 : decode method_18_code 366 = .ok (.iconst 0, 1) := by decide +kernel
theorem d_La_told_367 : decode method_18_code 367 = .ok (.invokevirtual 116, 3) := by decide +kernel
theorem d_La_told_370 : decode method_18_code 370 = .ok (.aload_n 1, 1) := by decide +kernel
theorem d_La_told_371 : decode method_18_code 371 = .ok (.iconst 0, 1) := by decide +kernel
theorem d_La_told_372 : decode method_18_code 372 = .ok (.iaload, 1) := by decide +kernel
theorem d_La_told_373 : decode method_18_code 373 = .ok (.if_icmp .ne 86, 3) := by decide +kernel
theorem d_La_told_376 : decode method_18_code 376 = .ok (.aload_n 0, 1) := by decide +kernel
theorem d_La_told_377 : decode method_18_code 377 = .ok (.iconst 1, 1) := by decide +kernel
theorem d_La_told_378 : decode method_18_code 378 = .ok (.invokevirtual 116, 3) := by decide +kernel
theorem d_La_told_381 : decode method_18_code 381 = .ok (.aload_n 1, 1) := by decide +kernel
theorem d_La_told_382 : decode method_18_code 382 = .ok (.iconst 1, 1) := by decide +kernel
theorem d_La_told_383 : decode method_18_code 383 = .ok (.iaload, 1) := by decide +kernel
theorem d_La_told_384 : decode method_18_code 384 = .ok (.if_icmp .ne 75, 3) := by decide +kernel
theorem d_La_told_387 : decode method_18_code 387 = .ok (.aload_n 0, 1) := by decide +kernel
theorem d_La_told_388 : decode method_18_code 388 = .ok (.iconst 2, 1) := by decide +kernel
theorem d_La_told_389 : decode method_18_code 389 = .ok (.invokevirtual 116, 3) := by decide +kernel
theorem d_La_told_392 : decode method_18_code 392 = .ok (.iload_n 3, 1) := by decide +kernel
theorem d_La_told_393 : decode method_18_code 393 = .ok (.if_icmp .ne 66, 3) := by decide +kernel
theorem d_La_told_396 : decode method_18_code 396 = .ok (.aload_n 0, 1) := by decide +kernel
theorem d_La_told_397 : decode method_18_code 397 = .ok (.iconst 3, 1) := by decide +kernel
theorem d_La_told_398 : decode method_18_code 398 = .ok (.invokevirtual 116, 3) := by decide +kernel
theorem d_La_told_401 : decode method_18_code 401 = .ok (.iload 4, 2) := by decide +kernel
theorem d_La_told_403 : decode method_18_code 403 = .ok (.if_icmp .ne 56, 3) := by decide +kernel
theorem d_La_told_406 : decode method_18_code 406 = .ok (.aload_n 0, 1) := by decide +kernel
theorem d_La_told_407 : decode method_18_code 407 = .ok (.iconst 4, 1) := by decide +kernel
theorem d_La_told_408 : decode method_18_code 408 = .ok (.invokevirtual 116, 3) := by decide +kernel
theorem d_La_told_411 : decode method_18_code 411 = .ok (.iload_n 2, 1) := by decide +kernel
theorem d_La_told_412 : decode method_18_code 412 = .ok (.invokestatic 46, 3) := by decide +kernel
theorem d_La_told_415 : decode method_18_code 415 = .ok (.if_icmp .ne 44, 3) := by decide +kernel
theorem d_La_told_418 : decode method_18_code 418 = .ok (.aload_n 0, 1) := by decide +kernel
theorem d_La_told_419 : decode method_18_code 419 = .ok (.iconst 5, 1) := by decide +kernel
theorem d_La_told_420 : decode method_18_code 420 = .ok (.invokevirtual 116, 3) := by decide +kernel
theorem d_La_told_423 : decode method_18_code 423 = .ok (.aload_n 1, 1) := by decide +kernel
theorem d_La_told_424 : decode method_18_code 424 = .ok (.iload_n 2, 1) := by decide +kernel
theorem d_La_told_425 : decode method_18_code 425 = .ok (.invokestatic 74, 3) := by decide +kernel
theorem d_La_told_428 : decode method_18_code 428 = .ok (.if_icmp .ne 31, 3) := by decide +kernel
theorem d_La_told_431 : decode method_18_code 431 = .ok (.aload_n 0, 1) := by decide +kernel
theorem d_La_told_432 : decode method_18_code 432 = .ok (.bipush 6, 2) := by decide +kernel
theorem d_La_told_434 : decode method_18_code 434 = .ok (.invokevirtual 116, 3) := by decide +kernel
theorem d_La_told_437 : decode method_18_code 437 = .ok (.aload_n 1, 1) := by decide +kernel
theorem d_La_told_438 : decode method_18_code 438 = .ok (.iconst 2, 1) := by decide +kernel
theorem d_La_told_439 : decode method_18_code 439 = .ok (.iaload, 1) := by decide +kernel
theorem d_La_told_440 : decode method_18_code 440 = .ok (.if_icmp .ne 19, 3) := by decide +kernel
theorem d_La_told_443 : decode method_18_code 443 = .ok (.aload_n 0, 1) := by decide +kernel
theorem d_La_told_444 : decode method_18_code 444 = .ok (.bipush 7, 2) := by decide +kernel
theorem d_La_told_446 : decode method_18_code 446 = .ok (.invokevirtual 116, 3) := by decide +kernel
theorem d_La_told_449 : decode method_18_code 449 = .ok (.aload_n 1, 1) := by decide +kernel
theorem d_La_told_450 : decode method_18_code 450 = .ok (.iconst 3, 1) := by decide +kernel
theorem d_La_told_451 : decode method_18_code 451 = .ok (.iaload, 1) := by decide +kernel
theorem d_La_told_452 : decode method_18_code 452 = .ok (.if_icmp .ne 7, 3) := by decide +kernel
theorem d_La_told_455 : decode method_18_code 455 = .ok (.iconst 1, 1) := by decide +kernel
theorem d_La_told_456 : decode method_18_code 456 = .ok (.goto 4, 3) := by decide +kernel
theorem d_La_told_459 : decode method_18_code 459 = .ok (.iconst 0, 1) := by decide +kernel
theorem d_La_told_460 : decode method_18_code 460 = .ok (.ireturn, 1) := by decide +kernel
theorem d_La_law_0 : decode code 0 = .ok (.new 9, 3) := by decide +kernel
theorem d_La_law_3 : decode code 3 = .ok (.dup, 1) := by decide +kernel
theorem d_La_law_4 : decode code 4 = .ok (.invokespecial 77, 3) := by decide +kernel
theorem d_La_law_7 : decode code 7 = .ok (.astore_n 1, 1) := by decide +kernel
theorem d_La_law_8 : decode code 8 = .ok (.bipush 45, 2) := by decide +kernel
theorem d_La_law_10 : decode code 10 = .ok (.newarray .int, 2) := by decide +kernel
theorem d_La_law_12 : decode code 12 = .ok (.astore_n 2, 1) := by decide +kernel
theorem d_La_law_13 : decode code 13 = .ok (.bipush 45, 2) := by decide +kernel
theorem d_La_law_15 : decode code 15 = .ok (.newarray .int, 2) := by decide +kernel
theorem d_La_law_17 : decode code 17 = .ok (.astore_n 3, 1) := by decide +kernel
theorem d_La_law_18 : decode code 18 = .ok (.iconst 0, 1) := by decide +kernel
theorem d_La_law_19 : decode code 19 = .ok (.istore 4, 2) := by decide +kernel
theorem d_La_law_21 : decode code 21 = .ok (.iload 4, 2) := by decide +kernel
theorem d_La_law_23 : decode code 23 = .ok (.iconst 2, 1) := by decide +kernel
theorem d_La_law_24 : decode code 24 = .ok (.if_icmp .ge 574, 3) := by decide +kernel
theorem d_La_law_27 : decode code 27 = .ok (.bipush 29, 2) := by decide +kernel
theorem d_La_law_29 : decode code 29 = .ok (.iload 4, 2) := by decide +kernel
theorem d_La_law_31 : decode code 31 = .ok (.imul, 1) := by decide +kernel
theorem d_La_law_32 : decode code 32 = .ok (.istore 5, 2) := by decide +kernel
theorem d_La_law_34 : decode code 34 = .ok (.aload_n 1, 1) := by decide +kernel
theorem d_La_law_35 : decode code 35 = .ok (.aload_n 0, 1) := by decide +kernel
theorem d_La_law_36 : decode code 36 = .ok (.iload 5, 2) := by decide +kernel
theorem d_La_law_38 : decode code 38 = .ok (.invokestatic 78, 3) := by decide +kernel
theorem d_La_law_41 : decode code 41 = .ok (.aload_n 0, 1) := by decide +kernel
theorem d_La_law_42 : decode code 42 = .ok (.iload 5, 2) := by decide +kernel
theorem d_La_law_44 : decode code 44 = .ok (.iconst 1, 1) := by decide +kernel
theorem d_La_law_45 : decode code 45 = .ok (.iadd, 1) := by decide +kernel
theorem d_La_law_46 : decode code 46 = .ok (.invokestatic 78, 3) := by decide +kernel
theorem d_La_law_49 : decode code 49 = .ok (.aload_n 0, 1) := by decide +kernel
theorem d_La_law_50 : decode code 50 = .ok (.iload 5, 2) := by decide +kernel
theorem d_La_law_52 : decode code 52 = .ok (.iconst 2, 1) := by decide +kernel
theorem d_La_law_53 : decode code 53 = .ok (.iadd, 1) := by decide +kernel
theorem d_La_law_54 : decode code 54 = .ok (.invokestatic 78, 3) := by decide +kernel
theorem d_La_law_57 : decode code 57 = .ok (.aload_n 2, 1) := by decide +kernel
theorem d_La_law_58 : decode code 58 = .ok (.invokestatic 81, 3) := by decide +kernel
theorem d_La_law_61 : decode code 61 = .ok (.ifCond .eq 11, 3) := by decide +kernel
theorem d_La_law_64 : decode code 64 = .ok (.aload_n 1, 1) := by decide +kernel
theorem d_La_law_65 : decode code 65 = .ok (.aload_n 2, 1) := by decide +kernel
theorem d_La_law_66 : decode code 66 = .ok (.invokestatic 84, 3) := by decide +kernel
theorem d_La_law_69 : decode code 69 = .ok (.ifCond .ne 5, 3) := by decide +kernel
theorem d_La_law_72 : decode code 72 = .ok (.iconst 0, 1) := by decide +kernel
theorem d_La_law_73 : decode code 73 = .ok (.ireturn, 1) := by decide +kernel
theorem d_La_law_74 : decode code 74 = .ok (.iconst 0, 1) := by decide +kernel
theorem d_La_law_75 : decode code 75 = .ok (.istore 6, 2) := by decide +kernel
theorem d_La_law_77 : decode code 77 = .ok (.iload 6, 2) := by decide +kernel
theorem d_La_law_79 : decode code 79 = .ok (.bipush 22, 2) := by decide +kernel
theorem d_La_law_81 : decode code 81 = .ok (.if_icmp .ge 261, 3) := by decide +kernel
theorem d_La_law_84 : decode code 84 = .ok (.aload_n 0, 1) := by decide +kernel
theorem d_La_law_85 : decode code 85 = .ok (.iload 5, 2) := by decide +kernel
theorem d_La_law_87 : decode code 87 = .ok (.iconst 3, 1) := by decide +kernel
theorem d_La_law_88 : decode code 88 = .ok (.iadd, 1) := by decide +kernel
theorem d_La_law_89 : decode code 89 = .ok (.iload 6, 2) := by decide +kernel
theorem d_La_law_91 : decode code 91 = .ok (.iadd, 1) := by decide +kernel
theorem d_La_law_92 : decode code 92 = .ok (.invokestatic 78, 3) := by decide +kernel
theorem d_La_law_95 : decode code 95 = .ok (.istore 7, 2) := by decide +kernel
theorem d_La_law_97 : decode code 97 = .ok (.aload_n 1, 1) := by decide +kernel
theorem d_La_law_98 : decode code 98 = .ok (.iload 7, 2) := by decide +kernel
theorem d_La_law_100 : decode code 100 = .ok (.aload_n 2, 1) := by decide +kernel
theorem d_La_law_101 : decode code 101 = .ok (.invokestatic 88, 3) := by decide +kernel
theorem d_La_law_104 : decode code 104 = .ok (.ifCond .eq 11, 3) := by decide +kernel
theorem d_La_law_107 : decode code 107 = .ok (.aload_n 1, 1) := by decide +kernel
theorem d_La_law_108 : decode code 108 = .ok (.aload_n 2, 1) := by decide +kernel
theorem d_La_law_109 : decode code 109 = .ok (.invokestatic 84, 3) := by decide +kernel
theorem d_La_law_112 : decode code 112 = .ok (.ifCond .ne 5, 3) := by decide +kernel
theorem d_La_law_115 : decode code 115 = .ok (.iconst 0, 1) := by decide +kernel
theorem d_La_law_116 : decode code 116 = .ok (.ireturn, 1) := by decide +kernel
theorem d_La_law_117 : decode code 117 = .ok (.iload 6, 2) := by decide +kernel
theorem d_La_law_119 : decode code 119 = .ok (.bipush 6, 2) := by decide +kernel
theorem d_La_law_121 : decode code 121 = .ok (.irem, 1) := by decide +kernel
theorem d_La_law_122 : decode code 122 = .ok (.iconst 5, 1) := by decide +kernel
theorem d_La_law_123 : decode code 123 = .ok (.if_icmp .ne 213, 3) := by decide +kernel
theorem d_La_law_126 : decode code 126 = .ok (.iconst 1, 1) := by decide +kernel
theorem d_La_law_127 : decode code 127 = .ok (.iload 7, 2) := by decide +kernel
theorem d_La_law_129 : decode code 129 = .ok (.sipush 512, 3) := by decide +kernel
theorem d_La_law_132 : decode code 132 = .ok (.idiv, 1) := by decide +kernel
theorem d_La_law_133 : decode code 133 = .ok (.bipush 60, 2) := by decide +kernel
theorem d_La_law_135 : decode code 135 = .ok (.irem, 1) := by decide +kernel
theorem d_La_law_136 : decode code 136 = .ok (.iadd, 1) := by decide +kernel
theorem d_La_law_137 : decode code 137 = .ok (.istore 8, 2) := by decide +kernel
theorem d_La_law_139 : decode code 139 = .ok (.aload_n 0, 1) := by decide +kernel
theorem d_La_law_140 : decode code 140 = .ok (.iload 5, 2) := by decide +kernel
theorem d_La_law_142 : decode code 142 = .ok (.bipush 24, 2) := by decide +kernel
theorem d_La_law_144 : decode code 144 = .ok (.iadd, 1) := by decide +kernel
theorem d_La_law_145 : decode code 145 = .ok (.iload 6, 2) := by decide +kernel
theorem d_La_law_147 : decode code 147 = .ok (.bipush 6, 2) := by decide +kernel
theorem d_La_law_149 : decode code 149 = .ok (.idiv, 1) := by decide +kernel
theorem d_La_law_150 : decode code 150 = .ok (.iadd, 1) := by decide +kernel
theorem d_La_law_151 : decode code 151 = .ok (.invokestatic 78, 3) := by decide +kernel
theorem d_La_law_154 : decode code 154 = .ok (.istore 9, 2) := by decide +kernel
theorem d_La_law_156 : decode code 156 = .ok (.iload 9, 2) := by decide +kernel
theorem d_La_law_158 : decode code 158 = .ok (.i2l, 1) := by decide +kernel
theorem d_La_law_159 : decode code 159 = .ok (.lstore 10, 2) := by decide +kernel
theorem d_La_law_161 : decode code 161 = .ok (.aload_n 2, 1) := by decide +kernel
theorem d_La_law_162 : decode code 162 = .ok (.aload_n 3, 1) := by decide +kernel
theorem d_La_law_163 : decode code 163 = .ok (.invokestatic 92, 3) := by decide +kernel
theorem d_La_law_166 : decode code 166 = .ok (.iconst 0, 1) := by decide +kernel
theorem d_La_law_167 : decode code 167 = .ok (.istore 12, 2) := by decide +kernel
theorem d_La_law_169 : decode code 169 = .ok (.iconst 0, 1) := by decide +kernel
theorem d_La_law_170 : decode code 170 = .ok (.istore 13, 2) := by decide +kernel
theorem d_La_law_172 : decode code 172 = .ok (.iload 13, 2) := by decide +kernel
theorem d_La_law_174 : decode code 174 = .ok (.iload 8, 2) := by decide +kernel
theorem d_La_law_176 : decode code 176 = .ok (.if_icmp .ge 108, 3) := by decide +kernel
theorem d_La_law_179 : decode code 179 = .ok (.ldc2_w 96, 3) := by decide +kernel
theorem d_La_law_182 : decode code 182 = .ok (.lload 10, 2) := by decide +kernel
theorem d_La_law_184 : decode code 184 = .ok (.lmul, 1) := by decide +kernel
theorem d_La_law_185 : decode code 185 = .ok (.ldc2_w 98, 3) := by decide +kernel
theorem d_La_law_188 : decode code 188 = .ok (.ladd, 1) := by decide +kernel
theorem d_La_law_189 : decode code 189 = .ok (.ldc2_w 100, 3) := by decide +kernel
theorem d_La_law_192 : decode code 192 = .ok (.lrem, 1) := by decide +kernel
theorem d_La_law_193 : decode code 193 = .ok (.lstore 10, 2) := by decide +kernel
theorem d_La_law_195 : decode code 195 = .ok (.lload 10, 2) := by decide +kernel
theorem d_La_law_197 : decode code 197 = .ok (.ldc2_w 102, 3) := by decide +kernel
theorem d_La_law_200 : decode code 200 = .ok (.ldiv, 1) := by decide +kernel
theorem d_La_law_201 : decode code 201 = .ok (.aload_n 2, 1) := by decide +kernel
theorem d_La_law_202 : decode code 202 = .ok (.iconst 1, 1) := by decide +kernel
theorem d_La_law_203 : decode code 203 = .ok (.iaload, 1) := by decide +kernel
theorem d_La_law_204 : decode code 204 = .ok (.i2l, 1) := by decide +kernel
theorem d_La_law_205 : decode code 205 = .ok (.lrem, 1) := by decide +kernel
theorem d_La_law_206 : decode code 206 = .ok (.l2i, 1) := by decide +kernel
theorem d_La_law_207 : decode code 207 = .ok (.istore 14, 2) := by decide +kernel
theorem d_La_law_209 : decode code 209 = .ok (.ldc2_w 96, 3) := by decide +kernel
theorem d_La_law_212 : decode code 212 = .ok (.lload 10, 2) := by decide +kernel
theorem d_La_law_214 : decode code 214 = .ok (.lmul, 1) := by decide +kernel
theorem d_La_law_215 : decode code 215 = .ok (.ldc2_w 98, 3) := by decide +kernel
theorem d_La_law_218 : decode code 218 = .ok (.ladd, 1) := by decide +kernel
theorem d_La_law_219 : decode code 219 = .ok (.ldc2_w 100, 3) := by decide +kernel
theorem d_La_law_222 : decode code 222 = .ok (.lrem, 1) := by decide +kernel
theorem d_La_law_223 : decode code 223 = .ok (.lstore 10, 2) := by decide +kernel
theorem d_La_law_225 : decode code 225 = .ok (.lload 10, 2) := by decide +kernel
theorem d_La_law_227 : decode code 227 = .ok (.ldc2_w 102, 3) := by decide +kernel
theorem d_La_law_230 : decode code 230 = .ok (.ldiv, 1) := by decide +kernel
theorem d_La_law_231 : decode code 231 = .ok (.aload_n 2, 1) := by decide +kernel
theorem d_La_law_232 : decode code 232 = .ok (.iconst 0, 1) := by decide +kernel
theorem d_La_law_233 : decode code 233 = .ok (.iaload, 1) := by decide +kernel
theorem d_La_law_234 : decode code 234 = .ok (.i2l, 1) := by decide +kernel
theorem d_La_law_235 : decode code 235 = .ok (.lrem, 1) := by decide +kernel
theorem d_La_law_236 : decode code 236 = .ok (.l2i, 1) := by decide +kernel
theorem d_La_law_237 : decode code 237 = .ok (.istore 15, 2) := by decide +kernel
theorem d_La_law_239 : decode code 239 = .ok (.aload_n 3, 1) := by decide +kernel
theorem d_La_law_240 : decode code 240 = .ok (.iload 14, 2) := by decide +kernel
theorem d_La_law_242 : decode code 242 = .ok (.iload 15, 2) := by decide +kernel
theorem d_La_law_244 : decode code 244 = .ok (.invokestatic 49, 3) := by decide +kernel
theorem d_La_law_247 : decode code 247 = .ok (.ifCond .eq 27, 3) := by decide +kernel
theorem d_La_law_250 : decode code 250 = .ok (.iload 12, 2) := by decide +kernel
theorem d_La_law_252 : decode code 252 = .ok (.aload_n 3, 1) := by decide +kernel
theorem d_La_law_253 : decode code 253 = .ok (.iload 14, 2) := by decide +kernel
theorem d_La_law_255 : decode code 255 = .ok (.iload 15, 2) := by decide +kernel
theorem d_La_law_257 : decode code 257 = .ok (.invokestatic 56, 3) := by decide +kernel
theorem d_La_law_260 : decode code 260 = .ok (.ifCond .lt 7, 3) := by decide +kernel
theorem d_La_law_263 : decode code 263 = .ok (.iconst 1, 1) := by decide +kernel
theorem d_La_law_264 : decode code 264 = .ok (.goto 4, 3) := by decide +kernel
theorem d_La_law_267 : decode code 267 = .ok (.iconst 0, 1) := by decide +kernel
theorem d_La_law_268 : decode code 268 = .ok (.iadd, 1) := by decide +kernel
theorem d_La_law_269 : decode code 269 = .ok (.istore 12, 2) := by decide +kernel
theorem d_La_law_271 : decode code 271 = .ok (.goto 7, 3) := by decide +kernel
theorem d_La_law_274 : decode code 274 = .ok (.aload_n 3, 1) := by decide +kernel
theorem d_La_law_275 : decode code 275 = .ok (.invokestatic 58, 3) := by decide +kernel
theorem d_La_law_278 : decode code 278 = .ok (.iinc 13 1, 3) := by decide +kernel
theorem d_La_law_281 : decode code 281 = .ok (.goto (-109), 3) := by decide +kernel
theorem d_La_law_284 : decode code 284 = .ok (.aload_n 1, 1) := by decide +kernel
theorem d_La_law_285 : decode code 285 = .ok (.iload 8, 2) := by decide +kernel
theorem d_La_law_287 : decode code 287 = .ok (.iload 9, 2) := by decide +kernel
theorem d_La_law_289 : decode code 289 = .ok (.iconst 0, 1) := by decide +kernel
theorem d_La_law_290 : decode code 290 = .ok (.invokevirtual 104, 3) := by decide +kernel
theorem d_La_law_293 : decode code 293 = .ok (.iload 12, 2) := by decide +kernel
theorem d_La_law_295 : decode code 295 = .ok (.if_icmp .ne 39, 3) := by decide +kernel
theorem d_La_law_298 : decode code 298 = .ok (.aload_n 1, 1) := by decide +kernel
theorem d_La_law_299 : decode code 299 = .ok (.iload 8, 2) := by decide +kernel
theorem d_La_law_301 : decode code 301 = .ok (.iload 9, 2) := by decide +kernel
theorem d_La_law_303 : decode code 303 = .ok (.iconst 1, 1) := by decide +kernel
theorem d_La_law_304 : decode code 304 = .ok (.invokevirtual 104, 3) := by decide +kernel
theorem d_La_law_307 : decode code 307 = .ok (.aload_n 3, 1) := by decide +kernel
theorem d_La_law_308 : decode code 308 = .ok (.aload_n 3, 1) := by decide +kernel
theorem d_La_law_309 : decode code 309 = .ok (.invokestatic 35, 3) := by decide +kernel
theorem d_La_law_312 : decode code 312 = .ok (.invokestatic 74, 3) := by decide +kernel
theorem d_La_law_315 : decode code 315 = .ok (.if_icmp .ne 19, 3) := by decide +kernel
theorem d_La_law_318 : decode code 318 = .ok (.aload_n 1, 1) := by decide +kernel
theorem d_La_law_319 : decode code 319 = .ok (.iload 8, 2) := by decide +kernel
theorem d_La_law_321 : decode code 321 = .ok (.iload 9, 2) := by decide +kernel
theorem d_La_law_323 : decode code 323 = .ok (.iconst 2, 1) := by decide +kernel
theorem d_La_law_324 : decode code 324 = .ok (.invokevirtual 104, 3) := by decide +kernel
theorem d_La_law_327 : decode code 327 = .ok (.i2l, 1) := by decide +kernel
theorem d_La_law_328 : decode code 328 = .ok (.lload 10, 2) := by decide +kernel
theorem d_La_law_330 : decode code 330 = .ok (.lcmp, 1) := by decide +kernel
theorem d_La_law_331 : decode code 331 = .ok (.ifCond .eq 5, 3) := by decide +kernel
theorem d_La_law_334 : decode code 334 = .ok (.iconst 0, 1) := by decide +kernel
theorem d_La_law_335 : decode code 335 = .ok (.ireturn, 1) := by decide +kernel
theorem d_La_law_336 : decode code 336 = .ok (.iinc 6 1, 3) := by decide +kernel
theorem d_La_law_339 : decode code 339 = .ok (.goto (-262), 3) := by decide +kernel
theorem d_La_law_342 : decode code 342 = .ok (.aload_n 2, 1) := by decide +kernel
theorem d_La_law_343 : decode code 343 = .ok (.iconst 1, 1) := by decide +kernel
theorem d_La_law_344 : decode code 344 = .ok (.iaload, 1) := by decide +kernel
theorem d_La_law_345 : decode code 345 = .ok (.istore 6, 2) := by decide +kernel
theorem d_La_law_347 : decode code 347 = .ok (.aload_n 2, 1) := by decide +kernel
theorem d_La_law_348 : decode code 348 = .ok (.iconst 0, 1) := by decide +kernel
theorem d_La_law_349 : decode code 349 = .ok (.iaload, 1) := by decide +kernel
theorem d_La_law_350 : decode code 350 = .ok (.istore 7, 2) := by decide +kernel
theorem d_La_law_352 : decode code 352 = .ok (.aload_n 1, 1) := by decide +kernel
theorem d_La_law_353 : decode code 353 = .ok (.iload 7, 2) := by decide +kernel
theorem d_La_law_355 : decode code 355 = .ok (.iconst 0, 1) := by decide +kernel
theorem d_La_law_356 : decode code 356 = .ok (.invokevirtual 107, 3) := by decide +kernel
theorem d_La_law_359 : decode code 359 = .ok (.bipush (-101), 2) := by decide +kernel
theorem d_La_law_361 : decode code 361 = .ok (.if_icmp .ne 229, 3) := by decide +kernel
theorem d_La_law_364 : decode code 364 = .ok (.aload_n 1, 1) := by decide +kernel
theorem d_La_law_365 : decode code 365 = .ok (.iconst 0, 1) := by decide +kernel
theorem d_La_law_366 : decode code 366 = .ok (.iconst 3, 1) := by decide +kernel
theorem d_La_law_367 : decode code 367 = .ok (.invokevirtual 107, 3) := by decide +kernel
theorem d_La_law_370 : decode code 370 = .ok (.bipush (-102), 2) := by decide +kernel
theorem d_La_law_372 : decode code 372 = .ok (.if_icmp .ne 218, 3) := by decide +kernel
theorem d_La_law_375 : decode code 375 = .ok (.aload_n 1, 1) := by decide +kernel
theorem d_La_law_376 : decode code 376 = .ok (.iconst (-1), 1) := by decide +kernel
theorem d_La_law_377 : decode code 377 = .ok (.iconst 0, 1) := by decide +kernel
theorem d_La_law_378 : decode code 378 = .ok (.invokevirtual 107, 3) := by decide +kernel
theorem d_La_law_381 : decode code 381 = .ok (.bipush (-101), 2) := by decide +kernel
theorem d_La_law_383 : decode code 383 = .ok (.if_icmp .ne 207, 3) := by decide +kernel
theorem d_La_law_386 : decode code 386 = .ok (.aload_n 1, 1) := by decide +kernel
theorem d_La_law_387 : decode code 387 = .ok (.iload 6, 2) := by decide +kernel
theorem d_La_law_389 : decode code 389 = .ok (.iconst 0, 1) := by decide +kernel
theorem d_La_law_390 : decode code 390 = .ok (.invokevirtual 110, 3) := by decide +kernel
theorem d_La_law_393 : decode code 393 = .ok (.bipush (-101), 2) := by decide +kernel
theorem d_La_law_395 : decode code 395 = .ok (.if_icmp .ne 195, 3) := by decide +kernel
theorem d_La_law_398 : decode code 398 = .ok (.aload_n 1, 1) := by decide +kernel
theorem d_La_law_399 : decode code 399 = .ok (.iconst 0, 1) := by decide +kernel
theorem d_La_law_400 : decode code 400 = .ok (.bipush 10, 2) := by decide +kernel
theorem d_La_law_402 : decode code 402 = .ok (.invokevirtual 110, 3) := by decide +kernel
theorem d_La_law_405 : decode code 405 = .ok (.bipush (-102), 2) := by decide +kernel
theorem d_La_law_407 : decode code 407 = .ok (.if_icmp .ne 183, 3) := by decide +kernel
theorem d_La_law_410 : decode code 410 = .ok (.aload_n 1, 1) := by decide +kernel
theorem d_La_law_411 : decode code 411 = .ok (.iload 6, 2) := by decide +kernel
theorem d_La_law_413 : decode code 413 = .ok (.iconst 0, 1) := by decide +kernel
theorem d_La_law_414 : decode code 414 = .ok (.invokevirtual 113, 3) := by decide +kernel
theorem d_La_law_417 : decode code 417 = .ok (.bipush (-101), 2) := by decide +kernel
theorem d_La_law_419 : decode code 419 = .ok (.if_icmp .ne 171, 3) := by decide +kernel
theorem d_La_law_422 : decode code 422 = .ok (.aload_n 1, 1) := by decide +kernel
theorem d_La_law_423 : decode code 423 = .ok (.iconst 0, 1) := by decide +kernel
theorem d_La_law_424 : decode code 424 = .ok (.iconst 5, 1) := by decide +kernel
theorem d_La_law_425 : decode code 425 = .ok (.invokevirtual 113, 3) := by decide +kernel
theorem d_La_law_428 : decode code 428 = .ok (.bipush (-102), 2) := by decide +kernel
theorem d_La_law_430 : decode code 430 = .ok (.if_icmp .ne 160, 3) := by decide +kernel
theorem d_La_law_433 : decode code 433 = .ok (.aload_n 1, 1) := by decide +kernel
theorem d_La_law_434 : decode code 434 = .ok (.iload 6, 2) := by decide +kernel
theorem d_La_law_436 : decode code 436 = .ok (.iconst 0, 1) := by decide +kernel
theorem d_La_law_437 : decode code 437 = .ok (.invokevirtual 52, 3) := by decide +kernel
theorem d_La_law_440 : decode code 440 = .ok (.bipush (-101), 2) := by decide +kernel
theorem d_La_law_442 : decode code 442 = .ok (.if_icmp .ne 148, 3) := by decide +kernel
theorem d_La_law_445 : decode code 445 = .ok (.aload_n 1, 1) := by decide +kernel
theorem d_La_law_446 : decode code 446 = .ok (.iconst 0, 1) := by decide +kernel
theorem d_La_law_447 : decode code 447 = .ok (.iload 7, 2) := by decide +kernel
theorem d_La_law_449 : decode code 449 = .ok (.invokevirtual 52, 3) := by decide +kernel
theorem d_La_law_452 : decode code 452 = .ok (.bipush (-101), 2) := by decide +kernel
theorem d_La_law_454 : decode code 454 = .ok (.if_icmp .ne 136, 3) := by decide +kernel
theorem d_La_law_457 : decode code 457 = .ok (.aload_n 1, 1) := by decide +kernel
theorem d_La_law_458 : decode code 458 = .ok (.iload 7, 2) := by decide +kernel
theorem d_La_law_460 : decode code 460 = .ok (.iconst 0, 1) := by decide +kernel
theorem d_La_law_461 : decode code 461 = .ok (.invokevirtual 64, 3) := by decide +kernel
theorem d_La_law_464 : decode code 464 = .ok (.bipush (-101), 2) := by decide +kernel
theorem d_La_law_466 : decode code 466 = .ok (.if_icmp .ne 124, 3) := by decide +kernel
theorem d_La_law_469 : decode code 469 = .ok (.aload_n 1, 1) := by decide +kernel
theorem d_La_law_470 : decode code 470 = .ok (.iconst 0, 1) := by decide +kernel
theorem d_La_law_471 : decode code 471 = .ok (.bipush 10, 2) := by decide +kernel
theorem d_La_law_473 : decode code 473 = .ok (.invokevirtual 64, 3) := by decide +kernel
theorem d_La_law_476 : decode code 476 = .ok (.bipush (-102), 2) := by decide +kernel
theorem d_La_law_478 : decode code 478 = .ok (.if_icmp .ne 112, 3) := by decide +kernel
theorem d_La_law_481 : decode code 481 = .ok (.aload_n 1, 1) := by decide +kernel
theorem d_La_law_482 : decode code 482 = .ok (.iconst 0, 1) := by decide +kernel
theorem d_La_law_483 : decode code 483 = .ok (.iconst (-1), 1) := by decide +kernel
theorem d_La_law_484 : decode code 484 = .ok (.invokevirtual 64, 3) := by decide +kernel
theorem d_La_law_487 : decode code 487 = .ok (.bipush (-102), 2) := by decide +kernel
theorem d_La_law_489 : decode code 489 = .ok (.if_icmp .ne 101, 3) := by decide +kernel
theorem d_La_law_492 : decode code 492 = .ok (.aload_n 1, 1) := by decide +kernel
theorem d_La_law_493 : decode code 493 = .ok (.iload 6, 2) := by decide +kernel
theorem d_La_law_495 : decode code 495 = .ok (.iconst 1, 1) := by decide +kernel
theorem d_La_law_496 : decode code 496 = .ok (.iconst 1, 1) := by decide +kernel
theorem d_La_law_497 : decode code 497 = .ok (.invokevirtual 67, 3) := by decide +kernel
theorem d_La_law_500 : decode code 500 = .ok (.bipush (-101), 2) := by decide +kernel
theorem d_La_law_502 : decode code 502 = .ok (.if_icmp .ne 88, 3) := by decide +kernel
theorem d_La_law_505 : decode code 505 = .ok (.aload_n 1, 1) := by decide +kernel
theorem d_La_law_506 : decode code 506 = .ok (.iconst 0, 1) := by decide +kernel
theorem d_La_law_507 : decode code 507 = .ok (.iconst 0, 1) := by decide +kernel
theorem d_La_law_508 : decode code 508 = .ok (.iconst 1, 1) := by decide +kernel
theorem d_La_law_509 : decode code 509 = .ok (.invokevirtual 67, 3) := by decide +kernel
theorem d_La_law_512 : decode code 512 = .ok (.bipush (-102), 2) := by decide +kernel
theorem d_La_law_514 : decode code 514 = .ok (.if_icmp .ne 76, 3) := by decide +kernel
theorem d_La_law_517 : decode code 517 = .ok (.aload_n 1, 1) := by decide +kernel
theorem d_La_law_518 : decode code 518 = .ok (.iconst 0, 1) := by decide +kernel
theorem d_La_law_519 : decode code 519 = .ok (.iconst 1, 1) := by decide +kernel
theorem d_La_law_520 : decode code 520 = .ok (.bipush 10, 2) := by decide +kernel
theorem d_La_law_522 : decode code 522 = .ok (.invokevirtual 67, 3) := by decide +kernel
theorem d_La_law_525 : decode code 525 = .ok (.bipush (-102), 2) := by decide +kernel
theorem d_La_law_527 : decode code 527 = .ok (.if_icmp .ne 63, 3) := by decide +kernel
theorem d_La_law_530 : decode code 530 = .ok (.aload_n 1, 1) := by decide +kernel
theorem d_La_law_531 : decode code 531 = .ok (.iload 6, 2) := by decide +kernel
theorem d_La_law_533 : decode code 533 = .ok (.invokevirtual 71, 3) := by decide +kernel
theorem d_La_law_536 : decode code 536 = .ok (.bipush (-101), 2) := by decide +kernel
theorem d_La_law_538 : decode code 538 = .ok (.if_icmp .ne 52, 3) := by decide +kernel
theorem d_La_law_541 : decode code 541 = .ok (.aload_n 1, 1) := by decide +kernel
theorem d_La_law_542 : decode code 542 = .ok (.iconst 0, 1) := by decide +kernel
theorem d_La_law_543 : decode code 543 = .ok (.iconst 1, 1) := by decide +kernel
theorem d_La_law_544 : decode code 544 = .ok (.iconst 0, 1) := by decide +kernel
theorem d_La_law_545 : decode code 545 = .ok (.invokevirtual 104, 3) := by decide +kernel
theorem d_La_law_548 : decode code 548 = .ok (.bipush (-102), 2) := by decide +kernel
theorem d_La_law_550 : decode code 550 = .ok (.if_icmp .ne 40, 3) := by decide +kernel
theorem d_La_law_553 : decode code 553 = .ok (.aload_n 1, 1) := by decide +kernel
theorem d_La_law_554 : decode code 554 = .ok (.bipush 61, 2) := by decide +kernel
theorem d_La_law_556 : decode code 556 = .ok (.iconst 1, 1) := by decide +kernel
theorem d_La_law_557 : decode code 557 = .ok (.iconst 0, 1) := by decide +kernel
theorem d_La_law_558 : decode code 558 = .ok (.invokevirtual 104, 3) := by decide +kernel
theorem d_La_law_561 : decode code 561 = .ok (.bipush (-102), 2) := by decide +kernel
theorem d_La_law_563 : decode code 563 = .ok (.if_icmp .ne 27, 3) := by decide +kernel
theorem d_La_law_566 : decode code 566 = .ok (.aload_n 1, 1) := by decide +kernel
theorem d_La_law_567 : decode code 567 = .ok (.iconst 1, 1) := by decide +kernel
theorem d_La_law_568 : decode code 568 = .ok (.iconst (-1), 1) := by decide +kernel
theorem d_La_law_569 : decode code 569 = .ok (.iconst 0, 1) := by decide +kernel
theorem d_La_law_570 : decode code 570 = .ok (.invokevirtual 104, 3) := by decide +kernel
theorem d_La_law_573 : decode code 573 = .ok (.bipush (-102), 2) := by decide +kernel
theorem d_La_law_575 : decode code 575 = .ok (.if_icmp .ne 15, 3) := by decide +kernel
theorem d_La_law_578 : decode code 578 = .ok (.aload_n 1, 1) := by decide +kernel
theorem d_La_law_579 : decode code 579 = .ok (.iconst 1, 1) := by decide +kernel
theorem d_La_law_580 : decode code 580 = .ok (.iconst 1, 1) := by decide +kernel
theorem d_La_law_581 : decode code 581 = .ok (.iconst 3, 1) := by decide +kernel
theorem d_La_law_582 : decode code 582 = .ok (.invokevirtual 104, 3) := by decide +kernel
theorem d_La_law_585 : decode code 585 = .ok (.bipush (-102), 2) := by decide +kernel
theorem d_La_law_587 : decode code 587 = .ok (.if_icmp .eq 5, 3) := by decide +kernel
theorem d_La_law_590 : decode code 590 = .ok (.iconst 0, 1) := by decide +kernel
theorem d_La_law_591 : decode code 591 = .ok (.ireturn, 1) := by decide +kernel
theorem d_La_law_592 : decode code 592 = .ok (.iinc 4 1, 3) := by decide +kernel
theorem d_La_law_595 : decode code 595 = .ok (.goto (-574), 3) := by decide +kernel
theorem d_La_law_598 : decode code 598 = .ok (.iconst 1, 1) := by decide +kernel
theorem d_La_law_599 : decode code 599 = .ok (.ireturn, 1) := by decide +kernel
