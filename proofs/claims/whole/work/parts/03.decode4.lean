theorem dX9_throwing_112 : decode cX9_throwing 112 = .ok (.iaload, 1) := by decide +kernel
theorem dX9_throwing_113 : decode cX9_throwing 113 = .ok (.iadd, 1) := by decide +kernel
theorem dX9_throwing_114 : decode cX9_throwing 114 = .ok (.iastore, 1) := by decide +kernel
theorem dX9_throwing_115 : decode cX9_throwing 115 = .ok (.return_, 1) := by decide +kernel
theorem dX9_reckon_0 : decode cX9_reckon 0 = .ok (.aload_n 0, 1) := by decide +kernel
theorem dX9_reckon_1 : decode cX9_reckon 1 = .ok (.getfield 35, 3) := by decide +kernel
theorem dX9_reckon_4 : decode cX9_reckon 4 = .ok (.iconst 0, 1) := by decide +kernel
theorem dX9_reckon_5 : decode cX9_reckon 5 = .ok (.iaload, 1) := by decide +kernel
theorem dX9_reckon_6 : decode cX9_reckon 6 = .ok (.istore_n 3, 1) := by decide +kernel
theorem dX9_reckon_7 : decode cX9_reckon 7 = .ok (.aload_n 0, 1) := by decide +kernel
theorem dX9_reckon_8 : decode cX9_reckon 8 = .ok (.getfield 127, 3) := by decide +kernel
theorem dX9_reckon_11 : decode cX9_reckon 11 = .ok (.tableswitch 52 2 4 #[25, 34, 43], 25) := by decide +kernel
theorem dX9_reckon_36 : decode cX9_reckon 36 = .ok (.aload_n 0, 1) := by decide +kernel
theorem dX9_reckon_37 : decode cX9_reckon 37 = .ok (.iload_n 3, 1) := by decide +kernel
theorem dX9_reckon_38 : decode cX9_reckon 38 = .ok (.iload_n 1, 1) := by decide +kernel
theorem dX9_reckon_39 : decode cX9_reckon 39 = .ok (.iload_n 2, 1) := by decide +kernel
theorem dX9_reckon_40 : decode cX9_reckon 40 = .ok (.iadd, 1) := by decide +kernel
theorem dX9_reckon_41 : decode cX9_reckon 41 = .ok (.invokevirtual 183, 3) := by decide +kernel
theorem dX9_reckon_44 : decode cX9_reckon 44 = .ok (.return_, 1) := by decide +kernel
theorem dX9_reckon_45 : decode cX9_reckon 45 = .ok (.aload_n 0, 1) := by decide +kernel
theorem dX9_reckon_46 : decode cX9_reckon 46 = .ok (.iload_n 3, 1) := by decide +kernel
theorem dX9_reckon_47 : decode cX9_reckon 47 = .ok (.iload_n 1, 1) := by decide +kernel
theorem dX9_reckon_48 : decode cX9_reckon 48 = .ok (.iload_n 2, 1) := by decide +kernel
theorem dX9_reckon_49 : decode cX9_reckon 49 = .ok (.isub, 1) := by decide +kernel
theorem dX9_reckon_50 : decode cX9_reckon 50 = .ok (.invokevirtual 183, 3) := by decide +kernel
theorem dX9_reckon_53 : decode cX9_reckon 53 = .ok (.return_, 1) := by decide +kernel
theorem dX9_reckon_54 : decode cX9_reckon 54 = .ok (.aload_n 0, 1) := by decide +kernel
theorem dX9_reckon_55 : decode cX9_reckon 55 = .ok (.iload_n 3, 1) := by decide +kernel
theorem dX9_reckon_56 : decode cX9_reckon 56 = .ok (.iload_n 1, 1) := by decide +kernel
theorem dX9_reckon_57 : decode cX9_reckon 57 = .ok (.iload_n 2, 1) := by decide +kernel
theorem dX9_reckon_58 : decode cX9_reckon 58 = .ok (.imul, 1) := by decide +kernel
theorem dX9_reckon_59 : decode cX9_reckon 59 = .ok (.invokevirtual 183, 3) := by decide +kernel
theorem dX9_reckon_62 : decode cX9_reckon 62 = .ok (.return_, 1) := by decide +kernel
theorem dX9_reckon_63 : decode cX9_reckon 63 = .ok (.iload_n 2, 1) := by decide +kernel
theorem dX9_reckon_64 : decode cX9_reckon 64 = .ok (.ifCond .ne 11, 3) := by decide +kernel
theorem dX9_reckon_67 : decode cX9_reckon 67 = .ok (.aload_n 0, 1) := by decide +kernel
theorem dX9_reckon_68 : decode cX9_reckon 68 = .ok (.iconst 2, 1) := by decide +kernel
theorem dX9_reckon_69 : decode cX9_reckon 69 = .ok (.invokevirtual 167, 3) := by decide +kernel
theorem dX9_reckon_72 : decode cX9_reckon 72 = .ok (.goto 25, 3) := by decide +kernel
theorem dX9_reckon_75 : decode cX9_reckon 75 = .ok (.aload_n 0, 1) := by decide +kernel
theorem dX9_reckon_76 : decode cX9_reckon 76 = .ok (.iload_n 3, 1) := by decide +kernel
theorem dX9_reckon_77 : decode cX9_reckon 77 = .ok (.aload_n 0, 1) := by decide +kernel
theorem dX9_reckon_78 : decode cX9_reckon 78 = .ok (.getfield 127, 3) := by decide +kernel
theorem dX9_reckon_81 : decode cX9_reckon 81 = .ok (.iconst 5, 1) := by decide +kernel
theorem dX9_reckon_82 : decode cX9_reckon 82 = .ok (.if_icmp .ne 9, 3) := by decide +kernel
theorem dX9_reckon_85 : decode cX9_reckon 85 = .ok (.iload_n 1, 1) := by decide +kernel
theorem dX9_reckon_86 : decode cX9_reckon 86 = .ok (.iload_n 2, 1) := by decide +kernel
theorem dX9_reckon_87 : decode cX9_reckon 87 = .ok (.idiv, 1) := by decide +kernel
theorem dX9_reckon_88 : decode cX9_reckon 88 = .ok (.goto 6, 3) := by decide +kernel
theorem dX9_reckon_91 : decode cX9_reckon 91 = .ok (.iload_n 1, 1) := by decide +kernel
theorem dX9_reckon_92 : decode cX9_reckon 92 = .ok (.iload_n 2, 1) := by decide +kernel
theorem dX9_reckon_93 : decode cX9_reckon 93 = .ok (.irem, 1) := by decide +kernel
theorem dX9_reckon_94 : decode cX9_reckon 94 = .ok (.invokevirtual 183, 3) := by decide +kernel
theorem dX9_reckon_97 : decode cX9_reckon 97 = .ok (.return_, 1) := by decide +kernel
theorem dX9_jump_0 : decode cX9_jump 0 = .ok (.iload_n 1, 1) := by decide +kernel
theorem dX9_jump_1 : decode cX9_jump 1 = .ok (.ifCond .eq 27, 3) := by decide +kernel
theorem dX9_jump_4 : decode cX9_jump 4 = .ok (.aload_n 0, 1) := by decide +kernel
theorem dX9_jump_5 : decode cX9_jump 5 = .ok (.getfield 47, 3) := by decide +kernel
theorem dX9_jump_8 : decode cX9_jump 8 = .ok (.aload_n 0, 1) := by decide +kernel
theorem dX9_jump_9 : decode cX9_jump 9 = .ok (.getfield 161, 3) := by decide +kernel
theorem dX9_jump_12 : decode cX9_jump 12 = .ok (.iconst 1, 1) := by decide +kernel
theorem dX9_jump_13 : decode cX9_jump 13 = .ok (.isub, 1) := by decide +kernel
theorem dX9_jump_14 : decode cX9_jump 14 = .ok (.aload_n 0, 1) := by decide +kernel
theorem dX9_jump_15 : decode cX9_jump 15 = .ok (.getfield 44, 3) := by decide +kernel
theorem dX9_jump_18 : decode cX9_jump 18 = .ok (.aload_n 0, 1) := by decide +kernel
theorem dX9_jump_19 : decode cX9_jump 19 = .ok (.getfield 161, 3) := by decide +kernel
theorem dX9_jump_22 : decode cX9_jump 22 = .ok (.iconst 1, 1) := by decide +kernel
theorem dX9_jump_23 : decode cX9_jump 23 = .ok (.isub, 1) := by decide +kernel
theorem dX9_jump_24 : decode cX9_jump 24 = .ok (.iaload, 1) := by decide +kernel
theorem dX9_jump_25 : decode cX9_jump 25 = .ok (.iload_n 2, 1) := by decide +kernel
theorem dX9_jump_26 : decode cX9_jump 26 = .ok (.iadd, 1) := by decide +kernel
theorem dX9_jump_27 : decode cX9_jump 27 = .ok (.iastore, 1) := by decide +kernel
theorem dX9_jump_28 : decode cX9_jump 28 = .ok (.return_, 1) := by decide +kernel
theorem dX9_doIt_0 : decode cX9_doIt 0 = .ok (.aload_n 0, 1) := by decide +kernel
theorem dX9_doIt_1 : decode cX9_doIt 1 = .ok (.getfield 124, 3) := by decide +kernel
theorem dX9_doIt_4 : decode cX9_doIt 4 = .ok (.ifCond .le 28, 3) := by decide +kernel
theorem dX9_doIt_7 : decode cX9_doIt 7 = .ok (.aload_n 0, 1) := by decide +kernel
theorem dX9_doIt_8 : decode cX9_doIt 8 = .ok (.getfield 35, 3) := by decide +kernel
theorem dX9_doIt_11 : decode cX9_doIt 11 = .ok (.iconst 0, 1) := by decide +kernel
theorem dX9_doIt_12 : decode cX9_doIt 12 = .ok (.iaload, 1) := by decide +kernel
theorem dX9_doIt_13 : decode cX9_doIt 13 = .ok (.sipush 144, 3) := by decide +kernel
theorem dX9_doIt_16 : decode cX9_doIt 16 = .ok (.if_icmp .ge 16, 3) := by decide +kernel
theorem dX9_doIt_19 : decode cX9_doIt 19 = .ok (.aload_n 0, 1) := by decide +kernel
theorem dX9_doIt_20 : decode cX9_doIt 20 = .ok (.aload_n 0, 1) := by decide +kernel
theorem dX9_doIt_21 : decode cX9_doIt 21 = .ok (.getfield 35, 3) := by decide +kernel
theorem dX9_doIt_24 : decode cX9_doIt 24 = .ok (.iconst 0, 1) := by decide +kernel
theorem dX9_doIt_25 : decode cX9_doIt 25 = .ok (.iaload, 1) := by decide +kernel
theorem dX9_doIt_26 : decode cX9_doIt 26 = .ok (.invokevirtual 205, 3) := by decide +kernel
theorem dX9_doIt_29 : decode cX9_doIt 29 = .ok (.goto 4, 3) := by decide +kernel
theorem dX9_doIt_32 : decode cX9_doIt 32 = .ok (.iconst 0, 1) := by decide +kernel
theorem dX9_doIt_33 : decode cX9_doIt 33 = .ok (.istore_n 1, 1) := by decide +kernel
theorem dX9_doIt_34 : decode cX9_doIt 34 = .ok (.aload_n 0, 1) := by decide +kernel
theorem dX9_doIt_35 : decode cX9_doIt 35 = .ok (.getfield 124, 3) := by decide +kernel
theorem dX9_doIt_38 : decode cX9_doIt 38 = .ok (.iconst 1, 1) := by decide +kernel
theorem dX9_doIt_39 : decode cX9_doIt 39 = .ok (.if_icmp .le 28, 3) := by decide +kernel
theorem dX9_doIt_42 : decode cX9_doIt 42 = .ok (.aload_n 0, 1) := by decide +kernel
theorem dX9_doIt_43 : decode cX9_doIt 43 = .ok (.getfield 35, 3) := by decide +kernel
theorem dX9_doIt_46 : decode cX9_doIt 46 = .ok (.iconst 1, 1) := by decide +kernel
theorem dX9_doIt_47 : decode cX9_doIt 47 = .ok (.iaload, 1) := by decide +kernel
theorem dX9_doIt_48 : decode cX9_doIt 48 = .ok (.sipush 144, 3) := by decide +kernel
theorem dX9_doIt_51 : decode cX9_doIt 51 = .ok (.if_icmp .ge 16, 3) := by decide +kernel
theorem dX9_doIt_54 : decode cX9_doIt 54 = .ok (.aload_n 0, 1) := by decide +kernel
theorem dX9_doIt_55 : decode cX9_doIt 55 = .ok (.aload_n 0, 1) := by decide +kernel
theorem dX9_doIt_56 : decode cX9_doIt 56 = .ok (.getfield 35, 3) := by decide +kernel
theorem dX9_doIt_59 : decode cX9_doIt 59 = .ok (.iconst 1, 1) := by decide +kernel
theorem dX9_doIt_60 : decode cX9_doIt 60 = .ok (.iaload, 1) := by decide +kernel
theorem dX9_doIt_61 : decode cX9_doIt 61 = .ok (.invokevirtual 205, 3) := by decide +kernel
theorem dX9_doIt_64 : decode cX9_doIt 64 = .ok (.goto 4, 3) := by decide +kernel
theorem dX9_doIt_67 : decode cX9_doIt 67 = .ok (.iconst 0, 1) := by decide +kernel
theorem dX9_doIt_68 : decode cX9_doIt 68 = .ok (.istore_n 2, 1) := by decide +kernel
theorem dX9_doIt_69 : decode cX9_doIt 69 = .ok (.aload_n 0, 1) := by decide +kernel
theorem dX9_doIt_70 : decode cX9_doIt 70 = .ok (.getfield 127, 3) := by decide +kernel
theorem dX9_doIt_73 : decode cX9_doIt 73 = .ok (.tableswitch 311 0 15 #[79, 85, 311, 311, 311, 311, 311, 97, 130, 154, 166, 187, 208, 281, 287, 305], 79) := by decide +kernel
theorem dX9_doIt_152 : decode cX9_doIt 152 = .ok (.aload_n 0, 1) := by decide +kernel
theorem dX9_doIt_153 : decode cX9_doIt 153 = .ok (.iload_n 1, 1) := by decide +kernel
theorem dX9_doIt_154 : decode cX9_doIt 154 = .ok (.invokevirtual 208, 3) := by decide +kernel
theorem dX9_doIt_157 : decode cX9_doIt 157 = .ok (.return_, 1) := by decide +kernel
theorem dX9_doIt_158 : decode cX9_doIt 158 = .ok (.aload_n 0, 1) := by decide +kernel
theorem dX9_doIt_159 : decode cX9_doIt 159 = .ok (.aload_n 0, 1) := by decide +kernel
theorem dX9_doIt_160 : decode cX9_doIt 160 = .ok (.getfield 35, 3) := by decide +kernel
theorem dX9_doIt_163 : decode cX9_doIt 163 = .ok (.iconst 0, 1) := by decide +kernel
theorem dX9_doIt_164 : decode cX9_doIt 164 = .ok (.iaload, 1) := by decide +kernel
theorem dX9_doIt_165 : decode cX9_doIt 165 = .ok (.iload_n 2, 1) := by decide +kernel
theorem dX9_doIt_166 : decode cX9_doIt 166 = .ok (.invokevirtual 183, 3) := by decide +kernel
theorem dX9_doIt_169 : decode cX9_doIt 169 = .ok (.return_, 1) := by decide +kernel
theorem dX9_doIt_170 : decode cX9_doIt 170 = .ok (.aload_n 0, 1) := by decide +kernel
theorem dX9_doIt_171 : decode cX9_doIt 171 = .ok (.iload_n 2, 1) := by decide +kernel
theorem dX9_doIt_172 : decode cX9_doIt 172 = .ok (.invokevirtual 94, 3) := by decide +kernel
theorem dX9_doIt_175 : decode cX9_doIt 175 = .ok (.ifCond .eq 22, 3) := by decide +kernel
theorem dX9_doIt_178 : decode cX9_doIt 178 = .ok (.aload_n 0, 1) := by decide +kernel
theorem dX9_doIt_179 : decode cX9_doIt 179 = .ok (.aload_n 0, 1) := by decide +kernel
theorem dX9_doIt_180 : decode cX9_doIt 180 = .ok (.getfield 35, 3) := by decide +kernel
theorem dX9_doIt_183 : decode cX9_doIt 183 = .ok (.iconst 0, 1) := by decide +kernel
theorem dX9_doIt_184 : decode cX9_doIt 184 = .ok (.iaload, 1) := by decide +kernel
theorem dX9_doIt_185 : decode cX9_doIt 185 = .ok (.aload_n 0, 1) := by decide +kernel
theorem dX9_doIt_186 : decode cX9_doIt 186 = .ok (.getfield 7, 3) := by decide +kernel
theorem dX9_doIt_189 : decode cX9_doIt 189 = .ok (.iload_n 2, 1) := by decide +kernel
theorem dX9_doIt_190 : decode cX9_doIt 190 = .ok (.iaload, 1) := by decide +kernel
theorem dX9_doIt_191 : decode cX9_doIt 191 = .ok (.invokevirtual 183, 3) := by decide +kernel
theorem dX9_doIt_194 : decode cX9_doIt 194 = .ok (.goto 8, 3) := by decide +kernel
theorem dX9_doIt_197 : decode cX9_doIt 197 = .ok (.aload_n 0, 1) := by decide +kernel
theorem dX9_doIt_198 : decode cX9_doIt 198 = .ok (.iconst 1, 1) := by decide +kernel
theorem dX9_doIt_199 : decode cX9_doIt 199 = .ok (.invokevirtual 167, 3) := by decide +kernel
theorem dX9_doIt_202 : decode cX9_doIt 202 = .ok (.return_, 1) := by decide +kernel
theorem dX9_doIt_203 : decode cX9_doIt 203 = .ok (.aload_n 0, 1) := by decide +kernel
theorem dX9_doIt_204 : decode cX9_doIt 204 = .ok (.iload_n 1, 1) := by decide +kernel
theorem dX9_doIt_205 : decode cX9_doIt 205 = .ok (.invokevirtual 94, 3) := by decide +kernel
theorem dX9_doIt_208 : decode cX9_doIt 208 = .ok (.ifCond .eq 13, 3) := by decide +kernel
theorem dX9_doIt_211 : decode cX9_doIt 211 = .ok (.aload_n 0, 1) := by decide +kernel
theorem dX9_doIt_212 : decode cX9_doIt 212 = .ok (.iload_n 1, 1) := by decide +kernel
theorem dX9_doIt_213 : decode cX9_doIt 213 = .ok (.iload_n 2, 1) := by decide +kernel
theorem dX9_doIt_214 : decode cX9_doIt 214 = .ok (.invokevirtual 98, 3) := by decide +kernel
theorem dX9_doIt_217 : decode cX9_doIt 217 = .ok (.istore_n 3, 1) := by decide +kernel
theorem dX9_doIt_218 : decode cX9_doIt 218 = .ok (.goto 8, 3) := by decide +kernel
theorem dX9_doIt_221 : decode cX9_doIt 221 = .ok (.aload_n 0, 1) := by decide +kernel
theorem dX9_doIt_222 : decode cX9_doIt 222 = .ok (.iconst 1, 1) := by decide +kernel
theorem dX9_doIt_223 : decode cX9_doIt 223 = .ok (.invokevirtual 167, 3) := by decide +kernel
theorem dX9_doIt_226 : decode cX9_doIt 226 = .ok (.return_, 1) := by decide +kernel
theorem dX9_doIt_227 : decode cX9_doIt 227 = .ok (.aload_n 0, 1) := by decide +kernel
theorem dX9_doIt_228 : decode cX9_doIt 228 = .ok (.iconst 1, 1) := by decide +kernel
theorem dX9_doIt_229 : decode cX9_doIt 229 = .ok (.aload_n 0, 1) := by decide +kernel
theorem dX9_doIt_230 : decode cX9_doIt 230 = .ok (.getfield 35, 3) := by decide +kernel
theorem dX9_doIt_233 : decode cX9_doIt 233 = .ok (.iconst 0, 1) := by decide +kernel
theorem dX9_doIt_234 : decode cX9_doIt 234 = .ok (.iaload, 1) := by decide +kernel
theorem dX9_doIt_235 : decode cX9_doIt 235 = .ok (.invokevirtual 211, 3) := by decide +kernel
theorem dX9_doIt_238 : decode cX9_doIt 238 = .ok (.return_, 1) := by decide +kernel
theorem dX9_doIt_239 : decode cX9_doIt 239 = .ok (.aload_n 0, 1) := by decide +kernel
theorem dX9_doIt_240 : decode cX9_doIt 240 = .ok (.iload_n 1, 1) := by decide +kernel
theorem dX9_doIt_241 : decode cX9_doIt 241 = .ok (.iload_n 2, 1) := by decide +kernel
theorem dX9_doIt_242 : decode cX9_doIt 242 = .ok (.if_icmp .ge 7, 3) := by decide +kernel
theorem dX9_doIt_245 : decode cX9_doIt 245 = .ok (.iconst 1, 1) := by decide +kernel
theorem dX9_doIt_246 : decode cX9_doIt 246 = .ok (.goto 4, 3) := by decide +kernel
theorem dX9_doIt_249 : decode cX9_doIt 249 = .ok (.iconst 0, 1) := by decide +kernel
theorem dX9_doIt_250 : decode cX9_doIt 250 = .ok (.aload_n 0, 1) := by decide +kernel
theorem dX9_doIt_251 : decode cX9_doIt 251 = .ok (.getfield 35, 3) := by decide +kernel
theorem dX9_doIt_254 : decode cX9_doIt 254 = .ok (.iconst 2, 1) := by decide +kernel
theorem dX9_doIt_255 : decode cX9_doIt 255 = .ok (.iaload, 1) := by decide +kernel
theorem dX9_doIt_256 : decode cX9_doIt 256 = .ok (.invokevirtual 211, 3) := by decide +kernel
theorem dX9_doIt_259 : decode cX9_doIt 259 = .ok (.return_, 1) := by decide +kernel
theorem dX9_doIt_260 : decode cX9_doIt 260 = .ok (.aload_n 0, 1) := by decide +kernel
theorem dX9_doIt_261 : decode cX9_doIt 261 = .ok (.iload_n 1, 1) := by decide +kernel
theorem dX9_doIt_262 : decode cX9_doIt 262 = .ok (.iload_n 2, 1) := by decide +kernel
theorem dX9_doIt_263 : decode cX9_doIt 263 = .ok (.if_icmp .ne 7, 3) := by decide +kernel
theorem dX9_doIt_266 : decode cX9_doIt 266 = .ok (.iconst 1, 1) := by decide +kernel
theorem dX9_doIt_267 : decode cX9_doIt 267 = .ok (.goto 4, 3) := by decide +kernel
theorem dX9_doIt_270 : decode cX9_doIt 270 = .ok (.iconst 0, 1) := by decide +kernel
theorem dX9_doIt_271 : decode cX9_doIt 271 = .ok (.aload_n 0, 1) := by decide +kernel
theorem dX9_doIt_272 : decode cX9_doIt 272 = .ok (.getfield 35, 3) := by decide +kernel
theorem dX9_doIt_275 : decode cX9_doIt 275 = .ok (.iconst 2, 1) := by decide +kernel
theorem dX9_doIt_276 : decode cX9_doIt 276 = .ok (.iaload, 1) := by decide +kernel
theorem dX9_doIt_277 : decode cX9_doIt 277 = .ok (.invokevirtual 211, 3) := by decide +kernel
theorem dX9_doIt_280 : decode cX9_doIt 280 = .ok (.return_, 1) := by decide +kernel
theorem dX9_doIt_281 : decode cX9_doIt 281 = .ok (.aload_n 0, 1) := by decide +kernel
theorem dX9_doIt_282 : decode cX9_doIt 282 = .ok (.aload_n 0, 1) := by decide +kernel
theorem dX9_doIt_283 : decode cX9_doIt 283 = .ok (.getfield 35, 3) := by decide +kernel
theorem dX9_doIt_286 : decode cX9_doIt 286 = .ok (.iconst 2, 1) := by decide +kernel
theorem dX9_doIt_287 : decode cX9_doIt 287 = .ok (.iaload, 1) := by decide +kernel
theorem dX9_doIt_288 : decode cX9_doIt 288 = .ok (.putfield 173, 3) := by decide +kernel
theorem dX9_doIt_291 : decode cX9_doIt 291 = .ok (.iconst 0, 1) := by decide +kernel
theorem dX9_doIt_292 : decode cX9_doIt 292 = .ok (.istore_n 3, 1) := by decide +kernel
theorem dX9_doIt_293 : decode cX9_doIt 293 = .ok (.iload_n 3, 1) := by decide +kernel
theorem dX9_doIt_294 : decode cX9_doIt 294 = .ok (.aload_n 0, 1) := by decide +kernel
theorem dX9_doIt_295 : decode cX9_doIt 295 = .ok (.getfield 173, 3) := by decide +kernel
theorem dX9_doIt_298 : decode cX9_doIt 298 = .ok (.if_icmp .ge 27, 3) := by decide +kernel
theorem dX9_doIt_301 : decode cX9_doIt 301 = .ok (.aload_n 0, 1) := by decide +kernel
theorem dX9_doIt_302 : decode cX9_doIt 302 = .ok (.getfield 65, 3) := by decide +kernel
theorem dX9_doIt_305 : decode cX9_doIt 305 = .ok (.iload_n 3, 1) := by decide +kernel
theorem dX9_doIt_306 : decode cX9_doIt 306 = .ok (.aload_n 0, 1) := by decide +kernel
theorem dX9_doIt_307 : decode cX9_doIt 307 = .ok (.aload_n 0, 1) := by decide +kernel
theorem dX9_doIt_308 : decode cX9_doIt 308 = .ok (.getfield 35, 3) := by decide +kernel
theorem dX9_doIt_311 : decode cX9_doIt 311 = .ok (.iconst 3, 1) := by decide +kernel
theorem dX9_doIt_312 : decode cX9_doIt 312 = .ok (.iload_n 3, 1) := by decide +kernel
theorem dX9_doIt_313 : decode cX9_doIt 313 = .ok (.iadd, 1) := by decide +kernel
theorem dX9_doIt_314 : decode cX9_doIt 314 = .ok (.iaload, 1) := by decide +kernel
theorem dX9_doIt_315 : decode cX9_doIt 315 = .ok (.invokevirtual 205, 3) := by decide +kernel
theorem dX9_doIt_318 : decode cX9_doIt 318 = .ok (.iastore, 1) := by decide +kernel
theorem dX9_doIt_319 : decode cX9_doIt 319 = .ok (.iinc 3 1, 3) := by decide +kernel
theorem dX9_doIt_322 : decode cX9_doIt 322 = .ok (.goto (-29), 3) := by decide +kernel
theorem dX9_doIt_325 : decode cX9_doIt 325 = .ok (.aload_n 0, 1) := by decide +kernel
theorem dX9_doIt_326 : decode cX9_doIt 326 = .ok (.iload_n 2, 1) := by decide +kernel
theorem dX9_doIt_327 : decode cX9_doIt 327 = .ok (.ifCond .lt 16, 3) := by decide +kernel
theorem dX9_doIt_330 : decode cX9_doIt 330 = .ok (.iload_n 2, 1) := by decide +kernel
theorem dX9_doIt_331 : decode cX9_doIt 331 = .ok (.sipush 256, 3) := by decide +kernel
theorem dX9_doIt_334 : decode cX9_doIt 334 = .ok (.if_icmp .ge 9, 3) := by decide +kernel
theorem dX9_doIt_337 : decode cX9_doIt 337 = .ok (.iconst 4, 1) := by decide +kernel
theorem dX9_doIt_338 : decode cX9_doIt 338 = .ok (.iload_n 2, 1) := by decide +kernel
theorem dX9_doIt_339 : decode cX9_doIt 339 = .ok (.imul, 1) := by decide +kernel
theorem dX9_doIt_340 : decode cX9_doIt 340 = .ok (.goto 4, 3) := by decide +kernel
theorem dX9_doIt_343 : decode cX9_doIt 343 = .ok (.iconst (-1), 1) := by decide +kernel
theorem dX9_doIt_344 : decode cX9_doIt 344 = .ok (.aload_n 0, 1) := by decide +kernel
theorem dX9_doIt_345 : decode cX9_doIt 345 = .ok (.getfield 35, 3) := by decide +kernel
theorem dX9_doIt_348 : decode cX9_doIt 348 = .ok (.iconst 0, 1) := by decide +kernel
theorem dX9_doIt_349 : decode cX9_doIt 349 = .ok (.iaload, 1) := by decide +kernel
theorem dX9_doIt_350 : decode cX9_doIt 350 = .ok (.invokevirtual 215, 3) := by decide +kernel
theorem dX9_doIt_353 : decode cX9_doIt 353 = .ok (.return_, 1) := by decide +kernel
theorem dX9_doIt_354 : decode cX9_doIt 354 = .ok (.aload_n 0, 1) := by decide +kernel
theorem dX9_doIt_355 : decode cX9_doIt 355 = .ok (.iload_n 1, 1) := by decide +kernel
theorem dX9_doIt_356 : decode cX9_doIt 356 = .ok (.invokevirtual 218, 3) := by decide +kernel
theorem dX9_doIt_359 : decode cX9_doIt 359 = .ok (.return_, 1) := by decide +kernel
theorem dX9_doIt_360 : decode cX9_doIt 360 = .ok (.aload_n 0, 1) := by decide +kernel
theorem dX9_doIt_361 : decode cX9_doIt 361 = .ok (.getfield 53, 3) := by decide +kernel
theorem dX9_doIt_364 : decode cX9_doIt 364 = .ok (.aload_n 0, 1) := by decide +kernel
theorem dX9_doIt_365 : decode cX9_doIt 365 = .ok (.getfield 161, 3) := by decide +kernel
theorem dX9_doIt_368 : decode cX9_doIt 368 = .ok (.iconst 1, 1) := by decide +kernel
theorem dX9_doIt_369 : decode cX9_doIt 369 = .ok (.isub, 1) := by decide +kernel
theorem dX9_doIt_370 : decode cX9_doIt 370 = .ok (.aload_n 0, 1) := by decide +kernel
theorem dX9_doIt_371 : decode cX9_doIt 371 = .ok (.getfield 35, 3) := by decide +kernel
theorem dX9_doIt_374 : decode cX9_doIt 374 = .ok (.iconst 0, 1) := by decide +kernel
theorem dX9_doIt_375 : decode cX9_doIt 375 = .ok (.iaload, 1) := by decide +kernel
theorem dX9_doIt_376 : decode cX9_doIt 376 = .ok (.iastore, 1) := by decide +kernel
theorem dX9_doIt_377 : decode cX9_doIt 377 = .ok (.return_, 1) := by decide +kernel
theorem dX9_doIt_378 : decode cX9_doIt 378 = .ok (.aload_n 0, 1) := by decide +kernel
theorem dX9_doIt_379 : decode cX9_doIt 379 = .ok (.iconst 0, 1) := by decide +kernel
theorem dX9_doIt_380 : decode cX9_doIt 380 = .ok (.invokevirtual 208, 3) := by decide +kernel
theorem dX9_doIt_383 : decode cX9_doIt 383 = .ok (.return_, 1) := by decide +kernel
theorem dX9_doIt_384 : decode cX9_doIt 384 = .ok (.aload_n 0, 1) := by decide +kernel
theorem dX9_doIt_385 : decode cX9_doIt 385 = .ok (.iload_n 2, 1) := by decide +kernel
theorem dX9_doIt_386 : decode cX9_doIt 386 = .ok (.aload_n 0, 1) := by decide +kernel
theorem dX9_doIt_387 : decode cX9_doIt 387 = .ok (.aload_n 0, 1) := by decide +kernel
theorem dX9_doIt_388 : decode cX9_doIt 388 = .ok (.getfield 35, 3) := by decide +kernel
theorem dX9_doIt_391 : decode cX9_doIt 391 = .ok (.iconst 2, 1) := by decide +kernel
theorem dX9_doIt_392 : decode cX9_doIt 392 = .ok (.iaload, 1) := by decide +kernel
theorem dX9_doIt_393 : decode cX9_doIt 393 = .ok (.invokevirtual 205, 3) := by decide +kernel
theorem dX9_doIt_396 : decode cX9_doIt 396 = .ok (.invokevirtual 221, 3) := by decide +kernel
theorem dX9_doIt_399 : decode cX9_doIt 399 = .ok (.return_, 1) := by decide +kernel
theorem dX9_one_0 : decode cX9_one 0 = .ok (.aload_n 0, 1) := by decide +kernel
theorem dX9_one_1 : decode cX9_one 1 = .ok (.getfield 161, 3) := by decide +kernel
theorem dX9_one_4 : decode cX9_one 4 = .ok (.iconst 1, 1) := by decide +kernel
theorem dX9_one_5 : decode cX9_one 5 = .ok (.isub, 1) := by decide +kernel
theorem dX9_one_6 : decode cX9_one 6 = .ok (.istore_n 1, 1) := by decide +kernel
theorem dX9_one_7 : decode cX9_one 7 = .ok (.aload_n 0, 1) := by decide +kernel
theorem dX9_one_8 : decode cX9_one 8 = .ok (.aload_n 0, 1) := by decide +kernel
theorem dX9_one_9 : decode cX9_one 9 = .ok (.getfield 44, 3) := by decide +kernel
theorem dX9_one_12 : decode cX9_one 12 = .ok (.iload_n 1, 1) := by decide +kernel
theorem dX9_one_13 : decode cX9_one 13 = .ok (.iaload, 1) := by decide +kernel
theorem dX9_one_14 : decode cX9_one 14 = .ok (.putfield 155, 3) := by decide +kernel
theorem dX9_one_17 : decode cX9_one 17 = .ok (.aload_n 0, 1) := by decide +kernel
theorem dX9_one_18 : decode cX9_one 18 = .ok (.aload_n 0, 1) := by decide +kernel
theorem dX9_one_19 : decode cX9_one 19 = .ok (.getfield 47, 3) := by decide +kernel
theorem dX9_one_22 : decode cX9_one 22 = .ok (.iload_n 1, 1) := by decide +kernel
theorem dX9_one_23 : decode cX9_one 23 = .ok (.iaload, 1) := by decide +kernel
theorem dX9_one_24 : decode cX9_one 24 = .ok (.aload_n 0, 1) := by decide +kernel
theorem dX9_one_25 : decode cX9_one 25 = .ok (.getfield 44, 3) := by decide +kernel
theorem dX9_one_28 : decode cX9_one 28 = .ok (.iload_n 1, 1) := by decide +kernel
theorem dX9_one_29 : decode cX9_one 29 = .ok (.iaload, 1) := by decide +kernel
theorem dX9_one_30 : decode cX9_one 30 = .ok (.isub, 1) := by decide +kernel
theorem dX9_one_31 : decode cX9_one 31 = .ok (.putfield 158, 3) := by decide +kernel
theorem dX9_one_34 : decode cX9_one 34 = .ok (.aload_n 0, 1) := by decide +kernel
theorem dX9_one_35 : decode cX9_one 35 = .ok (.invokevirtual 176, 3) := by decide +kernel
theorem dX9_one_38 : decode cX9_one 38 = .ok (.ifCond .ne 4, 3) := by decide +kernel
theorem dX9_one_41 : decode cX9_one 41 = .ok (.return_, 1) := by decide +kernel
theorem dX9_one_42 : decode cX9_one 42 = .ok (.aload_n 0, 1) := by decide +kernel
theorem dX9_one_43 : decode cX9_one 43 = .ok (.dup, 1) := by decide +kernel
theorem dX9_one_44 : decode cX9_one 44 = .ok (.getfield 224, 3) := by decide +kernel
theorem dX9_one_47 : decode cX9_one 47 = .ok (.aload_n 0, 1) := by decide +kernel
theorem dX9_one_48 : decode cX9_one 48 = .ok (.invokevirtual 227, 3) := by decide +kernel
theorem dX9_one_51 : decode cX9_one 51 = .ok (.ifCond .eq 7, 3) := by decide +kernel
theorem dX9_one_54 : decode cX9_one 54 = .ok (.iconst 1, 1) := by decide +kernel
theorem dX9_one_55 : decode cX9_one 55 = .ok (.goto 4, 3) := by decide +kernel
theorem dX9_one_58 : decode cX9_one 58 = .ok (.iconst 0, 1) := by decide +kernel
theorem dX9_one_59 : decode cX9_one 59 = .ok (.iadd, 1) := by decide +kernel
theorem dX9_one_60 : decode cX9_one 60 = .ok (.putfield 224, 3) := by decide +kernel
theorem dX9_one_63 : decode cX9_one 63 = .ok (.aload_n 0, 1) := by decide +kernel
theorem dX9_one_64 : decode cX9_one 64 = .ok (.aload_n 0, 1) := by decide +kernel
theorem dX9_one_65 : decode cX9_one 65 = .ok (.getfield 47, 3) := by decide +kernel
theorem dX9_one_68 : decode cX9_one 68 = .ok (.iload_n 1, 1) := by decide +kernel
theorem dX9_one_69 : decode cX9_one 69 = .ok (.iaload, 1) := by decide +kernel
theorem dX9_one_70 : decode cX9_one 70 = .ok (.aload_n 0, 1) := by decide +kernel
theorem dX9_one_71 : decode cX9_one 71 = .ok (.getfield 50, 3) := by decide +kernel
theorem dX9_one_74 : decode cX9_one 74 = .ok (.iload_n 1, 1) := by decide +kernel
theorem dX9_one_75 : decode cX9_one 75 = .ok (.iaload, 1) := by decide +kernel
theorem dX9_one_76 : decode cX9_one 76 = .ok (.invokevirtual 136, 3) := by decide +kernel
theorem dX9_one_79 : decode cX9_one 79 = .ok (.aload_n 0, 1) := by decide +kernel
theorem dX9_one_80 : decode cX9_one 80 = .ok (.getfield 107, 3) := by decide +kernel
theorem dX9_one_83 : decode cX9_one 83 = .ok (.ifCond .eq 12, 3) := by decide +kernel
theorem dX9_one_86 : decode cX9_one 86 = .ok (.aload_n 0, 1) := by decide +kernel
theorem dX9_one_87 : decode cX9_one 87 = .ok (.aload_n 0, 1) := by decide +kernel
theorem dX9_one_88 : decode cX9_one 88 = .ok (.getfield 107, 3) := by decide +kernel
theorem dX9_one_91 : decode cX9_one 91 = .ok (.invokevirtual 167, 3) := by decide +kernel
theorem dX9_one_94 : decode cX9_one 94 = .ok (.return_, 1) := by decide +kernel
theorem dX9_one_95 : decode cX9_one 95 = .ok (.aload_n 0, 1) := by decide +kernel
theorem dX9_one_96 : decode cX9_one 96 = .ok (.getfield 47, 3) := by decide +kernel
theorem dX9_one_99 : decode cX9_one 99 = .ok (.iload_n 1, 1) := by decide +kernel
theorem dX9_one_100 : decode cX9_one 100 = .ok (.aload_n 0, 1) := by decide +kernel
theorem dX9_one_101 : decode cX9_one 101 = .ok (.getfield 104, 3) := by decide +kernel
theorem dX9_one_104 : decode cX9_one 104 = .ok (.iastore, 1) := by decide +kernel
theorem dX9_one_105 : decode cX9_one 105 = .ok (.aload_n 0, 1) := by decide +kernel
theorem dX9_one_106 : decode cX9_one 106 = .ok (.invokevirtual 230, 3) := by decide +kernel
theorem dX9_one_109 : decode cX9_one 109 = .ok (.return_, 1) := by decide +kernel
theorem dX9_goes_0 : decode cX9_goes 0 = .ok (.aload_n 0, 1) := by decide +kernel
theorem dX9_goes_1 : decode cX9_goes 1 = .ok (.iconst 0, 1) := by decide +kernel
theorem dX9_goes_2 : decode cX9_goes 2 = .ok (.putfield 77, 3) := by decide +kernel
theorem dX9_goes_5 : decode cX9_goes 5 = .ok (.iload_n 2, 1) := by decide +kernel
theorem dX9_goes_6 : decode cX9_goes 6 = .ok (.ifCond .lt 15, 3) := by decide +kernel
theorem dX9_goes_9 : decode cX9_goes 9 = .ok (.iload_n 2, 1) := by decide +kernel
theorem dX9_goes_10 : decode cX9_goes 10 = .ok (.iconst 4, 1) := by decide +kernel
theorem dX9_goes_11 : decode cX9_goes 11 = .ok (.if_icmp .gt 10, 3) := by decide +kernel
theorem dX9_goes_14 : decode cX9_goes 14 = .ok (.iload_n 1, 1) := by decide +kernel
theorem dX9_goes_15 : decode cX9_goes 15 = .ok (.invokestatic 140, 3) := by decide +kernel
theorem dX9_goes_18 : decode cX9_goes 18 = .ok (.ifCond .ne 6, 3) := by decide +kernel
theorem dX9_goes_21 : decode cX9_goes 21 = .ok (.bipush (-2), 2) := by decide +kernel
theorem dX9_goes_23 : decode cX9_goes 23 = .ok (.ireturn, 1) := by decide +kernel
theorem dX9_goes_24 : decode cX9_goes 24 = .ok (.aload_n 0, 1) := by decide +kernel
theorem dX9_goes_25 : decode cX9_goes 25 = .ok (.getfield 233, 3) := by decide +kernel
theorem dX9_goes_28 : decode cX9_goes 28 = .ok (.sipush 500, 3) := by decide +kernel
theorem dX9_goes_31 : decode cX9_goes 31 = .ok (.if_icmp .lt 6, 3) := by decide +kernel
theorem dX9_goes_34 : decode cX9_goes 34 = .ok (.bipush (-3), 2) := by decide +kernel
theorem dX9_goes_36 : decode cX9_goes 36 = .ok (.ireturn, 1) := by decide +kernel
theorem dX9_goes_37 : decode cX9_goes 37 = .ok (.aload_n 0, 1) := by decide +kernel
theorem dX9_goes_38 : decode cX9_goes 38 = .ok (.iload_n 3, 1) := by decide +kernel
theorem dX9_goes_39 : decode cX9_goes 39 = .ok (.putfield 189, 3) := by decide +kernel
theorem dX9_goes_42 : decode cX9_goes 42 = .ok (.aload_n 0, 1) := by decide +kernel
theorem dX9_goes_43 : decode cX9_goes 43 = .ok (.iconst 0, 1) := by decide +kernel
theorem dX9_goes_44 : decode cX9_goes 44 = .ok (.putfield 164, 3) := by decide +kernel
theorem dX9_goes_47 : decode cX9_goes 47 = .ok (.aload_n 0, 1) := by decide +kernel
theorem dX9_goes_48 : decode cX9_goes 48 = .ok (.iconst 0, 1) := by decide +kernel
theorem dX9_goes_49 : decode cX9_goes 49 = .ok (.putfield 161, 3) := by decide +kernel
theorem dX9_goes_52 : decode cX9_goes 52 = .ok (.aload_n 0, 1) := by decide +kernel
theorem dX9_goes_53 : decode cX9_goes 53 = .ok (.iconst 0, 1) := by decide +kernel
theorem dX9_goes_54 : decode cX9_goes 54 = .ok (.putfield 152, 3) := by decide +kernel
theorem dX9_goes_57 : decode cX9_goes 57 = .ok (.aload_n 0, 1) := by decide +kernel
theorem dX9_goes_58 : decode cX9_goes 58 = .ok (.iconst (-1), 1) := by decide +kernel
theorem dX9_goes_59 : decode cX9_goes 59 = .ok (.putfield 68, 3) := by decide +kernel
theorem dX9_goes_62 : decode cX9_goes 62 = .ok (.aload_n 0, 1) := by decide +kernel
theorem dX9_goes_63 : decode cX9_goes 63 = .ok (.iconst (-1), 1) := by decide +kernel
theorem dX9_goes_64 : decode cX9_goes 64 = .ok (.putfield 71, 3) := by decide +kernel
theorem dX9_goes_67 : decode cX9_goes 67 = .ok (.aload_n 0, 1) := by decide +kernel
theorem dX9_goes_68 : decode cX9_goes 68 = .ok (.iconst 0, 1) := by decide +kernel
theorem dX9_goes_69 : decode cX9_goes 69 = .ok (.putfield 199, 3) := by decide +kernel
theorem dX9_goes_72 : decode cX9_goes 72 = .ok (.aload_n 0, 1) := by decide +kernel
theorem dX9_goes_73 : decode cX9_goes 73 = .ok (.iconst 0, 1) := by decide +kernel
theorem dX9_goes_74 : decode cX9_goes 74 = .ok (.putfield 186, 3) := by decide +kernel
theorem dX9_goes_77 : decode cX9_goes 77 = .ok (.aload_n 0, 1) := by decide +kernel
theorem dX9_goes_78 : decode cX9_goes 78 = .ok (.iload_n 1, 1) := by decide +kernel
theorem dX9_goes_79 : decode cX9_goes 79 = .ok (.putfield 155, 3) := by decide +kernel
theorem dX9_goes_82 : decode cX9_goes 82 = .ok (.aload_n 0, 1) := by decide +kernel
theorem dX9_goes_83 : decode cX9_goes 83 = .ok (.iconst 0, 1) := by decide +kernel
theorem dX9_goes_84 : decode cX9_goes 84 = .ok (.putfield 158, 3) := by decide +kernel
theorem dX9_goes_87 : decode cX9_goes 87 = .ok (.aload_n 0, 1) := by decide +kernel
theorem dX9_goes_88 : decode cX9_goes 88 = .ok (.iload_n 2, 1) := by decide +kernel
theorem dX9_goes_89 : decode cX9_goes 89 = .ok (.putfield 173, 3) := by decide +kernel
theorem dX9_goes_92 : decode cX9_goes 92 = .ok (.iconst 0, 1) := by decide +kernel
theorem dX9_goes_93 : decode cX9_goes 93 = .ok (.istore 4, 2) := by decide +kernel
theorem dX9_goes_95 : decode cX9_goes 95 = .ok (.iload 4, 2) := by decide +kernel
theorem dX9_goes_97 : decode cX9_goes 97 = .ok (.iload_n 2, 1) := by decide +kernel
theorem dX9_goes_98 : decode cX9_goes 98 = .ok (.if_icmp .ge 23, 3) := by decide +kernel
theorem dX9_goes_101 : decode cX9_goes 101 = .ok (.aload_n 0, 1) := by decide +kernel
theorem dX9_goes_102 : decode cX9_goes 102 = .ok (.getfield 65, 3) := by decide +kernel
theorem dX9_goes_105 : decode cX9_goes 105 = .ok (.iload 4, 2) := by decide +kernel
theorem dX9_goes_107 : decode cX9_goes 107 = .ok (.aload_n 0, 1) := by decide +kernel
theorem dX9_goes_108 : decode cX9_goes 108 = .ok (.getfield 16, 3) := by decide +kernel
theorem dX9_goes_111 : decode cX9_goes 111 = .ok (.iload 4, 2) := by decide +kernel
theorem dX9_goes_113 : decode cX9_goes 113 = .ok (.iaload, 1) := by decide +kernel
theorem dX9_goes_114 : decode cX9_goes 114 = .ok (.iastore, 1) := by decide +kernel
theorem dX9_goes_115 : decode cX9_goes 115 = .ok (.iinc 4 1, 3) := by decide +kernel
theorem dX9_goes_118 : decode cX9_goes 118 = .ok (.goto (-23), 3) := by decide +kernel
theorem dX9_goes_121 : decode cX9_goes 121 = .ok (.aload_n 0, 1) := by decide +kernel
theorem dX9_goes_122 : decode cX9_goes 122 = .ok (.iload_n 1, 1) := by decide +kernel
theorem dX9_goes_123 : decode cX9_goes 123 = .ok (.iconst (-1), 1) := by decide +kernel
theorem dX9_goes_124 : decode cX9_goes 124 = .ok (.invokevirtual 215, 3) := by decide +kernel
theorem dX9_goes_127 : decode cX9_goes 127 = .ok (.aload_n 0, 1) := by decide +kernel
theorem dX9_goes_128 : decode cX9_goes 128 = .ok (.getfield 161, 3) := by decide +kernel
theorem dX9_goes_131 : decode cX9_goes 131 = .ok (.ifCond .le 17, 3) := by decide +kernel
theorem dX9_goes_134 : decode cX9_goes 134 = .ok (.aload_n 0, 1) := by decide +kernel
theorem dX9_goes_135 : decode cX9_goes 135 = .ok (.getfield 152, 3) := by decide +kernel
theorem dX9_goes_138 : decode cX9_goes 138 = .ok (.ifCond .ne 10, 3) := by decide +kernel
theorem dX9_goes_141 : decode cX9_goes 141 = .ok (.aload_n 0, 1) := by decide +kernel
theorem dX9_goes_142 : decode cX9_goes 142 = .ok (.invokevirtual 236, 3) := by decide +kernel
theorem dX9_goes_145 : decode cX9_goes 145 = .ok (.goto (-18), 3) := by decide +kernel
theorem dX9_goes_148 : decode cX9_goes 148 = .ok (.aload_n 0, 1) := by decide +kernel
theorem dX9_goes_149 : decode cX9_goes 149 = .ok (.getfield 152, 3) := by decide +kernel
theorem dX9_goes_152 : decode cX9_goes 152 = .ok (.ifCond .ne 5, 3) := by decide +kernel
theorem dX9_goes_155 : decode cX9_goes 155 = .ok (.iconst 0, 1) := by decide +kernel
theorem dX9_goes_156 : decode cX9_goes 156 = .ok (.ireturn, 1) := by decide +kernel
theorem dX9_goes_157 : decode cX9_goes 157 = .ok (.aload_n 0, 1) := by decide +kernel
theorem dX9_goes_158 : decode cX9_goes 158 = .ok (.iconst 0, 1) := by decide +kernel
theorem dX9_goes_159 : decode cX9_goes 159 = .ok (.putfield 186, 3) := by decide +kernel
theorem dX9_goes_162 : decode cX9_goes 162 = .ok (.aload_n 0, 1) := by decide +kernel
theorem dX9_goes_163 : decode cX9_goes 163 = .ok (.dup, 1) := by decide +kernel
theorem dX9_goes_164 : decode cX9_goes 164 = .ok (.getfield 233, 3) := by decide +kernel
theorem dX9_goes_167 : decode cX9_goes 167 = .ok (.iconst 1, 1) := by decide +kernel
theorem dX9_goes_168 : decode cX9_goes 168 = .ok (.iadd, 1) := by decide +kernel
theorem dX9_goes_169 : decode cX9_goes 169 = .ok (.putfield 233, 3) := by decide +kernel
theorem dX9_goes_172 : decode cX9_goes 172 = .ok (.bipush (-10), 2) := by decide +kernel
theorem dX9_goes_174 : decode cX9_goes 174 = .ok (.aload_n 0, 1) := by decide +kernel
theorem dX9_goes_175 : decode cX9_goes 175 = .ok (.getfield 152, 3) := by decide +kernel
theorem dX9_goes_178 : decode cX9_goes 178 = .ok (.isub, 1) := by decide +kernel
theorem dX9_goes_179 : decode cX9_goes 179 = .ok (.ireturn, 1) := by decide +kernel
theorem dX9_argument_0 : decode cX9_argument 0 = .ok (.aload_n 0, 1) := by decide +kernel
theorem dX9_argument_1 : decode cX9_argument 1 = .ok (.iconst 0, 1) := by decide +kernel
theorem dX9_argument_2 : decode cX9_argument 2 = .ok (.putfield 77, 3) := by decide +kernel
theorem dX9_argument_5 : decode cX9_argument 5 = .ok (.iload_n 1, 1) := by decide +kernel
theorem dX9_argument_6 : decode cX9_argument 6 = .ok (.ifCond .lt 8, 3) := by decide +kernel
theorem dX9_argument_9 : decode cX9_argument 9 = .ok (.iload_n 1, 1) := by decide +kernel
theorem dX9_argument_10 : decode cX9_argument 10 = .ok (.iconst 3, 1) := by decide +kernel
theorem dX9_argument_11 : decode cX9_argument 11 = .ok (.if_icmp .le 6, 3) := by decide +kernel
theorem dX9_argument_14 : decode cX9_argument 14 = .ok (.bipush (-2), 2) := by decide +kernel
theorem dX9_argument_16 : decode cX9_argument 16 = .ok (.ireturn, 1) := by decide +kernel
theorem dX9_argument_17 : decode cX9_argument 17 = .ok (.aload_n 0, 1) := by decide +kernel
theorem dX9_argument_18 : decode cX9_argument 18 = .ok (.getfield 16, 3) := by decide +kernel
theorem dX9_argument_21 : decode cX9_argument 21 = .ok (.iload_n 1, 1) := by decide +kernel
theorem dX9_argument_22 : decode cX9_argument 22 = .ok (.iload_n 2, 1) := by decide +kernel
theorem dX9_argument_23 : decode cX9_argument 23 = .ok (.iastore, 1) := by decide +kernel
theorem dX9_argument_24 : decode cX9_argument 24 = .ok (.iconst 1, 1) := by decide +kernel
theorem dX9_argument_25 : decode cX9_argument 25 = .ok (.ireturn, 1) := by decide +kernel
theorem dX9_call_0 : decode cX9_call 0 = .ok (.aload_n 0, 1) := by decide +kernel
theorem dX9_call_1 : decode cX9_call 1 = .ok (.iload_n 1, 1) := by decide +kernel
theorem dX9_call_2 : decode cX9_call 2 = .ok (.iload_n 2, 1) := by decide +kernel
theorem dX9_call_3 : decode cX9_call 3 = .ok (.iconst 1, 1) := by decide +kernel
theorem dX9_call_4 : decode cX9_call 4 = .ok (.invokevirtual 239, 3) := by decide +kernel
theorem dX9_call_7 : decode cX9_call 7 = .ok (.ireturn, 1) := by decide +kernel
theorem dX9_walk_0 : decode cX9_walk 0 = .ok (.aload_n 0, 1) := by decide +kernel
theorem dX9_walk_1 : decode cX9_walk 1 = .ok (.iload_n 1, 1) := by decide +kernel
theorem dX9_walk_2 : decode cX9_walk 2 = .ok (.iload_n 2, 1) := by decide +kernel
theorem dX9_walk_3 : decode cX9_walk 3 = .ok (.iconst 0, 1) := by decide +kernel
theorem dX9_walk_4 : decode cX9_walk 4 = .ok (.invokevirtual 239, 3) := by decide +kernel
theorem dX9_walk_7 : decode cX9_walk 7 = .ok (.ireturn, 1) := by decide +kernel
theorem dX9_result_0 : decode cX9_result 0 = .ok (.aload_n 0, 1) := by decide +kernel
theorem dX9_result_1 : decode cX9_result 1 = .ok (.iconst 0, 1) := by decide +kernel
theorem dX9_result_2 : decode cX9_result 2 = .ok (.putfield 77, 3) := by decide +kernel
theorem dX9_result_5 : decode cX9_result 5 = .ok (.aload_n 0, 1) := by decide +kernel
theorem dX9_result_6 : decode cX9_result 6 = .ok (.getfield 186, 3) := by decide +kernel
theorem dX9_result_9 : decode cX9_result 9 = .ok (.ireturn, 1) := by decide +kernel
theorem dX9_fault_0 : decode cX9_fault 0 = .ok (.aload_n 0, 1) := by decide +kernel
theorem dX9_fault_1 : decode cX9_fault 1 = .ok (.iconst 0, 1) := by decide +kernel
theorem dX9_fault_2 : decode cX9_fault 2 = .ok (.putfield 77, 3) := by decide +kernel
theorem dX9_fault_5 : decode cX9_fault 5 = .ok (.iload_n 1, 1) := by decide +kernel
theorem dX9_fault_6 : decode cX9_fault 6 = .ok (.ifCond .ne 10, 3) := by decide +kernel
theorem dX9_fault_9 : decode cX9_fault 9 = .ok (.aload_n 0, 1) := by decide +kernel
theorem dX9_fault_10 : decode cX9_fault 10 = .ok (.getfield 68, 3) := by decide +kernel
theorem dX9_fault_13 : decode cX9_fault 13 = .ok (.goto 29, 3) := by decide +kernel
theorem dX9_fault_16 : decode cX9_fault 16 = .ok (.iload_n 1, 1) := by decide +kernel
theorem dX9_fault_17 : decode cX9_fault 17 = .ok (.iconst 1, 1) := by decide +kernel
theorem dX9_fault_18 : decode cX9_fault 18 = .ok (.if_icmp .ne 10, 3) := by decide +kernel
theorem dX9_fault_21 : decode cX9_fault 21 = .ok (.aload_n 0, 1) := by decide +kernel
theorem dX9_fault_22 : decode cX9_fault 22 = .ok (.getfield 71, 3) := by decide +kernel
theorem dX9_fault_25 : decode cX9_fault 25 = .ok (.goto 17, 3) := by decide +kernel
theorem dX9_fault_28 : decode cX9_fault 28 = .ok (.iload_n 1, 1) := by decide +kernel
theorem dX9_fault_29 : decode cX9_fault 29 = .ok (.iconst 2, 1) := by decide +kernel
theorem dX9_fault_30 : decode cX9_fault 30 = .ok (.if_icmp .ne 10, 3) := by decide +kernel
theorem dX9_fault_33 : decode cX9_fault 33 = .ok (.aload_n 0, 1) := by decide +kernel
theorem dX9_fault_34 : decode cX9_fault 34 = .ok (.getfield 199, 3) := by decide +kernel
theorem dX9_fault_37 : decode cX9_fault 37 = .ok (.goto 5, 3) := by decide +kernel
theorem dX9_fault_40 : decode cX9_fault 40 = .ok (.bipush (-2), 2) := by decide +kernel
theorem dX9_fault_42 : decode cX9_fault 42 = .ok (.ireturn, 1) := by decide +kernel
theorem dX9_accelerate_0 : decode cX9_accelerate 0 = .ok (.aload_n 0, 1) := by decide +kernel
theorem dX9_accelerate_1 : decode cX9_accelerate 1 = .ok (.iconst 0, 1) := by decide +kernel
theorem dX9_accelerate_2 : decode cX9_accelerate 2 = .ok (.putfield 77, 3) := by decide +kernel
theorem dX9_accelerate_5 : decode cX9_accelerate 5 = .ok (.iload_n 1, 1) := by decide +kernel
theorem dX9_accelerate_6 : decode cX9_accelerate 6 = .ok (.invokestatic 140, 3) := by decide +kernel
theorem dX9_accelerate_9 : decode cX9_accelerate 9 = .ok (.ifCond .eq 12, 3) := by decide +kernel
theorem dX9_accelerate_12 : decode cX9_accelerate 12 = .ok (.iload_n 2, 1) := by decide +kernel
theorem dX9_accelerate_13 : decode cX9_accelerate 13 = .ok (.ifCond .lt 8, 3) := by decide +kernel
theorem dX9_accelerate_16 : decode cX9_accelerate 16 = .ok (.iload_n 2, 1) := by decide +kernel
theorem dX9_accelerate_17 : decode cX9_accelerate 17 = .ok (.iconst 4, 1) := by decide +kernel
theorem dX9_accelerate_18 : decode cX9_accelerate 18 = .ok (.if_icmp .le 6, 3) := by decide +kernel
theorem dX9_accelerate_21 : decode cX9_accelerate 21 = .ok (.bipush (-2), 2) := by decide +kernel
theorem dX9_accelerate_23 : decode cX9_accelerate 23 = .ok (.ireturn, 1) := by decide +kernel
theorem dX9_accelerate_24 : decode cX9_accelerate 24 = .ok (.aload_n 0, 1) := by decide +kernel
theorem dX9_accelerate_25 : decode cX9_accelerate 25 = .ok (.getfield 19, 3) := by decide +kernel
theorem dX9_accelerate_28 : decode cX9_accelerate 28 = .ok (.iload_n 1, 1) := by decide +kernel
theorem dX9_accelerate_29 : decode cX9_accelerate 29 = .ok (.iconst 4, 1) := by decide +kernel
theorem dX9_accelerate_30 : decode cX9_accelerate 30 = .ok (.idiv, 1) := by decide +kernel
theorem dX9_accelerate_31 : decode cX9_accelerate 31 = .ok (.iaload, 1) := by decide +kernel
theorem dX9_accelerate_32 : decode cX9_accelerate 32 = .ok (.istore_n 3, 1) := by decide +kernel
theorem dX9_accelerate_33 : decode cX9_accelerate 33 = .ok (.aload_n 0, 1) := by decide +kernel
theorem dX9_accelerate_34 : decode cX9_accelerate 34 = .ok (.getfield 19, 3) := by decide +kernel
theorem dX9_accelerate_37 : decode cX9_accelerate 37 = .ok (.iload_n 1, 1) := by decide +kernel
theorem dX9_accelerate_38 : decode cX9_accelerate 38 = .ok (.iconst 4, 1) := by decide +kernel
theorem dX9_accelerate_39 : decode cX9_accelerate 39 = .ok (.idiv, 1) := by decide +kernel
theorem dX9_accelerate_40 : decode cX9_accelerate 40 = .ok (.iload_n 2, 1) := by decide +kernel
theorem dX9_accelerate_41 : decode cX9_accelerate 41 = .ok (.iastore, 1) := by decide +kernel
theorem dX9_accelerate_42 : decode cX9_accelerate 42 = .ok (.iload_n 3, 1) := by decide +kernel
theorem dX9_accelerate_43 : decode cX9_accelerate 43 = .ok (.ireturn, 1) := by decide +kernel
theorem dX9_kept_0 : decode cX9_kept 0 = .ok (.aload_n 0, 1) := by decide +kernel
theorem dX9_kept_1 : decode cX9_kept 1 = .ok (.iconst 0, 1) := by decide +kernel
theorem dX9_kept_2 : decode cX9_kept 2 = .ok (.putfield 77, 3) := by decide +kernel
theorem dX9_kept_5 : decode cX9_kept 5 = .ok (.iload_n 1, 1) := by decide +kernel
theorem dX9_kept_6 : decode cX9_kept 6 = .ok (.ifCond .lt 20, 3) := by decide +kernel
theorem dX9_kept_9 : decode cX9_kept 9 = .ok (.iload_n 1, 1) := by decide +kernel
theorem dX9_kept_10 : decode cX9_kept 10 = .ok (.aload_n 0, 1) := by decide +kernel
theorem dX9_kept_11 : decode cX9_kept 11 = .ok (.getfield 80, 3) := by decide +kernel
theorem dX9_kept_14 : decode cX9_kept 14 = .ok (.if_icmp .ge 12, 3) := by decide +kernel
theorem dX9_kept_17 : decode cX9_kept 17 = .ok (.aload_n 0, 1) := by decide +kernel
theorem dX9_kept_18 : decode cX9_kept 18 = .ok (.getfield 22, 3) := by decide +kernel
theorem dX9_kept_21 : decode cX9_kept 21 = .ok (.iload_n 1, 1) := by decide +kernel
theorem dX9_kept_22 : decode cX9_kept 22 = .ok (.iaload, 1) := by decide +kernel
theorem dX9_kept_23 : decode cX9_kept 23 = .ok (.goto 4, 3) := by decide +kernel
theorem dX9_kept_26 : decode cX9_kept 26 = .ok (.iconst (-1), 1) := by decide +kernel
theorem dX9_kept_27 : decode cX9_kept 27 = .ok (.ireturn, 1) := by decide +kernel
theorem dX9_drop_0 : decode cX9_drop 0 = .ok (.aload_n 0, 1) := by decide +kernel
theorem dX9_drop_1 : decode cX9_drop 1 = .ok (.iconst 0, 1) := by decide +kernel
theorem dX9_drop_2 : decode cX9_drop 2 = .ok (.putfield 77, 3) := by decide +kernel
theorem dX9_drop_5 : decode cX9_drop 5 = .ok (.iload_n 1, 1) := by decide +kernel
theorem dX9_drop_6 : decode cX9_drop 6 = .ok (.ifCond .lt 9, 3) := by decide +kernel
theorem dX9_drop_9 : decode cX9_drop 9 = .ok (.iload_n 1, 1) := by decide +kernel
theorem dX9_drop_10 : decode cX9_drop 10 = .ok (.bipush 15, 2) := by decide +kernel
theorem dX9_drop_12 : decode cX9_drop 12 = .ok (.if_icmp .le 8, 3) := by decide +kernel
theorem dX9_drop_15 : decode cX9_drop 15 = .ok (.bipush (-2), 2) := by decide +kernel
theorem dX9_drop_17 : decode cX9_drop 17 = .ok (.goto 8, 3) := by decide +kernel
theorem dX9_drop_20 : decode cX9_drop 20 = .ok (.aload_n 0, 1) := by decide +kernel
theorem dX9_drop_21 : decode cX9_drop 21 = .ok (.iload_n 1, 1) := by decide +kernel
theorem dX9_drop_22 : decode cX9_drop 22 = .ok (.invokevirtual 90, 3) := by decide +kernel
theorem dX9_drop_25 : decode cX9_drop 25 = .ok (.ireturn, 1) := by decide +kernel
theorem dX9_count_0 : decode cX9_count 0 = .ok (.aload_n 0, 1) := by decide +kernel
theorem dX9_count_1 : decode cX9_count 1 = .ok (.iconst 0, 1) := by decide +kernel
theorem dX9_count_2 : decode cX9_count 2 = .ok (.putfield 77, 3) := by decide +kernel
theorem dX9_count_5 : decode cX9_count 5 = .ok (.iload_n 1, 1) := by decide +kernel
theorem dX9_count_6 : decode cX9_count 6 = .ok (.tableswitch 86 0 7 #[46, 51, 56, 61, 66, 71, 76, 81], 46) := by decide +kernel
theorem dX9_count_52 : decode cX9_count 52 = .ok (.aload_n 0, 1) := by decide +kernel
theorem dX9_count_53 : decode cX9_count 53 = .ok (.getfield 149, 3) := by decide +kernel
theorem dX9_count_56 : decode cX9_count 56 = .ok (.ireturn, 1) := by decide +kernel
theorem dX9_count_57 : decode cX9_count 57 = .ok (.aload_n 0, 1) := by decide +kernel
theorem dX9_count_58 : decode cX9_count 58 = .ok (.getfield 83, 3) := by decide +kernel
theorem dX9_count_61 : decode cX9_count 61 = .ok (.ireturn, 1) := by decide +kernel
theorem dX9_count_62 : decode cX9_count 62 = .ok (.aload_n 0, 1) := by decide +kernel
theorem dX9_count_63 : decode cX9_count 63 = .ok (.getfield 170, 3) := by decide +kernel
theorem dX9_count_66 : decode cX9_count 66 = .ok (.ireturn, 1) := by decide +kernel
theorem dX9_count_67 : decode cX9_count 67 = .ok (.aload_n 0, 1) := by decide +kernel
theorem dX9_count_68 : decode cX9_count 68 = .ok (.getfield 224, 3) := by decide +kernel
theorem dX9_count_71 : decode cX9_count 71 = .ok (.ireturn, 1) := by decide +kernel
theorem dX9_count_72 : decode cX9_count 72 = .ok (.aload_n 0, 1) := by decide +kernel
theorem dX9_count_73 : decode cX9_count 73 = .ok (.getfield 193, 3) := by decide +kernel
theorem dX9_count_76 : decode cX9_count 76 = .ok (.ireturn, 1) := by decide +kernel
theorem dX9_count_77 : decode cX9_count 77 = .ok (.aload_n 0, 1) := by decide +kernel
theorem dX9_count_78 : decode cX9_count 78 = .ok (.getfield 196, 3) := by decide +kernel
theorem dX9_count_81 : decode cX9_count 81 = .ok (.ireturn, 1) := by decide +kernel
theorem dX9_count_82 : decode cX9_count 82 = .ok (.aload_n 0, 1) := by decide +kernel
theorem dX9_count_83 : decode cX9_count 83 = .ok (.getfield 233, 3) := by decide +kernel
theorem dX9_count_86 : decode cX9_count 86 = .ok (.ireturn, 1) := by decide +kernel
theorem dX9_count_87 : decode cX9_count 87 = .ok (.aload_n 0, 1) := by decide +kernel
theorem dX9_count_88 : decode cX9_count 88 = .ok (.getfield 202, 3) := by decide +kernel
theorem dX9_count_91 : decode cX9_count 91 = .ok (.ireturn, 1) := by decide +kernel
theorem dX9_count_92 : decode cX9_count 92 = .ok (.bipush (-2), 2) := by decide +kernel
theorem dX9_count_94 : decode cX9_count 94 = .ok (.ireturn, 1) := by decide +kernel
theorem dL_cell_0 : decode cL_cell 0 = .ok (.iload_n 1, 1) := by decide +kernel
theorem dL_cell_1 : decode cL_cell 1 = .ok (.aload_n 0, 1) := by decide +kernel
theorem dL_cell_2 : decode cL_cell 2 = .ok (.arraylength, 1) := by decide +kernel
theorem dL_cell_3 : decode cL_cell 3 = .ok (.if_icmp .ge 9, 3) := by decide +kernel
theorem dL_cell_6 : decode cL_cell 6 = .ok (.aload_n 0, 1) := by decide +kernel
theorem dL_cell_7 : decode cL_cell 7 = .ok (.iload_n 1, 1) := by decide +kernel
theorem dL_cell_8 : decode cL_cell 8 = .ok (.iaload, 1) := by decide +kernel
theorem dL_cell_9 : decode cL_cell 9 = .ok (.goto 4, 3) := by decide +kernel
theorem dL_cell_12 : decode cL_cell 12 = .ok (.iconst 0, 1) := by decide +kernel
theorem dL_cell_13 : decode cL_cell 13 = .ok (.ireturn, 1) := by decide +kernel
theorem dL_poke_0 : decode cL_poke 0 = .ok (.aload_n 3, 1) := by decide +kernel
theorem dL_poke_1 : decode cL_poke 1 = .ok (.iconst 0, 1) := by decide +kernel
theorem dL_poke_2 : decode cL_poke 2 = .ok (.aload_n 0, 1) := by decide +kernel
theorem dL_poke_3 : decode cL_poke 3 = .ok (.iload_n 1, 1) := by decide +kernel
theorem dL_poke_4 : decode cL_poke 4 = .ok (.iload_n 2, 1) := by decide +kernel
theorem dL_poke_5 : decode cL_poke 5 = .ok (.invokevirtual 7, 3) := by decide +kernel
theorem dL_poke_8 : decode cL_poke 8 = .ok (.i2l, 1) := by decide +kernel
theorem dL_poke_9 : decode cL_poke 9 = .ok (.lastore, 1) := by decide +kernel
theorem dL_poke_10 : decode cL_poke 10 = .ok (.goto 7, 3) := by decide +kernel
theorem dL_poke_13 : decode cL_poke 13 = .ok (.astore 4, 2) := by decide +kernel
theorem dL_poke_15 : decode cL_poke 15 = .ok (.iconst 1, 1) := by decide +kernel
theorem dL_poke_16 : decode cL_poke 16 = .ok (.ireturn, 1) := by decide +kernel
theorem dL_poke_17 : decode cL_poke 17 = .ok (.iconst 0, 1) := by decide +kernel
theorem dL_poke_18 : decode cL_poke 18 = .ok (.ireturn, 1) := by decide +kernel
theorem dL_peek_0 : decode cL_peek 0 = .ok (.aload_n 2, 1) := by decide +kernel
theorem dL_peek_1 : decode cL_peek 1 = .ok (.iconst 0, 1) := by decide +kernel
theorem dL_peek_2 : decode cL_peek 2 = .ok (.aload_n 0, 1) := by decide +kernel
theorem dL_peek_3 : decode cL_peek 3 = .ok (.iload_n 1, 1) := by decide +kernel
theorem dL_peek_4 : decode cL_peek 4 = .ok (.invokevirtual 15, 3) := by decide +kernel
theorem dL_peek_7 : decode cL_peek 7 = .ok (.i2l, 1) := by decide +kernel
theorem dL_peek_8 : decode cL_peek 8 = .ok (.lastore, 1) := by decide +kernel
theorem dL_peek_9 : decode cL_peek 9 = .ok (.goto 6, 3) := by decide +kernel
theorem dL_peek_12 : decode cL_peek 12 = .ok (.astore_n 3, 1) := by decide +kernel
theorem dL_peek_13 : decode cL_peek 13 = .ok (.iconst 1, 1) := by decide +kernel
theorem dL_peek_14 : decode cL_peek 14 = .ok (.ireturn, 1) := by decide +kernel
theorem dL_peek_15 : decode cL_peek 15 = .ok (.iconst 0, 1) := by decide +kernel
theorem dL_peek_16 : decode cL_peek 16 = .ok (.ireturn, 1) := by decide +kernel
theorem dL_global_0 : decode cL_global 0 = .ok (.aload_n 3, 1) := by decide +kernel
theorem dL_global_1 : decode cL_global 1 = .ok (.iconst 0, 1) := by decide +kernel
theorem dL_global_2 : decode cL_global 2 = .ok (.aload_n 0, 1) := by decide +kernel
theorem dL_global_3 : decode cL_global 3 = .ok (.iload_n 1, 1) := by decide +kernel
theorem dL_global_4 : decode cL_global 4 = .ok (.iload_n 2, 1) := by decide +kernel
theorem dL_global_5 : decode cL_global 5 = .ok (.invokevirtual 19, 3) := by decide +kernel
theorem dL_global_8 : decode cL_global 8 = .ok (.i2l, 1) := by decide +kernel
theorem dL_global_9 : decode cL_global 9 = .ok (.lastore, 1) := by decide +kernel
theorem dL_global_10 : decode cL_global 10 = .ok (.goto 7, 3) := by decide +kernel
theorem dL_global_13 : decode cL_global 13 = .ok (.astore 4, 2) := by decide +kernel
theorem dL_global_15 : decode cL_global 15 = .ok (.iconst 1, 1) := by decide +kernel
theorem dL_global_16 : decode cL_global 16 = .ok (.ireturn, 1) := by decide +kernel
theorem dL_global_17 : decode cL_global 17 = .ok (.iconst 0, 1) := by decide +kernel
theorem dL_global_18 : decode cL_global 18 = .ok (.ireturn, 1) := by decide +kernel
theorem dL_law_0 : decode cL_law 0 = .ok (.new 8, 3) := by decide +kernel
theorem dL_law_3 : decode cL_law 3 = .ok (.dup, 1) := by decide +kernel
theorem dL_law_4 : decode cL_law 4 = .ok (.aload_n 0, 1) := by decide +kernel
theorem dL_law_5 : decode cL_law 5 = .ok (.iconst 0, 1) := by decide +kernel
theorem dL_law_6 : decode cL_law 6 = .ok (.invokestatic 22, 3) := by decide +kernel
theorem dL_law_9 : decode cL_law 9 = .ok (.invokespecial 28, 3) := by decide +kernel
theorem dL_law_12 : decode cL_law 12 = .ok (.astore_n 1, 1) := by decide +kernel
theorem dL_law_13 : decode cL_law 13 = .ok (.new 31, 3) := by decide +kernel
theorem dL_law_16 : decode cL_law 16 = .ok (.dup, 1) := by decide +kernel
theorem dL_law_17 : decode cL_law 17 = .ok (.aload_n 0, 1) := by decide +kernel
theorem dL_law_18 : decode cL_law 18 = .ok (.iconst 0, 1) := by decide +kernel
theorem dL_law_19 : decode cL_law 19 = .ok (.invokestatic 22, 3) := by decide +kernel
theorem dL_law_22 : decode cL_law 22 = .ok (.invokespecial 33, 3) := by decide +kernel
theorem dL_law_25 : decode cL_law 25 = .ok (.astore_n 2, 1) := by decide +kernel
theorem dL_law_26 : decode cL_law 26 = .ok (.iconst 1, 1) := by decide +kernel
theorem dL_law_27 : decode cL_law 27 = .ok (.newarray .long, 2) := by decide +kernel
theorem dL_law_29 : decode cL_law 29 = .ok (.astore_n 3, 1) := by decide +kernel
theorem dL_law_30 : decode cL_law 30 = .ok (.iconst 1, 1) := by decide +kernel
theorem dL_law_31 : decode cL_law 31 = .ok (.istore 4, 2) := by decide +kernel
theorem dL_law_33 : decode cL_law 33 = .ok (.iload 4, 2) := by decide +kernel
theorem dL_law_35 : decode cL_law 35 = .ok (.aload_n 0, 1) := by decide +kernel
theorem dL_law_36 : decode cL_law 36 = .ok (.arraylength, 1) := by decide +kernel
theorem dL_law_37 : decode cL_law 37 = .ok (.iconst 5, 1) := by decide +kernel
theorem dL_law_38 : decode cL_law 38 = .ok (.isub, 1) := by decide +kernel
theorem dL_law_39 : decode cL_law 39 = .ok (.if_icmp .gt 663, 3) := by decide +kernel
theorem dL_law_42 : decode cL_law 42 = .ok (.aload_n 0, 1) := by decide +kernel
theorem dL_law_43 : decode cL_law 43 = .ok (.iload 4, 2) := by decide +kernel
theorem dL_law_45 : decode cL_law 45 = .ok (.iaload, 1) := by decide +kernel
theorem dL_law_46 : decode cL_law 46 = .ok (.bipush 15, 2) := by decide +kernel
theorem dL_law_48 : decode cL_law 48 = .ok (.iand, 1) := by decide +kernel
theorem dL_law_49 : decode cL_law 49 = .ok (.tableswitch 647 0 14 #[75, 143, 224, 280, 348, 373, 386, 423, 460, 497, 510, 535, 572, 597, 622], 75) := by decide +kernel
theorem dL_law_124 : decode cL_law 124 = .ok (.aload_n 1, 1) := by decide +kernel
theorem dL_law_125 : decode cL_law 125 = .ok (.aload_n 0, 1) := by decide +kernel
theorem dL_law_126 : decode cL_law 126 = .ok (.iload 4, 2) := by decide +kernel
theorem dL_law_128 : decode cL_law 128 = .ok (.iconst 1, 1) := by decide +kernel
theorem dL_law_129 : decode cL_law 129 = .ok (.iadd, 1) := by decide +kernel
theorem dL_law_130 : decode cL_law 130 = .ok (.iaload, 1) := by decide +kernel
theorem dL_law_131 : decode cL_law 131 = .ok (.aload_n 0, 1) := by decide +kernel
theorem dL_law_132 : decode cL_law 132 = .ok (.iload 4, 2) := by decide +kernel
theorem dL_law_134 : decode cL_law 134 = .ok (.iconst 2, 1) := by decide +kernel
theorem dL_law_135 : decode cL_law 135 = .ok (.iadd, 1) := by decide +kernel
theorem dL_law_136 : decode cL_law 136 = .ok (.iaload, 1) := by decide +kernel
theorem dL_law_137 : decode cL_law 137 = .ok (.aload_n 3, 1) := by decide +kernel
theorem dL_law_138 : decode cL_law 138 = .ok (.invokestatic 34, 3) := by decide +kernel
theorem dL_law_141 : decode cL_law 141 = .ok (.istore 5, 2) := by decide +kernel
theorem dL_law_143 : decode cL_law 143 = .ok (.aload_n 2, 1) := by decide +kernel
theorem dL_law_144 : decode cL_law 144 = .ok (.aload_n 0, 1) := by decide +kernel
theorem dL_law_145 : decode cL_law 145 = .ok (.iload 4, 2) := by decide +kernel
theorem dL_law_147 : decode cL_law 147 = .ok (.iconst 1, 1) := by decide +kernel
theorem dL_law_148 : decode cL_law 148 = .ok (.iadd, 1) := by decide +kernel
theorem dL_law_149 : decode cL_law 149 = .ok (.iaload, 1) := by decide +kernel
theorem dL_law_150 : decode cL_law 150 = .ok (.aload_n 0, 1) := by decide +kernel
theorem dL_law_151 : decode cL_law 151 = .ok (.iload 4, 2) := by decide +kernel
theorem dL_law_153 : decode cL_law 153 = .ok (.iconst 2, 1) := by decide +kernel
theorem dL_law_154 : decode cL_law 154 = .ok (.iadd, 1) := by decide +kernel
theorem dL_law_155 : decode cL_law 155 = .ok (.iaload, 1) := by decide +kernel
theorem dL_law_156 : decode cL_law 156 = .ok (.invokevirtual 37, 3) := by decide +kernel
theorem dL_law_159 : decode cL_law 159 = .ok (.istore 6, 2) := by decide +kernel
theorem dL_law_161 : decode cL_law 161 = .ok (.aload_n 2, 1) := by decide +kernel
theorem dL_law_162 : decode cL_law 162 = .ok (.invokevirtual 38, 3) := by decide +kernel
theorem dL_law_165 : decode cL_law 165 = .ok (.iload 5, 2) := by decide +kernel
theorem dL_law_167 : decode cL_law 167 = .ok (.if_icmp .eq 5, 3) := by decide +kernel
theorem dL_law_170 : decode cL_law 170 = .ok (.iconst 0, 1) := by decide +kernel
theorem dL_law_171 : decode cL_law 171 = .ok (.ireturn, 1) := by decide +kernel
theorem dL_law_172 : decode cL_law 172 = .ok (.iload 5, 2) := by decide +kernel
theorem dL_law_174 : decode cL_law 174 = .ok (.ifCond .ne 15, 3) := by decide +kernel
theorem dL_law_177 : decode cL_law 177 = .ok (.aload_n 3, 1) := by decide +kernel
theorem dL_law_178 : decode cL_law 178 = .ok (.iconst 0, 1) := by decide +kernel
theorem dL_law_179 : decode cL_law 179 = .ok (.laload, 1) := by decide +kernel
theorem dL_law_180 : decode cL_law 180 = .ok (.iload 6, 2) := by decide +kernel
theorem dL_law_182 : decode cL_law 182 = .ok (.i2l, 1) := by decide +kernel
theorem dL_law_183 : decode cL_law 183 = .ok (.lcmp, 1) := by decide +kernel
theorem dL_law_184 : decode cL_law 184 = .ok (.ifCond .eq 5, 3) := by decide +kernel
theorem dL_law_187 : decode cL_law 187 = .ok (.iconst 0, 1) := by decide +kernel
theorem dL_law_188 : decode cL_law 188 = .ok (.ireturn, 1) := by decide +kernel
theorem dL_law_189 : decode cL_law 189 = .ok (.goto 507, 3) := by decide +kernel
theorem dL_law_192 : decode cL_law 192 = .ok (.aload_n 1, 1) := by decide +kernel
theorem dL_law_193 : decode cL_law 193 = .ok (.aload_n 0, 1) := by decide +kernel
theorem dL_law_194 : decode cL_law 194 = .ok (.iload 4, 2) := by decide +kernel
theorem dL_law_196 : decode cL_law 196 = .ok (.iconst 1, 1) := by decide +kernel
theorem dL_law_197 : decode cL_law 197 = .ok (.iadd, 1) := by decide +kernel
theorem dL_law_198 : decode cL_law 198 = .ok (.iaload, 1) := by decide +kernel
theorem dL_law_199 : decode cL_law 199 = .ok (.aload_n 0, 1) := by decide +kernel
theorem dL_law_200 : decode cL_law 200 = .ok (.iload 4, 2) := by decide +kernel
theorem dL_law_202 : decode cL_law 202 = .ok (.iconst 2, 1) := by decide +kernel
theorem dL_law_203 : decode cL_law 203 = .ok (.iadd, 1) := by decide +kernel
theorem dL_law_204 : decode cL_law 204 = .ok (.iaload, 1) := by decide +kernel
theorem dL_law_205 : decode cL_law 205 = .ok (.aload_n 0, 1) := by decide +kernel
theorem dL_law_206 : decode cL_law 206 = .ok (.iload 4, 2) := by decide +kernel
theorem dL_law_208 : decode cL_law 208 = .ok (.iconst 3, 1) := by decide +kernel
theorem dL_law_209 : decode cL_law 209 = .ok (.iadd, 1) := by decide +kernel
theorem dL_law_210 : decode cL_law 210 = .ok (.iaload, 1) := by decide +kernel
theorem dL_law_211 : decode cL_law 211 = .ok (.i2l, 1) := by decide +kernel
theorem dL_law_212 : decode cL_law 212 = .ok (.bipush 32, 2) := by decide +kernel
theorem dL_law_214 : decode cL_law 214 = .ok (.lshl, 1) := by decide +kernel
theorem dL_law_215 : decode cL_law 215 = .ok (.aload_n 0, 1) := by decide +kernel
theorem dL_law_216 : decode cL_law 216 = .ok (.iload 4, 2) := by decide +kernel
theorem dL_law_218 : decode cL_law 218 = .ok (.iconst 4, 1) := by decide +kernel
theorem dL_law_219 : decode cL_law 219 = .ok (.iadd, 1) := by decide +kernel
theorem dL_law_220 : decode cL_law 220 = .ok (.iaload, 1) := by decide +kernel
theorem dL_law_221 : decode cL_law 221 = .ok (.i2l, 1) := by decide +kernel
theorem dL_law_222 : decode cL_law 222 = .ok (.ldc2_w 42, 3) := by decide +kernel
theorem dL_law_225 : decode cL_law 225 = .ok (.land, 1) := by decide +kernel
theorem dL_law_226 : decode cL_law 226 = .ok (.lor, 1) := by decide +kernel
theorem dL_law_227 : decode cL_law 227 = .ok (.invokevirtual 44, 3) := by decide +kernel
theorem dL_law_230 : decode cL_law 230 = .ok (.aload_n 2, 1) := by decide +kernel
theorem dL_law_231 : decode cL_law 231 = .ok (.aload_n 0, 1) := by decide +kernel
theorem dL_law_232 : decode cL_law 232 = .ok (.iload 4, 2) := by decide +kernel
theorem dL_law_234 : decode cL_law 234 = .ok (.iconst 1, 1) := by decide +kernel
theorem dL_law_235 : decode cL_law 235 = .ok (.iadd, 1) := by decide +kernel
theorem dL_law_236 : decode cL_law 236 = .ok (.iaload, 1) := by decide +kernel
theorem dL_law_237 : decode cL_law 237 = .ok (.aload_n 0, 1) := by decide +kernel
theorem dL_law_238 : decode cL_law 238 = .ok (.iload 4, 2) := by decide +kernel
theorem dL_law_240 : decode cL_law 240 = .ok (.iconst 2, 1) := by decide +kernel
theorem dL_law_241 : decode cL_law 241 = .ok (.iadd, 1) := by decide +kernel
theorem dL_law_242 : decode cL_law 242 = .ok (.iaload, 1) := by decide +kernel
theorem dL_law_243 : decode cL_law 243 = .ok (.aload_n 0, 1) := by decide +kernel
theorem dL_law_244 : decode cL_law 244 = .ok (.iload 4, 2) := by decide +kernel
theorem dL_law_246 : decode cL_law 246 = .ok (.iconst 3, 1) := by decide +kernel
theorem dL_law_247 : decode cL_law 247 = .ok (.iadd, 1) := by decide +kernel
theorem dL_law_248 : decode cL_law 248 = .ok (.iaload, 1) := by decide +kernel
theorem dL_law_249 : decode cL_law 249 = .ok (.i2l, 1) := by decide +kernel
theorem dL_law_250 : decode cL_law 250 = .ok (.bipush 32, 2) := by decide +kernel
theorem dL_law_252 : decode cL_law 252 = .ok (.lshl, 1) := by decide +kernel
theorem dL_law_253 : decode cL_law 253 = .ok (.aload_n 0, 1) := by decide +kernel
theorem dL_law_254 : decode cL_law 254 = .ok (.iload 4, 2) := by decide +kernel
theorem dL_law_256 : decode cL_law 256 = .ok (.iconst 4, 1) := by decide +kernel
theorem dL_law_257 : decode cL_law 257 = .ok (.iadd, 1) := by decide +kernel
theorem dL_law_258 : decode cL_law 258 = .ok (.iaload, 1) := by decide +kernel
theorem dL_law_259 : decode cL_law 259 = .ok (.i2l, 1) := by decide +kernel
theorem dL_law_260 : decode cL_law 260 = .ok (.ldc2_w 42, 3) := by decide +kernel
theorem dL_law_263 : decode cL_law 263 = .ok (.land, 1) := by decide +kernel
theorem dL_law_264 : decode cL_law 264 = .ok (.lor, 1) := by decide +kernel
theorem dL_law_265 : decode cL_law 265 = .ok (.invokevirtual 48, 3) := by decide +kernel
theorem dL_law_268 : decode cL_law 268 = .ok (.if_icmp .eq 428, 3) := by decide +kernel
theorem dL_law_271 : decode cL_law 271 = .ok (.iconst 0, 1) := by decide +kernel
theorem dL_law_272 : decode cL_law 272 = .ok (.ireturn, 1) := by decide +kernel
theorem dL_law_273 : decode cL_law 273 = .ok (.aload_n 1, 1) := by decide +kernel
theorem dL_law_274 : decode cL_law 274 = .ok (.aload_n 0, 1) := by decide +kernel
theorem dL_law_275 : decode cL_law 275 = .ok (.iload 4, 2) := by decide +kernel
theorem dL_law_277 : decode cL_law 277 = .ok (.iconst 1, 1) := by decide +kernel
theorem dL_law_278 : decode cL_law 278 = .ok (.iadd, 1) := by decide +kernel
theorem dL_law_279 : decode cL_law 279 = .ok (.iaload, 1) := by decide +kernel
theorem dL_law_280 : decode cL_law 280 = .ok (.aload_n 3, 1) := by decide +kernel
theorem dL_law_281 : decode cL_law 281 = .ok (.invokestatic 49, 3) := by decide +kernel
theorem dL_law_284 : decode cL_law 284 = .ok (.istore 5, 2) := by decide +kernel
theorem dL_law_286 : decode cL_law 286 = .ok (.aload_n 2, 1) := by decide +kernel
theorem dL_law_287 : decode cL_law 287 = .ok (.aload_n 0, 1) := by decide +kernel
theorem dL_law_288 : decode cL_law 288 = .ok (.iload 4, 2) := by decide +kernel
theorem dL_law_290 : decode cL_law 290 = .ok (.iconst 1, 1) := by decide +kernel
theorem dL_law_291 : decode cL_law 291 = .ok (.iadd, 1) := by decide +kernel
theorem dL_law_292 : decode cL_law 292 = .ok (.iaload, 1) := by decide +kernel
theorem dL_law_293 : decode cL_law 293 = .ok (.invokevirtual 52, 3) := by decide +kernel
theorem dL_law_296 : decode cL_law 296 = .ok (.istore 6, 2) := by decide +kernel
theorem dL_law_298 : decode cL_law 298 = .ok (.aload_n 2, 1) := by decide +kernel
theorem dL_law_299 : decode cL_law 299 = .ok (.invokevirtual 38, 3) := by decide +kernel
theorem dL_law_302 : decode cL_law 302 = .ok (.iload 5, 2) := by decide +kernel
theorem dL_law_304 : decode cL_law 304 = .ok (.if_icmp .eq 5, 3) := by decide +kernel
theorem dL_law_307 : decode cL_law 307 = .ok (.iconst 0, 1) := by decide +kernel
theorem dL_law_308 : decode cL_law 308 = .ok (.ireturn, 1) := by decide +kernel
theorem dL_law_309 : decode cL_law 309 = .ok (.iload 5, 2) := by decide +kernel
theorem dL_law_311 : decode cL_law 311 = .ok (.ifCond .ne 15, 3) := by decide +kernel
theorem dL_law_314 : decode cL_law 314 = .ok (.aload_n 3, 1) := by decide +kernel
theorem dL_law_315 : decode cL_law 315 = .ok (.iconst 0, 1) := by decide +kernel
theorem dL_law_316 : decode cL_law 316 = .ok (.laload, 1) := by decide +kernel
theorem dL_law_317 : decode cL_law 317 = .ok (.iload 6, 2) := by decide +kernel
theorem dL_law_319 : decode cL_law 319 = .ok (.i2l, 1) := by decide +kernel
theorem dL_law_320 : decode cL_law 320 = .ok (.lcmp, 1) := by decide +kernel
theorem dL_law_321 : decode cL_law 321 = .ok (.ifCond .eq 5, 3) := by decide +kernel
theorem dL_law_324 : decode cL_law 324 = .ok (.iconst 0, 1) := by decide +kernel
theorem dL_law_325 : decode cL_law 325 = .ok (.ireturn, 1) := by decide +kernel
theorem dL_law_326 : decode cL_law 326 = .ok (.goto 370, 3) := by decide +kernel
theorem dL_law_329 : decode cL_law 329 = .ok (.aload_n 1, 1) := by decide +kernel
theorem dL_law_330 : decode cL_law 330 = .ok (.aload_n 0, 1) := by decide +kernel
theorem dL_law_331 : decode cL_law 331 = .ok (.iload 4, 2) := by decide +kernel
theorem dL_law_333 : decode cL_law 333 = .ok (.iconst 1, 1) := by decide +kernel
theorem dL_law_334 : decode cL_law 334 = .ok (.iadd, 1) := by decide +kernel
theorem dL_law_335 : decode cL_law 335 = .ok (.iaload, 1) := by decide +kernel
theorem dL_law_336 : decode cL_law 336 = .ok (.aload_n 0, 1) := by decide +kernel
theorem dL_law_337 : decode cL_law 337 = .ok (.iload 4, 2) := by decide +kernel
theorem dL_law_339 : decode cL_law 339 = .ok (.iconst 2, 1) := by decide +kernel
theorem dL_law_340 : decode cL_law 340 = .ok (.iadd, 1) := by decide +kernel
theorem dL_law_341 : decode cL_law 341 = .ok (.iaload, 1) := by decide +kernel
theorem dL_law_342 : decode cL_law 342 = .ok (.aload_n 3, 1) := by decide +kernel
theorem dL_law_343 : decode cL_law 343 = .ok (.invokestatic 53, 3) := by decide +kernel
theorem dL_law_346 : decode cL_law 346 = .ok (.istore 5, 2) := by decide +kernel
theorem dL_law_348 : decode cL_law 348 = .ok (.aload_n 2, 1) := by decide +kernel
theorem dL_law_349 : decode cL_law 349 = .ok (.aload_n 0, 1) := by decide +kernel
theorem dL_law_350 : decode cL_law 350 = .ok (.iload 4, 2) := by decide +kernel
theorem dL_law_352 : decode cL_law 352 = .ok (.iconst 1, 1) := by decide +kernel
theorem dL_law_353 : decode cL_law 353 = .ok (.iadd, 1) := by decide +kernel
theorem dL_law_354 : decode cL_law 354 = .ok (.iaload, 1) := by decide +kernel
theorem dL_law_355 : decode cL_law 355 = .ok (.aload_n 0, 1) := by decide +kernel
theorem dL_law_356 : decode cL_law 356 = .ok (.iload 4, 2) := by decide +kernel
theorem dL_law_358 : decode cL_law 358 = .ok (.iconst 2, 1) := by decide +kernel
theorem dL_law_359 : decode cL_law 359 = .ok (.iadd, 1) := by decide +kernel
theorem dL_law_360 : decode cL_law 360 = .ok (.iaload, 1) := by decide +kernel
theorem dL_law_361 : decode cL_law 361 = .ok (.invokevirtual 55, 3) := by decide +kernel
theorem dL_law_364 : decode cL_law 364 = .ok (.istore 6, 2) := by decide +kernel
theorem dL_law_366 : decode cL_law 366 = .ok (.aload_n 2, 1) := by decide +kernel
theorem dL_law_367 : decode cL_law 367 = .ok (.invokevirtual 38, 3) := by decide +kernel
theorem dL_law_370 : decode cL_law 370 = .ok (.iload 5, 2) := by decide +kernel
theorem dL_law_372 : decode cL_law 372 = .ok (.if_icmp .eq 5, 3) := by decide +kernel
theorem dL_law_375 : decode cL_law 375 = .ok (.iconst 0, 1) := by decide +kernel
theorem dL_law_376 : decode cL_law 376 = .ok (.ireturn, 1) := by decide +kernel
theorem dL_law_377 : decode cL_law 377 = .ok (.iload 5, 2) := by decide +kernel
theorem dL_law_379 : decode cL_law 379 = .ok (.ifCond .ne 15, 3) := by decide +kernel
theorem dL_law_382 : decode cL_law 382 = .ok (.aload_n 3, 1) := by decide +kernel
theorem dL_law_383 : decode cL_law 383 = .ok (.iconst 0, 1) := by decide +kernel
theorem dL_law_384 : decode cL_law 384 = .ok (.laload, 1) := by decide +kernel
theorem dL_law_385 : decode cL_law 385 = .ok (.iload 6, 2) := by decide +kernel
theorem dL_law_387 : decode cL_law 387 = .ok (.i2l, 1) := by decide +kernel
theorem dL_law_388 : decode cL_law 388 = .ok (.lcmp, 1) := by decide +kernel
theorem dL_law_389 : decode cL_law 389 = .ok (.ifCond .eq 5, 3) := by decide +kernel
theorem dL_law_392 : decode cL_law 392 = .ok (.iconst 0, 1) := by decide +kernel
theorem dL_law_393 : decode cL_law 393 = .ok (.ireturn, 1) := by decide +kernel
theorem dL_law_394 : decode cL_law 394 = .ok (.goto 302, 3) := by decide +kernel
theorem dL_law_397 : decode cL_law 397 = .ok (.aload_n 1, 1) := by decide +kernel
theorem dL_law_398 : decode cL_law 398 = .ok (.aload_n 0, 1) := by decide +kernel
theorem dL_law_399 : decode cL_law 399 = .ok (.iload 4, 2) := by decide +kernel
theorem dL_law_401 : decode cL_law 401 = .ok (.iconst 1, 1) := by decide +kernel
theorem dL_law_402 : decode cL_law 402 = .ok (.iadd, 1) := by decide +kernel
theorem dL_law_403 : decode cL_law 403 = .ok (.iaload, 1) := by decide +kernel
theorem dL_law_404 : decode cL_law 404 = .ok (.invokevirtual 56, 3) := by decide +kernel
theorem dL_law_407 : decode cL_law 407 = .ok (.aload_n 2, 1) := by decide +kernel
theorem dL_law_408 : decode cL_law 408 = .ok (.aload_n 0, 1) := by decide +kernel
theorem dL_law_409 : decode cL_law 409 = .ok (.iload 4, 2) := by decide +kernel
theorem dL_law_411 : decode cL_law 411 = .ok (.iconst 1, 1) := by decide +kernel
theorem dL_law_412 : decode cL_law 412 = .ok (.iadd, 1) := by decide +kernel
theorem dL_law_413 : decode cL_law 413 = .ok (.iaload, 1) := by decide +kernel
theorem dL_law_414 : decode cL_law 414 = .ok (.invokevirtual 59, 3) := by decide +kernel
theorem dL_law_417 : decode cL_law 417 = .ok (.if_icmp .eq 279, 3) := by decide +kernel
theorem dL_law_420 : decode cL_law 420 = .ok (.iconst 0, 1) := by decide +kernel
theorem dL_law_421 : decode cL_law 421 = .ok (.ireturn, 1) := by decide +kernel
theorem dL_law_422 : decode cL_law 422 = .ok (.aload_n 1, 1) := by decide +kernel
theorem dL_law_423 : decode cL_law 423 = .ok (.invokevirtual 60, 3) := by decide +kernel
theorem dL_law_426 : decode cL_law 426 = .ok (.aload_n 2, 1) := by decide +kernel
theorem dL_law_427 : decode cL_law 427 = .ok (.invokevirtual 63, 3) := by decide +kernel
theorem dL_law_430 : decode cL_law 430 = .ok (.if_icmp .eq 266, 3) := by decide +kernel
theorem dL_law_433 : decode cL_law 433 = .ok (.iconst 0, 1) := by decide +kernel
theorem dL_law_434 : decode cL_law 434 = .ok (.ireturn, 1) := by decide +kernel
theorem dL_law_435 : decode cL_law 435 = .ok (.aload_n 1, 1) := by decide +kernel
theorem dL_law_436 : decode cL_law 436 = .ok (.aload_n 0, 1) := by decide +kernel
theorem dL_law_437 : decode cL_law 437 = .ok (.iload 4, 2) := by decide +kernel
theorem dL_law_439 : decode cL_law 439 = .ok (.iconst 1, 1) := by decide +kernel
theorem dL_law_440 : decode cL_law 440 = .ok (.iadd, 1) := by decide +kernel
theorem dL_law_441 : decode cL_law 441 = .ok (.iaload, 1) := by decide +kernel
theorem dL_law_442 : decode cL_law 442 = .ok (.aload_n 0, 1) := by decide +kernel
theorem dL_law_443 : decode cL_law 443 = .ok (.iload 4, 2) := by decide +kernel
theorem dL_law_445 : decode cL_law 445 = .ok (.iconst 2, 1) := by decide +kernel
theorem dL_law_446 : decode cL_law 446 = .ok (.iadd, 1) := by decide +kernel
theorem dL_law_447 : decode cL_law 447 = .ok (.iaload, 1) := by decide +kernel
theorem dL_law_448 : decode cL_law 448 = .ok (.invokevirtual 64, 3) := by decide +kernel
theorem dL_law_451 : decode cL_law 451 = .ok (.aload_n 2, 1) := by decide +kernel
theorem dL_law_452 : decode cL_law 452 = .ok (.aload_n 0, 1) := by decide +kernel
theorem dL_law_453 : decode cL_law 453 = .ok (.iload 4, 2) := by decide +kernel
theorem dL_law_455 : decode cL_law 455 = .ok (.iconst 1, 1) := by decide +kernel
theorem dL_law_456 : decode cL_law 456 = .ok (.iadd, 1) := by decide +kernel
theorem dL_law_457 : decode cL_law 457 = .ok (.iaload, 1) := by decide +kernel
theorem dL_law_458 : decode cL_law 458 = .ok (.aload_n 0, 1) := by decide +kernel
theorem dL_law_459 : decode cL_law 459 = .ok (.iload 4, 2) := by decide +kernel
theorem dL_law_461 : decode cL_law 461 = .ok (.iconst 2, 1) := by decide +kernel
theorem dL_law_462 : decode cL_law 462 = .ok (.iadd, 1) := by decide +kernel
theorem dL_law_463 : decode cL_law 463 = .ok (.iaload, 1) := by decide +kernel
theorem dL_law_464 : decode cL_law 464 = .ok (.invokevirtual 67, 3) := by decide +kernel
theorem dL_law_467 : decode cL_law 467 = .ok (.if_icmp .eq 229, 3) := by decide +kernel
theorem dL_law_470 : decode cL_law 470 = .ok (.iconst 0, 1) := by decide +kernel
theorem dL_law_471 : decode cL_law 471 = .ok (.ireturn, 1) := by decide +kernel
theorem dL_law_472 : decode cL_law 472 = .ok (.aload_n 1, 1) := by decide +kernel
theorem dL_law_473 : decode cL_law 473 = .ok (.aload_n 0, 1) := by decide +kernel
theorem dL_law_474 : decode cL_law 474 = .ok (.iload 4, 2) := by decide +kernel
theorem dL_law_476 : decode cL_law 476 = .ok (.iconst 1, 1) := by decide +kernel
theorem dL_law_477 : decode cL_law 477 = .ok (.iadd, 1) := by decide +kernel
theorem dL_law_478 : decode cL_law 478 = .ok (.iaload, 1) := by decide +kernel
theorem dL_law_479 : decode cL_law 479 = .ok (.aload_n 0, 1) := by decide +kernel
theorem dL_law_480 : decode cL_law 480 = .ok (.iload 4, 2) := by decide +kernel
theorem dL_law_482 : decode cL_law 482 = .ok (.iconst 2, 1) := by decide +kernel
theorem dL_law_483 : decode cL_law 483 = .ok (.iadd, 1) := by decide +kernel
theorem dL_law_484 : decode cL_law 484 = .ok (.iaload, 1) := by decide +kernel
theorem dL_law_485 : decode cL_law 485 = .ok (.invokevirtual 68, 3) := by decide +kernel
theorem dL_law_488 : decode cL_law 488 = .ok (.aload_n 2, 1) := by decide +kernel
theorem dL_law_489 : decode cL_law 489 = .ok (.aload_n 0, 1) := by decide +kernel
theorem dL_law_490 : decode cL_law 490 = .ok (.iload 4, 2) := by decide +kernel
theorem dL_law_492 : decode cL_law 492 = .ok (.iconst 1, 1) := by decide +kernel
theorem dL_law_493 : decode cL_law 493 = .ok (.iadd, 1) := by decide +kernel
theorem dL_law_494 : decode cL_law 494 = .ok (.iaload, 1) := by decide +kernel
theorem dL_law_495 : decode cL_law 495 = .ok (.aload_n 0, 1) := by decide +kernel
theorem dL_law_496 : decode cL_law 496 = .ok (.iload 4, 2) := by decide +kernel
theorem dL_law_498 : decode cL_law 498 = .ok (.iconst 2, 1) := by decide +kernel
theorem dL_law_499 : decode cL_law 499 = .ok (.iadd, 1) := by decide +kernel
theorem dL_law_500 : decode cL_law 500 = .ok (.iaload, 1) := by decide +kernel
theorem dL_law_501 : decode cL_law 501 = .ok (.invokevirtual 71, 3) := by decide +kernel
theorem dL_law_504 : decode cL_law 504 = .ok (.if_icmp .eq 192, 3) := by decide +kernel
theorem dL_law_507 : decode cL_law 507 = .ok (.iconst 0, 1) := by decide +kernel
theorem dL_law_508 : decode cL_law 508 = .ok (.ireturn, 1) := by decide +kernel
theorem dL_law_509 : decode cL_law 509 = .ok (.aload_n 1, 1) := by decide +kernel
theorem dL_law_510 : decode cL_law 510 = .ok (.aload_n 0, 1) := by decide +kernel
theorem dL_law_511 : decode cL_law 511 = .ok (.iload 4, 2) := by decide +kernel
theorem dL_law_513 : decode cL_law 513 = .ok (.iconst 1, 1) := by decide +kernel
theorem dL_law_514 : decode cL_law 514 = .ok (.iadd, 1) := by decide +kernel
theorem dL_law_515 : decode cL_law 515 = .ok (.iaload, 1) := by decide +kernel
theorem dL_law_516 : decode cL_law 516 = .ok (.aload_n 0, 1) := by decide +kernel
theorem dL_law_517 : decode cL_law 517 = .ok (.iload 4, 2) := by decide +kernel
theorem dL_law_519 : decode cL_law 519 = .ok (.iconst 2, 1) := by decide +kernel
theorem dL_law_520 : decode cL_law 520 = .ok (.iadd, 1) := by decide +kernel
theorem dL_law_521 : decode cL_law 521 = .ok (.iaload, 1) := by decide +kernel
theorem dL_law_522 : decode cL_law 522 = .ok (.invokevirtual 72, 3) := by decide +kernel
theorem dL_law_525 : decode cL_law 525 = .ok (.aload_n 2, 1) := by decide +kernel
theorem dL_law_526 : decode cL_law 526 = .ok (.aload_n 0, 1) := by decide +kernel
theorem dL_law_527 : decode cL_law 527 = .ok (.iload 4, 2) := by decide +kernel
theorem dL_law_529 : decode cL_law 529 = .ok (.iconst 1, 1) := by decide +kernel
theorem dL_law_530 : decode cL_law 530 = .ok (.iadd, 1) := by decide +kernel
theorem dL_law_531 : decode cL_law 531 = .ok (.iaload, 1) := by decide +kernel
theorem dL_law_532 : decode cL_law 532 = .ok (.aload_n 0, 1) := by decide +kernel
theorem dL_law_533 : decode cL_law 533 = .ok (.iload 4, 2) := by decide +kernel
theorem dL_law_535 : decode cL_law 535 = .ok (.iconst 2, 1) := by decide +kernel
theorem dL_law_536 : decode cL_law 536 = .ok (.iadd, 1) := by decide +kernel
theorem dL_law_537 : decode cL_law 537 = .ok (.iaload, 1) := by decide +kernel
theorem dL_law_538 : decode cL_law 538 = .ok (.invokevirtual 75, 3) := by decide +kernel
theorem dL_law_541 : decode cL_law 541 = .ok (.if_icmp .eq 155, 3) := by decide +kernel
theorem dL_law_544 : decode cL_law 544 = .ok (.iconst 0, 1) := by decide +kernel
theorem dL_law_545 : decode cL_law 545 = .ok (.ireturn, 1) := by decide +kernel
theorem dL_law_546 : decode cL_law 546 = .ok (.aload_n 1, 1) := by decide +kernel
theorem dL_law_547 : decode cL_law 547 = .ok (.invokevirtual 76, 3) := by decide +kernel
theorem dL_law_550 : decode cL_law 550 = .ok (.aload_n 2, 1) := by decide +kernel
theorem dL_law_551 : decode cL_law 551 = .ok (.invokevirtual 79, 3) := by decide +kernel
theorem dL_law_554 : decode cL_law 554 = .ok (.if_icmp .eq 142, 3) := by decide +kernel
theorem dL_law_557 : decode cL_law 557 = .ok (.iconst 0, 1) := by decide +kernel
theorem dL_law_558 : decode cL_law 558 = .ok (.ireturn, 1) := by decide +kernel
theorem dL_law_559 : decode cL_law 559 = .ok (.aload_n 1, 1) := by decide +kernel
theorem dL_law_560 : decode cL_law 560 = .ok (.aload_n 0, 1) := by decide +kernel
theorem dL_law_561 : decode cL_law 561 = .ok (.iload 4, 2) := by decide +kernel
theorem dL_law_563 : decode cL_law 563 = .ok (.iconst 1, 1) := by decide +kernel
theorem dL_law_564 : decode cL_law 564 = .ok (.iadd, 1) := by decide +kernel
theorem dL_law_565 : decode cL_law 565 = .ok (.iaload, 1) := by decide +kernel
theorem dL_law_566 : decode cL_law 566 = .ok (.invokevirtual 80, 3) := by decide +kernel
theorem dL_law_569 : decode cL_law 569 = .ok (.aload_n 2, 1) := by decide +kernel
theorem dL_law_570 : decode cL_law 570 = .ok (.aload_n 0, 1) := by decide +kernel
theorem dL_law_571 : decode cL_law 571 = .ok (.iload 4, 2) := by decide +kernel
theorem dL_law_573 : decode cL_law 573 = .ok (.iconst 1, 1) := by decide +kernel
theorem dL_law_574 : decode cL_law 574 = .ok (.iadd, 1) := by decide +kernel
theorem dL_law_575 : decode cL_law 575 = .ok (.iaload, 1) := by decide +kernel
theorem dL_law_576 : decode cL_law 576 = .ok (.invokevirtual 83, 3) := by decide +kernel
theorem dL_law_579 : decode cL_law 579 = .ok (.if_icmp .eq 117, 3) := by decide +kernel
theorem dL_law_582 : decode cL_law 582 = .ok (.iconst 0, 1) := by decide +kernel
theorem dL_law_583 : decode cL_law 583 = .ok (.ireturn, 1) := by decide +kernel
theorem dL_law_584 : decode cL_law 584 = .ok (.aload_n 1, 1) := by decide +kernel
theorem dL_law_585 : decode cL_law 585 = .ok (.aload_n 0, 1) := by decide +kernel
theorem dL_law_586 : decode cL_law 586 = .ok (.iload 4, 2) := by decide +kernel
theorem dL_law_588 : decode cL_law 588 = .ok (.iconst 1, 1) := by decide +kernel
theorem dL_law_589 : decode cL_law 589 = .ok (.iadd, 1) := by decide +kernel
theorem dL_law_590 : decode cL_law 590 = .ok (.iaload, 1) := by decide +kernel
theorem dL_law_591 : decode cL_law 591 = .ok (.aload_n 0, 1) := by decide +kernel
theorem dL_law_592 : decode cL_law 592 = .ok (.iload 4, 2) := by decide +kernel
theorem dL_law_594 : decode cL_law 594 = .ok (.iconst 2, 1) := by decide +kernel
theorem dL_law_595 : decode cL_law 595 = .ok (.iadd, 1) := by decide +kernel
theorem dL_law_596 : decode cL_law 596 = .ok (.iaload, 1) := by decide +kernel
theorem dL_law_597 : decode cL_law 597 = .ok (.invokevirtual 84, 3) := by decide +kernel
theorem dL_law_600 : decode cL_law 600 = .ok (.aload_n 2, 1) := by decide +kernel
theorem dL_law_601 : decode cL_law 601 = .ok (.aload_n 0, 1) := by decide +kernel
theorem dL_law_602 : decode cL_law 602 = .ok (.iload 4, 2) := by decide +kernel
theorem dL_law_604 : decode cL_law 604 = .ok (.iconst 1, 1) := by decide +kernel
theorem dL_law_605 : decode cL_law 605 = .ok (.iadd, 1) := by decide +kernel
theorem dL_law_606 : decode cL_law 606 = .ok (.iaload, 1) := by decide +kernel
theorem dL_law_607 : decode cL_law 607 = .ok (.aload_n 0, 1) := by decide +kernel
theorem dL_law_608 : decode cL_law 608 = .ok (.iload 4, 2) := by decide +kernel
theorem dL_law_610 : decode cL_law 610 = .ok (.iconst 2, 1) := by decide +kernel
theorem dL_law_611 : decode cL_law 611 = .ok (.iadd, 1) := by decide +kernel
theorem dL_law_612 : decode cL_law 612 = .ok (.iaload, 1) := by decide +kernel
theorem dL_law_613 : decode cL_law 613 = .ok (.invokevirtual 87, 3) := by decide +kernel
theorem dL_law_616 : decode cL_law 616 = .ok (.if_icmp .eq 80, 3) := by decide +kernel
theorem dL_law_619 : decode cL_law 619 = .ok (.iconst 0, 1) := by decide +kernel
theorem dL_law_620 : decode cL_law 620 = .ok (.ireturn, 1) := by decide +kernel
theorem dL_law_621 : decode cL_law 621 = .ok (.aload_n 1, 1) := by decide +kernel
theorem dL_law_622 : decode cL_law 622 = .ok (.aload_n 0, 1) := by decide +kernel
theorem dL_law_623 : decode cL_law 623 = .ok (.iload 4, 2) := by decide +kernel
theorem dL_law_625 : decode cL_law 625 = .ok (.iconst 1, 1) := by decide +kernel
theorem dL_law_626 : decode cL_law 626 = .ok (.iadd, 1) := by decide +kernel
theorem dL_law_627 : decode cL_law 627 = .ok (.iaload, 1) := by decide +kernel
theorem dL_law_628 : decode cL_law 628 = .ok (.invokevirtual 88, 3) := by decide +kernel
theorem dL_law_631 : decode cL_law 631 = .ok (.aload_n 2, 1) := by decide +kernel
theorem dL_law_632 : decode cL_law 632 = .ok (.aload_n 0, 1) := by decide +kernel
theorem dL_law_633 : decode cL_law 633 = .ok (.iload 4, 2) := by decide +kernel
theorem dL_law_635 : decode cL_law 635 = .ok (.iconst 1, 1) := by decide +kernel
theorem dL_law_636 : decode cL_law 636 = .ok (.iadd, 1) := by decide +kernel
theorem dL_law_637 : decode cL_law 637 = .ok (.iaload, 1) := by decide +kernel
theorem dL_law_638 : decode cL_law 638 = .ok (.invokevirtual 91, 3) := by decide +kernel
theorem dL_law_641 : decode cL_law 641 = .ok (.if_icmp .eq 55, 3) := by decide +kernel
theorem dL_law_644 : decode cL_law 644 = .ok (.iconst 0, 1) := by decide +kernel
theorem dL_law_645 : decode cL_law 645 = .ok (.ireturn, 1) := by decide +kernel
theorem dL_law_646 : decode cL_law 646 = .ok (.aload_n 1, 1) := by decide +kernel
theorem dL_law_647 : decode cL_law 647 = .ok (.aload_n 0, 1) := by decide +kernel
theorem dL_law_648 : decode cL_law 648 = .ok (.iload 4, 2) := by decide +kernel
theorem dL_law_650 : decode cL_law 650 = .ok (.iconst 1, 1) := by decide +kernel
theorem dL_law_651 : decode cL_law 651 = .ok (.iadd, 1) := by decide +kernel
theorem dL_law_652 : decode cL_law 652 = .ok (.iaload, 1) := by decide +kernel
theorem dL_law_653 : decode cL_law 653 = .ok (.invokevirtual 92, 3) := by decide +kernel
theorem dL_law_656 : decode cL_law 656 = .ok (.aload_n 2, 1) := by decide +kernel
theorem dL_law_657 : decode cL_law 657 = .ok (.aload_n 0, 1) := by decide +kernel
theorem dL_law_658 : decode cL_law 658 = .ok (.iload 4, 2) := by decide +kernel
theorem dL_law_660 : decode cL_law 660 = .ok (.iconst 1, 1) := by decide +kernel
theorem dL_law_661 : decode cL_law 661 = .ok (.iadd, 1) := by decide +kernel
theorem dL_law_662 : decode cL_law 662 = .ok (.iaload, 1) := by decide +kernel
theorem dL_law_663 : decode cL_law 663 = .ok (.invokevirtual 95, 3) := by decide +kernel
theorem dL_law_666 : decode cL_law 666 = .ok (.if_icmp .eq 30, 3) := by decide +kernel
theorem dL_law_669 : decode cL_law 669 = .ok (.iconst 0, 1) := by decide +kernel
theorem dL_law_670 : decode cL_law 670 = .ok (.ireturn, 1) := by decide +kernel
theorem dL_law_671 : decode cL_law 671 = .ok (.aload_n 1, 1) := by decide +kernel
theorem dL_law_672 : decode cL_law 672 = .ok (.aload_n 0, 1) := by decide +kernel
theorem dL_law_673 : decode cL_law 673 = .ok (.iload 4, 2) := by decide +kernel
theorem dL_law_675 : decode cL_law 675 = .ok (.iconst 1, 1) := by decide +kernel
theorem dL_law_676 : decode cL_law 676 = .ok (.iadd, 1) := by decide +kernel
theorem dL_law_677 : decode cL_law 677 = .ok (.iaload, 1) := by decide +kernel
theorem dL_law_678 : decode cL_law 678 = .ok (.invokevirtual 96, 3) := by decide +kernel
theorem dL_law_681 : decode cL_law 681 = .ok (.aload_n 2, 1) := by decide +kernel
theorem dL_law_682 : decode cL_law 682 = .ok (.aload_n 0, 1) := by decide +kernel
theorem dL_law_683 : decode cL_law 683 = .ok (.iload 4, 2) := by decide +kernel
theorem dL_law_685 : decode cL_law 685 = .ok (.iconst 1, 1) := by decide +kernel
theorem dL_law_686 : decode cL_law 686 = .ok (.iadd, 1) := by decide +kernel
theorem dL_law_687 : decode cL_law 687 = .ok (.iaload, 1) := by decide +kernel
theorem dL_law_688 : decode cL_law 688 = .ok (.invokevirtual 99, 3) := by decide +kernel
theorem dL_law_691 : decode cL_law 691 = .ok (.if_icmp .eq 5, 3) := by decide +kernel
theorem dL_law_694 : decode cL_law 694 = .ok (.iconst 0, 1) := by decide +kernel
theorem dL_law_695 : decode cL_law 695 = .ok (.ireturn, 1) := by decide +kernel
theorem dL_law_696 : decode cL_law 696 = .ok (.iinc 4 5, 3) := by decide +kernel
theorem dL_law_699 : decode cL_law 699 = .ok (.goto (-666), 3) := by decide +kernel
theorem dL_law_702 : decode cL_law 702 = .ok (.iconst 1, 1) := by decide +kernel
theorem dL_law_703 : decode cL_law 703 = .ok (.ireturn, 1) := by decide +kernel
