theorem dX11_next_233 : decode cX11_next 233 = .ok (.iconst 4, 1) := by decide +kernel
theorem dX11_next_234 : decode cX11_next 234 = .ok (.if_icmp .ge 26, 3) := by decide +kernel
theorem dX11_next_237 : decode cX11_next 237 = .ok (.aload_n 0, 1) := by decide +kernel
theorem dX11_next_238 : decode cX11_next 238 = .ok (.bipush 10, 2) := by decide +kernel
theorem dX11_next_240 : decode cX11_next 240 = .ok (.aload_n 0, 1) := by decide +kernel
theorem dX11_next_241 : decode cX11_next 241 = .ok (.getfield 145, 3) := by decide +kernel
theorem dX11_next_244 : decode cX11_next 244 = .ok (.imul, 1) := by decide +kernel
theorem dX11_next_245 : decode cX11_next 245 = .ok (.aload_n 0, 1) := by decide +kernel
theorem dX11_next_246 : decode cX11_next 246 = .ok (.aload_n 0, 1) := by decide +kernel
theorem dX11_next_247 : decode cX11_next 247 = .ok (.getfield 117, 3) := by decide +kernel
theorem dX11_next_250 : decode cX11_next 250 = .ok (.invokevirtual 123, 3) := by decide +kernel
theorem dX11_next_253 : decode cX11_next 253 = .ok (.iadd, 1) := by decide +kernel
theorem dX11_next_254 : decode cX11_next 254 = .ok (.bipush 48, 2) := by decide +kernel
theorem dX11_next_256 : decode cX11_next 256 = .ok (.isub, 1) := by decide +kernel
theorem dX11_next_257 : decode cX11_next 257 = .ok (.putfield 145, 3) := by decide +kernel
theorem dX11_next_260 : decode cX11_next 260 = .ok (.aload_n 0, 1) := by decide +kernel
theorem dX11_next_261 : decode cX11_next 261 = .ok (.dup, 1) := by decide +kernel
theorem dX11_next_262 : decode cX11_next 262 = .ok (.getfield 117, 3) := by decide +kernel
theorem dX11_next_265 : decode cX11_next 265 = .ok (.iconst 1, 1) := by decide +kernel
theorem dX11_next_266 : decode cX11_next 266 = .ok (.iadd, 1) := by decide +kernel
theorem dX11_next_267 : decode cX11_next 267 = .ok (.putfield 117, 3) := by decide +kernel
theorem dX11_next_270 : decode cX11_next 270 = .ok (.goto (-60), 3) := by decide +kernel
theorem dX11_next_273 : decode cX11_next 273 = .ok (.aload_n 0, 1) := by decide +kernel
theorem dX11_next_274 : decode cX11_next 274 = .ok (.aload_n 0, 1) := by decide +kernel
theorem dX11_next_275 : decode cX11_next 275 = .ok (.getfield 117, 3) := by decide +kernel
theorem dX11_next_278 : decode cX11_next 278 = .ok (.aload_n 0, 1) := by decide +kernel
theorem dX11_next_279 : decode cX11_next 279 = .ok (.getfield 120, 3) := by decide +kernel
theorem dX11_next_282 : decode cX11_next 282 = .ok (.isub, 1) := by decide +kernel
theorem dX11_next_283 : decode cX11_next 283 = .ok (.iconst 4, 1) := by decide +kernel
theorem dX11_next_284 : decode cX11_next 284 = .ok (.if_icmp .le 7, 3) := by decide +kernel
theorem dX11_next_287 : decode cX11_next 287 = .ok (.iconst 4, 1) := by decide +kernel
theorem dX11_next_288 : decode cX11_next 288 = .ok (.goto 4, 3) := by decide +kernel
theorem dX11_next_291 : decode cX11_next 291 = .ok (.iconst 2, 1) := by decide +kernel
theorem dX11_next_292 : decode cX11_next 292 = .ok (.putfield 126, 3) := by decide +kernel
theorem dX11_next_295 : decode cX11_next 295 = .ok (.goto 35, 3) := by decide +kernel
theorem dX11_next_298 : decode cX11_next 298 = .ok (.aload_n 0, 1) := by decide +kernel
theorem dX11_next_299 : decode cX11_next 299 = .ok (.aload_n 0, 1) := by decide +kernel
theorem dX11_next_300 : decode cX11_next 300 = .ok (.getfield 120, 3) := by decide +kernel
theorem dX11_next_303 : decode cX11_next 303 = .ok (.iconst 1, 1) := by decide +kernel
theorem dX11_next_304 : decode cX11_next 304 = .ok (.iadd, 1) := by decide +kernel
theorem dX11_next_305 : decode cX11_next 305 = .ok (.putfield 117, 3) := by decide +kernel
theorem dX11_next_308 : decode cX11_next 308 = .ok (.aload_n 0, 1) := by decide +kernel
theorem dX11_next_309 : decode cX11_next 309 = .ok (.iload_n 1, 1) := by decide +kernel
theorem dX11_next_310 : decode cX11_next 310 = .ok (.putfield 145, 3) := by decide +kernel
theorem dX11_next_313 : decode cX11_next 313 = .ok (.aload_n 0, 1) := by decide +kernel
theorem dX11_next_314 : decode cX11_next 314 = .ok (.aload_n 0, 1) := by decide +kernel
theorem dX11_next_315 : decode cX11_next 315 = .ok (.iload_n 1, 1) := by decide +kernel
theorem dX11_next_316 : decode cX11_next 316 = .ok (.invokevirtual 148, 3) := by decide +kernel
theorem dX11_next_319 : decode cX11_next 319 = .ok (.ifCond .eq 7, 3) := by decide +kernel
theorem dX11_next_322 : decode cX11_next 322 = .ok (.iconst 3, 1) := by decide +kernel
theorem dX11_next_323 : decode cX11_next 323 = .ok (.goto 4, 3) := by decide +kernel
theorem dX11_next_326 : decode cX11_next 326 = .ok (.iconst 4, 1) := by decide +kernel
theorem dX11_next_327 : decode cX11_next 327 = .ok (.putfield 126, 3) := by decide +kernel
theorem dX11_next_330 : decode cX11_next 330 = .ok (.return_, 1) := by decide +kernel
theorem dX11_isSign_0 : decode cX11_isSign 0 = .ok (.aload_n 0, 1) := by decide +kernel
theorem dX11_isSign_1 : decode cX11_isSign 1 = .ok (.getfield 126, 3) := by decide +kernel
theorem dX11_isSign_4 : decode cX11_isSign 4 = .ok (.iconst 3, 1) := by decide +kernel
theorem dX11_isSign_5 : decode cX11_isSign 5 = .ok (.if_icmp .ne 15, 3) := by decide +kernel
theorem dX11_isSign_8 : decode cX11_isSign 8 = .ok (.aload_n 0, 1) := by decide +kernel
theorem dX11_isSign_9 : decode cX11_isSign 9 = .ok (.getfield 145, 3) := by decide +kernel
theorem dX11_isSign_12 : decode cX11_isSign 12 = .ok (.iload_n 1, 1) := by decide +kernel
theorem dX11_isSign_13 : decode cX11_isSign 13 = .ok (.if_icmp .ne 7, 3) := by decide +kernel
theorem dX11_isSign_16 : decode cX11_isSign 16 = .ok (.iconst 1, 1) := by decide +kernel
theorem dX11_isSign_17 : decode cX11_isSign 17 = .ok (.goto 4, 3) := by decide +kernel
theorem dX11_isSign_20 : decode cX11_isSign 20 = .ok (.iconst 0, 1) := by decide +kernel
theorem dX11_isSign_21 : decode cX11_isSign 21 = .ok (.ireturn, 1) := by decide +kernel
theorem dX11_spelled_0 : decode cX11_spelled 0 = .ok (.iload_n 0, 1) := by decide +kernel
theorem dX11_spelled_1 : decode cX11_spelled 1 = .ok (.i2l, 1) := by decide +kernel
theorem dX11_spelled_2 : decode cX11_spelled 2 = .ok (.ldc2_w 137, 3) := by decide +kernel
theorem dX11_spelled_5 : decode cX11_spelled 5 = .ok (.lsub, 1) := by decide +kernel
theorem dX11_spelled_6 : decode cX11_spelled 6 = .ok (.ldc2_w 135, 3) := by decide +kernel
theorem dX11_spelled_9 : decode cX11_spelled 9 = .ok (.lmul, 1) := by decide +kernel
theorem dX11_spelled_10 : decode cX11_spelled 10 = .ok (.iload_n 1, 1) := by decide +kernel
theorem dX11_spelled_11 : decode cX11_spelled 11 = .ok (.i2l, 1) := by decide +kernel
theorem dX11_spelled_12 : decode cX11_spelled 12 = .ok (.ladd, 1) := by decide +kernel
theorem dX11_spelled_13 : decode cX11_spelled 13 = .ok (.ldc2_w 137, 3) := by decide +kernel
theorem dX11_spelled_16 : decode cX11_spelled 16 = .ok (.lsub, 1) := by decide +kernel
theorem dX11_spelled_17 : decode cX11_spelled 17 = .ok (.lstore 6, 2) := by decide +kernel
theorem dX11_spelled_19 : decode cX11_spelled 19 = .ok (.iload_n 2, 1) := by decide +kernel
theorem dX11_spelled_20 : decode cX11_spelled 20 = .ok (.ifCond .le 19, 3) := by decide +kernel
theorem dX11_spelled_23 : decode cX11_spelled 23 = .ok (.lload 6, 2) := by decide +kernel
theorem dX11_spelled_25 : decode cX11_spelled 25 = .ok (.ldc2_w 135, 3) := by decide +kernel
theorem dX11_spelled_28 : decode cX11_spelled 28 = .ok (.lmul, 1) := by decide +kernel
theorem dX11_spelled_29 : decode cX11_spelled 29 = .ok (.iload_n 2, 1) := by decide +kernel
theorem dX11_spelled_30 : decode cX11_spelled 30 = .ok (.i2l, 1) := by decide +kernel
theorem dX11_spelled_31 : decode cX11_spelled 31 = .ok (.ladd, 1) := by decide +kernel
theorem dX11_spelled_32 : decode cX11_spelled 32 = .ok (.ldc2_w 137, 3) := by decide +kernel
theorem dX11_spelled_35 : decode cX11_spelled 35 = .ok (.lsub, 1) := by decide +kernel
theorem dX11_spelled_36 : decode cX11_spelled 36 = .ok (.goto 5, 3) := by decide +kernel
theorem dX11_spelled_39 : decode cX11_spelled 39 = .ok (.lload 6, 2) := by decide +kernel
theorem dX11_spelled_41 : decode cX11_spelled 41 = .ok (.lstore 6, 2) := by decide +kernel
theorem dX11_spelled_43 : decode cX11_spelled 43 = .ok (.iload_n 3, 1) := by decide +kernel
theorem dX11_spelled_44 : decode cX11_spelled 44 = .ok (.ifCond .le 19, 3) := by decide +kernel
theorem dX11_spelled_47 : decode cX11_spelled 47 = .ok (.lload 6, 2) := by decide +kernel
theorem dX11_spelled_49 : decode cX11_spelled 49 = .ok (.ldc2_w 135, 3) := by decide +kernel
theorem dX11_spelled_52 : decode cX11_spelled 52 = .ok (.lmul, 1) := by decide +kernel
theorem dX11_spelled_53 : decode cX11_spelled 53 = .ok (.iload_n 3, 1) := by decide +kernel
theorem dX11_spelled_54 : decode cX11_spelled 54 = .ok (.i2l, 1) := by decide +kernel
theorem dX11_spelled_55 : decode cX11_spelled 55 = .ok (.ladd, 1) := by decide +kernel
theorem dX11_spelled_56 : decode cX11_spelled 56 = .ok (.ldc2_w 137, 3) := by decide +kernel
theorem dX11_spelled_59 : decode cX11_spelled 59 = .ok (.lsub, 1) := by decide +kernel
theorem dX11_spelled_60 : decode cX11_spelled 60 = .ok (.goto 5, 3) := by decide +kernel
theorem dX11_spelled_63 : decode cX11_spelled 63 = .ok (.lload 6, 2) := by decide +kernel
theorem dX11_spelled_65 : decode cX11_spelled 65 = .ok (.lstore 6, 2) := by decide +kernel
theorem dX11_spelled_67 : decode cX11_spelled 67 = .ok (.iload 4, 2) := by decide +kernel
theorem dX11_spelled_69 : decode cX11_spelled 69 = .ok (.ifCond .le 20, 3) := by decide +kernel
theorem dX11_spelled_72 : decode cX11_spelled 72 = .ok (.lload 6, 2) := by decide +kernel
theorem dX11_spelled_74 : decode cX11_spelled 74 = .ok (.ldc2_w 135, 3) := by decide +kernel
theorem dX11_spelled_77 : decode cX11_spelled 77 = .ok (.lmul, 1) := by decide +kernel
theorem dX11_spelled_78 : decode cX11_spelled 78 = .ok (.iload 4, 2) := by decide +kernel
theorem dX11_spelled_80 : decode cX11_spelled 80 = .ok (.i2l, 1) := by decide +kernel
theorem dX11_spelled_81 : decode cX11_spelled 81 = .ok (.ladd, 1) := by decide +kernel
theorem dX11_spelled_82 : decode cX11_spelled 82 = .ok (.ldc2_w 137, 3) := by decide +kernel
theorem dX11_spelled_85 : decode cX11_spelled 85 = .ok (.lsub, 1) := by decide +kernel
theorem dX11_spelled_86 : decode cX11_spelled 86 = .ok (.goto 5, 3) := by decide +kernel
theorem dX11_spelled_89 : decode cX11_spelled 89 = .ok (.lload 6, 2) := by decide +kernel
theorem dX11_spelled_91 : decode cX11_spelled 91 = .ok (.lstore 6, 2) := by decide +kernel
theorem dX11_spelled_93 : decode cX11_spelled 93 = .ok (.iload 5, 2) := by decide +kernel
theorem dX11_spelled_95 : decode cX11_spelled 95 = .ok (.ifCond .le 20, 3) := by decide +kernel
theorem dX11_spelled_98 : decode cX11_spelled 98 = .ok (.lload 6, 2) := by decide +kernel
theorem dX11_spelled_100 : decode cX11_spelled 100 = .ok (.ldc2_w 135, 3) := by decide +kernel
theorem dX11_spelled_103 : decode cX11_spelled 103 = .ok (.lmul, 1) := by decide +kernel
theorem dX11_spelled_104 : decode cX11_spelled 104 = .ok (.iload 5, 2) := by decide +kernel
theorem dX11_spelled_106 : decode cX11_spelled 106 = .ok (.i2l, 1) := by decide +kernel
theorem dX11_spelled_107 : decode cX11_spelled 107 = .ok (.ladd, 1) := by decide +kernel
theorem dX11_spelled_108 : decode cX11_spelled 108 = .ok (.ldc2_w 137, 3) := by decide +kernel
theorem dX11_spelled_111 : decode cX11_spelled 111 = .ok (.lsub, 1) := by decide +kernel
theorem dX11_spelled_112 : decode cX11_spelled 112 = .ok (.goto 5, 3) := by decide +kernel
theorem dX11_spelled_115 : decode cX11_spelled 115 = .ok (.lload 6, 2) := by decide +kernel
theorem dX11_spelled_117 : decode cX11_spelled 117 = .ok (.lreturn, 1) := by decide +kernel
theorem dX11_isWord_0 : decode cX11_isWord 0 = .ok (.aload_n 0, 1) := by decide +kernel
theorem dX11_isWord_1 : decode cX11_isWord 1 = .ok (.getfield 126, 3) := by decide +kernel
theorem dX11_isWord_4 : decode cX11_isWord 4 = .ok (.iconst 1, 1) := by decide +kernel
theorem dX11_isWord_5 : decode cX11_isWord 5 = .ok (.if_icmp .ne 16, 3) := by decide +kernel
theorem dX11_isWord_8 : decode cX11_isWord 8 = .ok (.aload_n 0, 1) := by decide +kernel
theorem dX11_isWord_9 : decode cX11_isWord 9 = .ok (.getfield 132, 3) := by decide +kernel
theorem dX11_isWord_12 : decode cX11_isWord 12 = .ok (.lload_n 1, 1) := by decide +kernel
theorem dX11_isWord_13 : decode cX11_isWord 13 = .ok (.lcmp, 1) := by decide +kernel
theorem dX11_isWord_14 : decode cX11_isWord 14 = .ok (.ifCond .ne 7, 3) := by decide +kernel
theorem dX11_isWord_17 : decode cX11_isWord 17 = .ok (.iconst 1, 1) := by decide +kernel
theorem dX11_isWord_18 : decode cX11_isWord 18 = .ok (.goto 4, 3) := by decide +kernel
theorem dX11_isWord_21 : decode cX11_isWord 21 = .ok (.iconst 0, 1) := by decide +kernel
theorem dX11_isWord_22 : decode cX11_isWord 22 = .ok (.ireturn, 1) := by decide +kernel
theorem dX11_isJuror_0 : decode cX11_isJuror 0 = .ok (.aload_n 0, 1) := by decide +kernel
theorem dX11_isJuror_1 : decode cX11_isJuror 1 = .ok (.bipush 106, 2) := by decide +kernel
theorem dX11_isJuror_3 : decode cX11_isJuror 3 = .ok (.bipush 117, 2) := by decide +kernel
theorem dX11_isJuror_5 : decode cX11_isJuror 5 = .ok (.bipush 114, 2) := by decide +kernel
theorem dX11_isJuror_7 : decode cX11_isJuror 7 = .ok (.bipush 111, 2) := by decide +kernel
theorem dX11_isJuror_9 : decode cX11_isJuror 9 = .ok (.bipush 114, 2) := by decide +kernel
theorem dX11_isJuror_11 : decode cX11_isJuror 11 = .ok (.iconst 0, 1) := by decide +kernel
theorem dX11_isJuror_12 : decode cX11_isJuror 12 = .ok (.invokestatic 151, 3) := by decide +kernel
theorem dX11_isJuror_15 : decode cX11_isJuror 15 = .ok (.invokevirtual 155, 3) := by decide +kernel
theorem dX11_isJuror_18 : decode cX11_isJuror 18 = .ok (.ireturn, 1) := by decide +kernel
theorem dX11_isLeans_0 : decode cX11_isLeans 0 = .ok (.aload_n 0, 1) := by decide +kernel
theorem dX11_isLeans_1 : decode cX11_isLeans 1 = .ok (.bipush 108, 2) := by decide +kernel
theorem dX11_isLeans_3 : decode cX11_isLeans 3 = .ok (.bipush 101, 2) := by decide +kernel
theorem dX11_isLeans_5 : decode cX11_isLeans 5 = .ok (.bipush 97, 2) := by decide +kernel
theorem dX11_isLeans_7 : decode cX11_isLeans 7 = .ok (.bipush 110, 2) := by decide +kernel
theorem dX11_isLeans_9 : decode cX11_isLeans 9 = .ok (.bipush 115, 2) := by decide +kernel
theorem dX11_isLeans_11 : decode cX11_isLeans 11 = .ok (.iconst 0, 1) := by decide +kernel
theorem dX11_isLeans_12 : decode cX11_isLeans 12 = .ok (.invokestatic 151, 3) := by decide +kernel
theorem dX11_isLeans_15 : decode cX11_isLeans 15 = .ok (.invokevirtual 155, 3) := by decide +kernel
theorem dX11_isLeans_18 : decode cX11_isLeans 18 = .ok (.ireturn, 1) := by decide +kernel
theorem dX11_isLess_0 : decode cX11_isLess 0 = .ok (.aload_n 0, 1) := by decide +kernel
theorem dX11_isLess_1 : decode cX11_isLess 1 = .ok (.bipush 108, 2) := by decide +kernel
theorem dX11_isLess_3 : decode cX11_isLess 3 = .ok (.bipush 101, 2) := by decide +kernel
theorem dX11_isLess_5 : decode cX11_isLess 5 = .ok (.bipush 115, 2) := by decide +kernel
theorem dX11_isLess_7 : decode cX11_isLess 7 = .ok (.bipush 115, 2) := by decide +kernel
theorem dX11_isLess_9 : decode cX11_isLess 9 = .ok (.iconst 0, 1) := by decide +kernel
theorem dX11_isLess_10 : decode cX11_isLess 10 = .ok (.iconst 0, 1) := by decide +kernel
theorem dX11_isLess_11 : decode cX11_isLess 11 = .ok (.invokestatic 151, 3) := by decide +kernel
theorem dX11_isLess_14 : decode cX11_isLess 14 = .ok (.invokevirtual 155, 3) := by decide +kernel
theorem dX11_isLess_17 : decode cX11_isLess 17 = .ok (.ireturn, 1) := by decide +kernel
theorem dX11_isStubborn_0 : decode cX11_isStubborn 0 = .ok (.aload_n 0, 1) := by decide +kernel
theorem dX11_isStubborn_1 : decode cX11_isStubborn 1 = .ok (.bipush 115, 2) := by decide +kernel
theorem dX11_isStubborn_3 : decode cX11_isStubborn 3 = .ok (.bipush 116, 2) := by decide +kernel
theorem dX11_isStubborn_5 : decode cX11_isStubborn 5 = .ok (.bipush 117, 2) := by decide +kernel
theorem dX11_isStubborn_7 : decode cX11_isStubborn 7 = .ok (.bipush 98, 2) := by decide +kernel
theorem dX11_isStubborn_9 : decode cX11_isStubborn 9 = .ok (.bipush 98, 2) := by decide +kernel
theorem dX11_isStubborn_11 : decode cX11_isStubborn 11 = .ok (.bipush 111, 2) := by decide +kernel
theorem dX11_isStubborn_13 : decode cX11_isStubborn 13 = .ok (.invokestatic 151, 3) := by decide +kernel
theorem dX11_isStubborn_16 : decode cX11_isStubborn 16 = .ok (.ldc2_w 135, 3) := by decide +kernel
theorem dX11_isStubborn_19 : decode cX11_isStubborn 19 = .ok (.lmul, 1) := by decide +kernel
theorem dX11_isStubborn_20 : decode cX11_isStubborn 20 = .ok (.ldc2_w 159, 3) := by decide +kernel
theorem dX11_isStubborn_23 : decode cX11_isStubborn 23 = .ok (.ladd, 1) := by decide +kernel
theorem dX11_isStubborn_24 : decode cX11_isStubborn 24 = .ok (.ldc2_w 135, 3) := by decide +kernel
theorem dX11_isStubborn_27 : decode cX11_isStubborn 27 = .ok (.lmul, 1) := by decide +kernel
theorem dX11_isStubborn_28 : decode cX11_isStubborn 28 = .ok (.ldc2_w 161, 3) := by decide +kernel
theorem dX11_isStubborn_31 : decode cX11_isStubborn 31 = .ok (.ladd, 1) := by decide +kernel
theorem dX11_isStubborn_32 : decode cX11_isStubborn 32 = .ok (.invokevirtual 155, 3) := by decide +kernel
theorem dX11_isStubborn_35 : decode cX11_isStubborn 35 = .ok (.ireturn, 1) := by decide +kernel
theorem dX11_isPrice_0 : decode cX11_isPrice 0 = .ok (.aload_n 0, 1) := by decide +kernel
theorem dX11_isPrice_1 : decode cX11_isPrice 1 = .ok (.bipush 112, 2) := by decide +kernel
theorem dX11_isPrice_3 : decode cX11_isPrice 3 = .ok (.bipush 114, 2) := by decide +kernel
theorem dX11_isPrice_5 : decode cX11_isPrice 5 = .ok (.bipush 105, 2) := by decide +kernel
theorem dX11_isPrice_7 : decode cX11_isPrice 7 = .ok (.bipush 99, 2) := by decide +kernel
theorem dX11_isPrice_9 : decode cX11_isPrice 9 = .ok (.bipush 101, 2) := by decide +kernel
theorem dX11_isPrice_11 : decode cX11_isPrice 11 = .ok (.iconst 0, 1) := by decide +kernel
theorem dX11_isPrice_12 : decode cX11_isPrice 12 = .ok (.invokestatic 151, 3) := by decide +kernel
theorem dX11_isPrice_15 : decode cX11_isPrice 15 = .ok (.invokevirtual 155, 3) := by decide +kernel
theorem dX11_isPrice_18 : decode cX11_isPrice 18 = .ok (.ireturn, 1) := by decide +kernel
theorem dX11_isSways_0 : decode cX11_isSways 0 = .ok (.aload_n 0, 1) := by decide +kernel
theorem dX11_isSways_1 : decode cX11_isSways 1 = .ok (.bipush 115, 2) := by decide +kernel
theorem dX11_isSways_3 : decode cX11_isSways 3 = .ok (.bipush 119, 2) := by decide +kernel
theorem dX11_isSways_5 : decode cX11_isSways 5 = .ok (.bipush 97, 2) := by decide +kernel
theorem dX11_isSways_7 : decode cX11_isSways 7 = .ok (.bipush 121, 2) := by decide +kernel
theorem dX11_isSways_9 : decode cX11_isSways 9 = .ok (.bipush 115, 2) := by decide +kernel
theorem dX11_isSways_11 : decode cX11_isSways 11 = .ok (.iconst 0, 1) := by decide +kernel
theorem dX11_isSways_12 : decode cX11_isSways 12 = .ok (.invokestatic 151, 3) := by decide +kernel
theorem dX11_isSways_15 : decode cX11_isSways 15 = .ok (.invokevirtual 155, 3) := by decide +kernel
theorem dX11_isSways_18 : decode cX11_isSways 18 = .ok (.ireturn, 1) := by decide +kernel
theorem dX11_isProof_0 : decode cX11_isProof 0 = .ok (.aload_n 0, 1) := by decide +kernel
theorem dX11_isProof_1 : decode cX11_isProof 1 = .ok (.bipush 112, 2) := by decide +kernel
theorem dX11_isProof_3 : decode cX11_isProof 3 = .ok (.bipush 114, 2) := by decide +kernel
theorem dX11_isProof_5 : decode cX11_isProof 5 = .ok (.bipush 111, 2) := by decide +kernel
theorem dX11_isProof_7 : decode cX11_isProof 7 = .ok (.bipush 111, 2) := by decide +kernel
theorem dX11_isProof_9 : decode cX11_isProof 9 = .ok (.bipush 102, 2) := by decide +kernel
theorem dX11_isProof_11 : decode cX11_isProof 11 = .ok (.iconst 0, 1) := by decide +kernel
theorem dX11_isProof_12 : decode cX11_isProof 12 = .ok (.invokestatic 151, 3) := by decide +kernel
theorem dX11_isProof_15 : decode cX11_isProof 15 = .ok (.invokevirtual 155, 3) := by decide +kernel
theorem dX11_isProof_18 : decode cX11_isProof 18 = .ok (.ireturn, 1) := by decide +kernel
theorem dX11_isWeather_0 : decode cX11_isWeather 0 = .ok (.aload_n 0, 1) := by decide +kernel
theorem dX11_isWeather_1 : decode cX11_isWeather 1 = .ok (.bipush 119, 2) := by decide +kernel
theorem dX11_isWeather_3 : decode cX11_isWeather 3 = .ok (.bipush 101, 2) := by decide +kernel
theorem dX11_isWeather_5 : decode cX11_isWeather 5 = .ok (.bipush 97, 2) := by decide +kernel
theorem dX11_isWeather_7 : decode cX11_isWeather 7 = .ok (.bipush 116, 2) := by decide +kernel
theorem dX11_isWeather_9 : decode cX11_isWeather 9 = .ok (.bipush 104, 2) := by decide +kernel
theorem dX11_isWeather_11 : decode cX11_isWeather 11 = .ok (.bipush 101, 2) := by decide +kernel
theorem dX11_isWeather_13 : decode cX11_isWeather 13 = .ok (.invokestatic 151, 3) := by decide +kernel
theorem dX11_isWeather_16 : decode cX11_isWeather 16 = .ok (.ldc2_w 135, 3) := by decide +kernel
theorem dX11_isWeather_19 : decode cX11_isWeather 19 = .ok (.lmul, 1) := by decide +kernel
theorem dX11_isWeather_20 : decode cX11_isWeather 20 = .ok (.ldc2_w 159, 3) := by decide +kernel
theorem dX11_isWeather_23 : decode cX11_isWeather 23 = .ok (.ladd, 1) := by decide +kernel
theorem dX11_isWeather_24 : decode cX11_isWeather 24 = .ok (.invokevirtual 155, 3) := by decide +kernel
theorem dX11_isWeather_27 : decode cX11_isWeather 27 = .ok (.ireturn, 1) := by decide +kernel
theorem dX11_isFollows_0 : decode cX11_isFollows 0 = .ok (.aload_n 0, 1) := by decide +kernel
theorem dX11_isFollows_1 : decode cX11_isFollows 1 = .ok (.bipush 102, 2) := by decide +kernel
theorem dX11_isFollows_3 : decode cX11_isFollows 3 = .ok (.bipush 111, 2) := by decide +kernel
theorem dX11_isFollows_5 : decode cX11_isFollows 5 = .ok (.bipush 108, 2) := by decide +kernel
theorem dX11_isFollows_7 : decode cX11_isFollows 7 = .ok (.bipush 108, 2) := by decide +kernel
theorem dX11_isFollows_9 : decode cX11_isFollows 9 = .ok (.bipush 111, 2) := by decide +kernel
theorem dX11_isFollows_11 : decode cX11_isFollows 11 = .ok (.bipush 119, 2) := by decide +kernel
theorem dX11_isFollows_13 : decode cX11_isFollows 13 = .ok (.invokestatic 151, 3) := by decide +kernel
theorem dX11_isFollows_16 : decode cX11_isFollows 16 = .ok (.ldc2_w 135, 3) := by decide +kernel
theorem dX11_isFollows_19 : decode cX11_isFollows 19 = .ok (.lmul, 1) := by decide +kernel
theorem dX11_isFollows_20 : decode cX11_isFollows 20 = .ok (.ldc2_w 163, 3) := by decide +kernel
theorem dX11_isFollows_23 : decode cX11_isFollows 23 = .ok (.ladd, 1) := by decide +kernel
theorem dX11_isFollows_24 : decode cX11_isFollows 24 = .ok (.invokevirtual 155, 3) := by decide +kernel
theorem dX11_isFollows_27 : decode cX11_isFollows 27 = .ok (.ireturn, 1) := by decide +kernel
theorem dX11_isGuilty_0 : decode cX11_isGuilty 0 = .ok (.aload_n 0, 1) := by decide +kernel
theorem dX11_isGuilty_1 : decode cX11_isGuilty 1 = .ok (.bipush 103, 2) := by decide +kernel
theorem dX11_isGuilty_3 : decode cX11_isGuilty 3 = .ok (.bipush 117, 2) := by decide +kernel
theorem dX11_isGuilty_5 : decode cX11_isGuilty 5 = .ok (.bipush 105, 2) := by decide +kernel
theorem dX11_isGuilty_7 : decode cX11_isGuilty 7 = .ok (.bipush 108, 2) := by decide +kernel
theorem dX11_isGuilty_9 : decode cX11_isGuilty 9 = .ok (.bipush 116, 2) := by decide +kernel
theorem dX11_isGuilty_11 : decode cX11_isGuilty 11 = .ok (.bipush 121, 2) := by decide +kernel
theorem dX11_isGuilty_13 : decode cX11_isGuilty 13 = .ok (.invokestatic 151, 3) := by decide +kernel
theorem dX11_isGuilty_16 : decode cX11_isGuilty 16 = .ok (.invokevirtual 155, 3) := by decide +kernel
theorem dX11_isGuilty_19 : decode cX11_isGuilty 19 = .ok (.ireturn, 1) := by decide +kernel
theorem dX11_isFree_0 : decode cX11_isFree 0 = .ok (.aload_n 0, 1) := by decide +kernel
theorem dX11_isFree_1 : decode cX11_isFree 1 = .ok (.bipush 102, 2) := by decide +kernel
theorem dX11_isFree_3 : decode cX11_isFree 3 = .ok (.bipush 114, 2) := by decide +kernel
theorem dX11_isFree_5 : decode cX11_isFree 5 = .ok (.bipush 101, 2) := by decide +kernel
theorem dX11_isFree_7 : decode cX11_isFree 7 = .ok (.bipush 101, 2) := by decide +kernel
theorem dX11_isFree_9 : decode cX11_isFree 9 = .ok (.iconst 0, 1) := by decide +kernel
theorem dX11_isFree_10 : decode cX11_isFree 10 = .ok (.iconst 0, 1) := by decide +kernel
theorem dX11_isFree_11 : decode cX11_isFree 11 = .ok (.invokestatic 151, 3) := by decide +kernel
theorem dX11_isFree_14 : decode cX11_isFree 14 = .ok (.invokevirtual 155, 3) := by decide +kernel
theorem dX11_isFree_17 : decode cX11_isFree 17 = .ok (.ireturn, 1) := by decide +kernel
theorem dX11_isCrop_0 : decode cX11_isCrop 0 = .ok (.aload_n 0, 1) := by decide +kernel
theorem dX11_isCrop_1 : decode cX11_isCrop 1 = .ok (.bipush 99, 2) := by decide +kernel
theorem dX11_isCrop_3 : decode cX11_isCrop 3 = .ok (.bipush 114, 2) := by decide +kernel
theorem dX11_isCrop_5 : decode cX11_isCrop 5 = .ok (.bipush 111, 2) := by decide +kernel
theorem dX11_isCrop_7 : decode cX11_isCrop 7 = .ok (.bipush 112, 2) := by decide +kernel
theorem dX11_isCrop_9 : decode cX11_isCrop 9 = .ok (.iconst 0, 1) := by decide +kernel
theorem dX11_isCrop_10 : decode cX11_isCrop 10 = .ok (.iconst 0, 1) := by decide +kernel
theorem dX11_isCrop_11 : decode cX11_isCrop 11 = .ok (.invokestatic 151, 3) := by decide +kernel
theorem dX11_isCrop_14 : decode cX11_isCrop 14 = .ok (.invokevirtual 155, 3) := by decide +kernel
theorem dX11_isCrop_17 : decode cX11_isCrop 17 = .ok (.ireturn, 1) := by decide +kernel
theorem dX11_isOn_0 : decode cX11_isOn 0 = .ok (.aload_n 0, 1) := by decide +kernel
theorem dX11_isOn_1 : decode cX11_isOn 1 = .ok (.bipush 111, 2) := by decide +kernel
theorem dX11_isOn_3 : decode cX11_isOn 3 = .ok (.bipush 110, 2) := by decide +kernel
theorem dX11_isOn_5 : decode cX11_isOn 5 = .ok (.iconst 0, 1) := by decide +kernel
theorem dX11_isOn_6 : decode cX11_isOn 6 = .ok (.iconst 0, 1) := by decide +kernel
theorem dX11_isOn_7 : decode cX11_isOn 7 = .ok (.iconst 0, 1) := by decide +kernel
theorem dX11_isOn_8 : decode cX11_isOn 8 = .ok (.iconst 0, 1) := by decide +kernel
theorem dX11_isOn_9 : decode cX11_isOn 9 = .ok (.invokestatic 151, 3) := by decide +kernel
theorem dX11_isOn_12 : decode cX11_isOn 12 = .ok (.invokevirtual 155, 3) := by decide +kernel
theorem dX11_isOn_15 : decode cX11_isOn 15 = .ok (.ireturn, 1) := by decide +kernel
theorem dX11_isHunger_0 : decode cX11_isHunger 0 = .ok (.aload_n 0, 1) := by decide +kernel
theorem dX11_isHunger_1 : decode cX11_isHunger 1 = .ok (.bipush 104, 2) := by decide +kernel
theorem dX11_isHunger_3 : decode cX11_isHunger 3 = .ok (.bipush 117, 2) := by decide +kernel
theorem dX11_isHunger_5 : decode cX11_isHunger 5 = .ok (.bipush 110, 2) := by decide +kernel
theorem dX11_isHunger_7 : decode cX11_isHunger 7 = .ok (.bipush 103, 2) := by decide +kernel
theorem dX11_isHunger_9 : decode cX11_isHunger 9 = .ok (.bipush 101, 2) := by decide +kernel
theorem dX11_isHunger_11 : decode cX11_isHunger 11 = .ok (.bipush 114, 2) := by decide +kernel
theorem dX11_isHunger_13 : decode cX11_isHunger 13 = .ok (.invokestatic 151, 3) := by decide +kernel
theorem dX11_isHunger_16 : decode cX11_isHunger 16 = .ok (.invokevirtual 155, 3) := by decide +kernel
theorem dX11_isHunger_19 : decode cX11_isHunger 19 = .ok (.ireturn, 1) := by decide +kernel
theorem dX11_isLaw_0 : decode cX11_isLaw 0 = .ok (.aload_n 0, 1) := by decide +kernel
theorem dX11_isLaw_1 : decode cX11_isLaw 1 = .ok (.bipush 108, 2) := by decide +kernel
theorem dX11_isLaw_3 : decode cX11_isLaw 3 = .ok (.bipush 97, 2) := by decide +kernel
theorem dX11_isLaw_5 : decode cX11_isLaw 5 = .ok (.bipush 119, 2) := by decide +kernel
theorem dX11_isLaw_7 : decode cX11_isLaw 7 = .ok (.iconst 0, 1) := by decide +kernel
theorem dX11_isLaw_8 : decode cX11_isLaw 8 = .ok (.iconst 0, 1) := by decide +kernel
theorem dX11_isLaw_9 : decode cX11_isLaw 9 = .ok (.iconst 0, 1) := by decide +kernel
theorem dX11_isLaw_10 : decode cX11_isLaw 10 = .ok (.invokestatic 151, 3) := by decide +kernel
theorem dX11_isLaw_13 : decode cX11_isLaw 13 = .ok (.invokevirtual 155, 3) := by decide +kernel
theorem dX11_isLaw_16 : decode cX11_isLaw 16 = .ok (.ireturn, 1) := by decide +kernel
theorem dX11_lawWord_0 : decode cX11_lawWord 0 = .ok (.aload_n 0, 1) := by decide +kernel
theorem dX11_lawWord_1 : decode cX11_lawWord 1 = .ok (.bipush 109, 2) := by decide +kernel
theorem dX11_lawWord_3 : decode cX11_lawWord 3 = .ok (.bipush 111, 2) := by decide +kernel
theorem dX11_lawWord_5 : decode cX11_lawWord 5 = .ok (.bipush 115, 2) := by decide +kernel
theorem dX11_lawWord_7 : decode cX11_lawWord 7 = .ok (.bipush 116, 2) := by decide +kernel
theorem dX11_lawWord_9 : decode cX11_lawWord 9 = .ok (.iconst 0, 1) := by decide +kernel
theorem dX11_lawWord_10 : decode cX11_lawWord 10 = .ok (.iconst 0, 1) := by decide +kernel
theorem dX11_lawWord_11 : decode cX11_lawWord 11 = .ok (.invokestatic 151, 3) := by decide +kernel
theorem dX11_lawWord_14 : decode cX11_lawWord 14 = .ok (.invokevirtual 155, 3) := by decide +kernel
theorem dX11_lawWord_17 : decode cX11_lawWord 17 = .ok (.ifCond .eq 5, 3) := by decide +kernel
theorem dX11_lawWord_20 : decode cX11_lawWord 20 = .ok (.iconst 0, 1) := by decide +kernel
theorem dX11_lawWord_21 : decode cX11_lawWord 21 = .ok (.ireturn, 1) := by decide +kernel
theorem dX11_lawWord_22 : decode cX11_lawWord 22 = .ok (.aload_n 0, 1) := by decide +kernel
theorem dX11_lawWord_23 : decode cX11_lawWord 23 = .ok (.bipush 97, 2) := by decide +kernel
theorem dX11_lawWord_25 : decode cX11_lawWord 25 = .ok (.bipush 108, 2) := by decide +kernel
theorem dX11_lawWord_27 : decode cX11_lawWord 27 = .ok (.bipush 108, 2) := by decide +kernel
theorem dX11_lawWord_29 : decode cX11_lawWord 29 = .ok (.iconst 0, 1) := by decide +kernel
theorem dX11_lawWord_30 : decode cX11_lawWord 30 = .ok (.iconst 0, 1) := by decide +kernel
theorem dX11_lawWord_31 : decode cX11_lawWord 31 = .ok (.iconst 0, 1) := by decide +kernel
theorem dX11_lawWord_32 : decode cX11_lawWord 32 = .ok (.invokestatic 151, 3) := by decide +kernel
theorem dX11_lawWord_35 : decode cX11_lawWord 35 = .ok (.invokevirtual 155, 3) := by decide +kernel
theorem dX11_lawWord_38 : decode cX11_lawWord 38 = .ok (.ifCond .eq 5, 3) := by decide +kernel
theorem dX11_lawWord_41 : decode cX11_lawWord 41 = .ok (.iconst 1, 1) := by decide +kernel
theorem dX11_lawWord_42 : decode cX11_lawWord 42 = .ok (.ireturn, 1) := by decide +kernel
theorem dX11_lawWord_43 : decode cX11_lawWord 43 = .ok (.aload_n 0, 1) := by decide +kernel
theorem dX11_lawWord_44 : decode cX11_lawWord 44 = .ok (.bipush 116, 2) := by decide +kernel
theorem dX11_lawWord_46 : decode cX11_lawWord 46 = .ok (.bipush 119, 2) := by decide +kernel
theorem dX11_lawWord_48 : decode cX11_lawWord 48 = .ok (.bipush 111, 2) := by decide +kernel
theorem dX11_lawWord_50 : decode cX11_lawWord 50 = .ok (.iconst 0, 1) := by decide +kernel
theorem dX11_lawWord_51 : decode cX11_lawWord 51 = .ok (.iconst 0, 1) := by decide +kernel
theorem dX11_lawWord_52 : decode cX11_lawWord 52 = .ok (.iconst 0, 1) := by decide +kernel
theorem dX11_lawWord_53 : decode cX11_lawWord 53 = .ok (.invokestatic 151, 3) := by decide +kernel
theorem dX11_lawWord_56 : decode cX11_lawWord 56 = .ok (.invokevirtual 155, 3) := by decide +kernel
theorem dX11_lawWord_59 : decode cX11_lawWord 59 = .ok (.ifCond .eq 7, 3) := by decide +kernel
theorem dX11_lawWord_62 : decode cX11_lawWord 62 = .ok (.iconst 2, 1) := by decide +kernel
theorem dX11_lawWord_63 : decode cX11_lawWord 63 = .ok (.goto 4, 3) := by decide +kernel
theorem dX11_lawWord_66 : decode cX11_lawWord 66 = .ok (.iconst (-1), 1) := by decide +kernel
theorem dX11_lawWord_67 : decode cX11_lawWord 67 = .ok (.ireturn, 1) := by decide +kernel
theorem dX11_stepWord_0 : decode cX11_stepWord 0 = .ok (.aload_n 0, 1) := by decide +kernel
theorem dX11_stepWord_1 : decode cX11_stepWord 1 = .ok (.bipush 115, 2) := by decide +kernel
theorem dX11_stepWord_3 : decode cX11_stepWord 3 = .ok (.bipush 104, 2) := by decide +kernel
theorem dX11_stepWord_5 : decode cX11_stepWord 5 = .ok (.bipush 111, 2) := by decide +kernel
theorem dX11_stepWord_7 : decode cX11_stepWord 7 = .ok (.bipush 119, 2) := by decide +kernel
theorem dX11_stepWord_9 : decode cX11_stepWord 9 = .ok (.iconst 0, 1) := by decide +kernel
theorem dX11_stepWord_10 : decode cX11_stepWord 10 = .ok (.iconst 0, 1) := by decide +kernel
theorem dX11_stepWord_11 : decode cX11_stepWord 11 = .ok (.invokestatic 151, 3) := by decide +kernel
theorem dX11_stepWord_14 : decode cX11_stepWord 14 = .ok (.invokevirtual 155, 3) := by decide +kernel
theorem dX11_stepWord_17 : decode cX11_stepWord 17 = .ok (.ifCond .eq 5, 3) := by decide +kernel
theorem dX11_stepWord_20 : decode cX11_stepWord 20 = .ok (.iconst 0, 1) := by decide +kernel
theorem dX11_stepWord_21 : decode cX11_stepWord 21 = .ok (.ireturn, 1) := by decide +kernel
theorem dX11_stepWord_22 : decode cX11_stepWord 22 = .ok (.aload_n 0, 1) := by decide +kernel
theorem dX11_stepWord_23 : decode cX11_stepWord 23 = .ok (.bipush 116, 2) := by decide +kernel
theorem dX11_stepWord_25 : decode cX11_stepWord 25 = .ok (.bipush 97, 2) := by decide +kernel
theorem dX11_stepWord_27 : decode cX11_stepWord 27 = .ok (.bipush 108, 2) := by decide +kernel
theorem dX11_stepWord_29 : decode cX11_stepWord 29 = .ok (.bipush 107, 2) := by decide +kernel
theorem dX11_stepWord_31 : decode cX11_stepWord 31 = .ok (.iconst 0, 1) := by decide +kernel
theorem dX11_stepWord_32 : decode cX11_stepWord 32 = .ok (.iconst 0, 1) := by decide +kernel
theorem dX11_stepWord_33 : decode cX11_stepWord 33 = .ok (.invokestatic 151, 3) := by decide +kernel
theorem dX11_stepWord_36 : decode cX11_stepWord 36 = .ok (.invokevirtual 155, 3) := by decide +kernel
theorem dX11_stepWord_39 : decode cX11_stepWord 39 = .ok (.ifCond .eq 5, 3) := by decide +kernel
theorem dX11_stepWord_42 : decode cX11_stepWord 42 = .ok (.iconst 1, 1) := by decide +kernel
theorem dX11_stepWord_43 : decode cX11_stepWord 43 = .ok (.ireturn, 1) := by decide +kernel
theorem dX11_stepWord_44 : decode cX11_stepWord 44 = .ok (.aload_n 0, 1) := by decide +kernel
theorem dX11_stepWord_45 : decode cX11_stepWord 45 = .ok (.bipush 118, 2) := by decide +kernel
theorem dX11_stepWord_47 : decode cX11_stepWord 47 = .ok (.bipush 101, 2) := by decide +kernel
theorem dX11_stepWord_49 : decode cX11_stepWord 49 = .ok (.bipush 114, 2) := by decide +kernel
theorem dX11_stepWord_51 : decode cX11_stepWord 51 = .ok (.bipush 100, 2) := by decide +kernel
theorem dX11_stepWord_53 : decode cX11_stepWord 53 = .ok (.bipush 105, 2) := by decide +kernel
theorem dX11_stepWord_55 : decode cX11_stepWord 55 = .ok (.bipush 99, 2) := by decide +kernel
theorem dX11_stepWord_57 : decode cX11_stepWord 57 = .ok (.invokestatic 151, 3) := by decide +kernel
theorem dX11_stepWord_60 : decode cX11_stepWord 60 = .ok (.ldc2_w 135, 3) := by decide +kernel
theorem dX11_stepWord_63 : decode cX11_stepWord 63 = .ok (.lmul, 1) := by decide +kernel
theorem dX11_stepWord_64 : decode cX11_stepWord 64 = .ok (.ldc2_w 165, 3) := by decide +kernel
theorem dX11_stepWord_67 : decode cX11_stepWord 67 = .ok (.ladd, 1) := by decide +kernel
theorem dX11_stepWord_68 : decode cX11_stepWord 68 = .ok (.invokevirtual 155, 3) := by decide +kernel
theorem dX11_stepWord_71 : decode cX11_stepWord 71 = .ok (.ifCond .eq 5, 3) := by decide +kernel
theorem dX11_stepWord_74 : decode cX11_stepWord 74 = .ok (.iconst 2, 1) := by decide +kernel
theorem dX11_stepWord_75 : decode cX11_stepWord 75 = .ok (.ireturn, 1) := by decide +kernel
theorem dX11_stepWord_76 : decode cX11_stepWord 76 = .ok (.aload_n 0, 1) := by decide +kernel
theorem dX11_stepWord_77 : decode cX11_stepWord 77 = .ok (.bipush 115, 2) := by decide +kernel
theorem dX11_stepWord_79 : decode cX11_stepWord 79 = .ok (.bipush 116, 2) := by decide +kernel
theorem dX11_stepWord_81 : decode cX11_stepWord 81 = .ok (.bipush 114, 2) := by decide +kernel
theorem dX11_stepWord_83 : decode cX11_stepWord 83 = .ok (.bipush 105, 2) := by decide +kernel
theorem dX11_stepWord_85 : decode cX11_stepWord 85 = .ok (.bipush 107, 2) := by decide +kernel
theorem dX11_stepWord_87 : decode cX11_stepWord 87 = .ok (.bipush 101, 2) := by decide +kernel
theorem dX11_stepWord_89 : decode cX11_stepWord 89 = .ok (.invokestatic 151, 3) := by decide +kernel
theorem dX11_stepWord_92 : decode cX11_stepWord 92 = .ok (.invokevirtual 155, 3) := by decide +kernel
theorem dX11_stepWord_95 : decode cX11_stepWord 95 = .ok (.ifCond .eq 5, 3) := by decide +kernel
theorem dX11_stepWord_98 : decode cX11_stepWord 98 = .ok (.iconst 3, 1) := by decide +kernel
theorem dX11_stepWord_99 : decode cX11_stepWord 99 = .ok (.ireturn, 1) := by decide +kernel
theorem dX11_stepWord_100 : decode cX11_stepWord 100 = .ok (.aload_n 0, 1) := by decide +kernel
theorem dX11_stepWord_101 : decode cX11_stepWord 101 = .ok (.bipush 115, 2) := by decide +kernel
theorem dX11_stepWord_103 : decode cX11_stepWord 103 = .ok (.bipush 101, 2) := by decide +kernel
theorem dX11_stepWord_105 : decode cX11_stepWord 105 = .ok (.bipush 97, 2) := by decide +kernel
theorem dX11_stepWord_107 : decode cX11_stepWord 107 = .ok (.bipush 116, 2) := by decide +kernel
theorem dX11_stepWord_109 : decode cX11_stepWord 109 = .ok (.iconst 0, 1) := by decide +kernel
theorem dX11_stepWord_110 : decode cX11_stepWord 110 = .ok (.iconst 0, 1) := by decide +kernel
theorem dX11_stepWord_111 : decode cX11_stepWord 111 = .ok (.invokestatic 151, 3) := by decide +kernel
theorem dX11_stepWord_114 : decode cX11_stepWord 114 = .ok (.invokevirtual 155, 3) := by decide +kernel
theorem dX11_stepWord_117 : decode cX11_stepWord 117 = .ok (.ifCond .eq 5, 3) := by decide +kernel
theorem dX11_stepWord_120 : decode cX11_stepWord 120 = .ok (.iconst 4, 1) := by decide +kernel
theorem dX11_stepWord_121 : decode cX11_stepWord 121 = .ok (.ireturn, 1) := by decide +kernel
theorem dX11_stepWord_122 : decode cX11_stepWord 122 = .ok (.aload_n 0, 1) := by decide +kernel
theorem dX11_stepWord_123 : decode cX11_stepWord 123 = .ok (.bipush 98, 2) := by decide +kernel
theorem dX11_stepWord_125 : decode cX11_stepWord 125 = .ok (.bipush 114, 2) := by decide +kernel
theorem dX11_stepWord_127 : decode cX11_stepWord 127 = .ok (.bipush 105, 2) := by decide +kernel
theorem dX11_stepWord_129 : decode cX11_stepWord 129 = .ok (.bipush 98, 2) := by decide +kernel
theorem dX11_stepWord_131 : decode cX11_stepWord 131 = .ok (.bipush 101, 2) := by decide +kernel
theorem dX11_stepWord_133 : decode cX11_stepWord 133 = .ok (.iconst 0, 1) := by decide +kernel
theorem dX11_stepWord_134 : decode cX11_stepWord 134 = .ok (.invokestatic 151, 3) := by decide +kernel
theorem dX11_stepWord_137 : decode cX11_stepWord 137 = .ok (.invokevirtual 155, 3) := by decide +kernel
theorem dX11_stepWord_140 : decode cX11_stepWord 140 = .ok (.ifCond .eq 5, 3) := by decide +kernel
theorem dX11_stepWord_143 : decode cX11_stepWord 143 = .ok (.iconst 5, 1) := by decide +kernel
theorem dX11_stepWord_144 : decode cX11_stepWord 144 = .ok (.ireturn, 1) := by decide +kernel
theorem dX11_stepWord_145 : decode cX11_stepWord 145 = .ok (.aload_n 0, 1) := by decide +kernel
theorem dX11_stepWord_146 : decode cX11_stepWord 146 = .ok (.bipush 109, 2) := by decide +kernel
theorem dX11_stepWord_148 : decode cX11_stepWord 148 = .ok (.bipush 111, 2) := by decide +kernel
theorem dX11_stepWord_150 : decode cX11_stepWord 150 = .ok (.bipush 111, 2) := by decide +kernel
theorem dX11_stepWord_152 : decode cX11_stepWord 152 = .ok (.bipush 100, 2) := by decide +kernel
theorem dX11_stepWord_154 : decode cX11_stepWord 154 = .ok (.iconst 0, 1) := by decide +kernel
theorem dX11_stepWord_155 : decode cX11_stepWord 155 = .ok (.iconst 0, 1) := by decide +kernel
theorem dX11_stepWord_156 : decode cX11_stepWord 156 = .ok (.invokestatic 151, 3) := by decide +kernel
theorem dX11_stepWord_159 : decode cX11_stepWord 159 = .ok (.invokevirtual 155, 3) := by decide +kernel
theorem dX11_stepWord_162 : decode cX11_stepWord 162 = .ok (.ifCond .eq 6, 3) := by decide +kernel
theorem dX11_stepWord_165 : decode cX11_stepWord 165 = .ok (.bipush 6, 2) := by decide +kernel
theorem dX11_stepWord_167 : decode cX11_stepWord 167 = .ok (.ireturn, 1) := by decide +kernel
theorem dX11_stepWord_168 : decode cX11_stepWord 168 = .ok (.aload_n 0, 1) := by decide +kernel
theorem dX11_stepWord_169 : decode cX11_stepWord 169 = .ok (.bipush 119, 2) := by decide +kernel
theorem dX11_stepWord_171 : decode cX11_stepWord 171 = .ok (.bipush 104, 2) := by decide +kernel
theorem dX11_stepWord_173 : decode cX11_stepWord 173 = .ok (.bipush 101, 2) := by decide +kernel
theorem dX11_stepWord_175 : decode cX11_stepWord 175 = .ok (.bipush 110, 2) := by decide +kernel
theorem dX11_stepWord_177 : decode cX11_stepWord 177 = .ok (.iconst 0, 1) := by decide +kernel
theorem dX11_stepWord_178 : decode cX11_stepWord 178 = .ok (.iconst 0, 1) := by decide +kernel
theorem dX11_stepWord_179 : decode cX11_stepWord 179 = .ok (.invokestatic 151, 3) := by decide +kernel
theorem dX11_stepWord_182 : decode cX11_stepWord 182 = .ok (.invokevirtual 155, 3) := by decide +kernel
theorem dX11_stepWord_185 : decode cX11_stepWord 185 = .ok (.ifCond .eq 6, 3) := by decide +kernel
theorem dX11_stepWord_188 : decode cX11_stepWord 188 = .ok (.bipush 7, 2) := by decide +kernel
theorem dX11_stepWord_190 : decode cX11_stepWord 190 = .ok (.ireturn, 1) := by decide +kernel
theorem dX11_stepWord_191 : decode cX11_stepWord 191 = .ok (.aload_n 0, 1) := by decide +kernel
theorem dX11_stepWord_192 : decode cX11_stepWord 192 = .ok (.bipush 108, 2) := by decide +kernel
theorem dX11_stepWord_194 : decode cX11_stepWord 194 = .ok (.bipush 111, 2) := by decide +kernel
theorem dX11_stepWord_196 : decode cX11_stepWord 196 = .ok (.bipush 111, 2) := by decide +kernel
theorem dX11_stepWord_198 : decode cX11_stepWord 198 = .ok (.bipush 112, 2) := by decide +kernel
theorem dX11_stepWord_200 : decode cX11_stepWord 200 = .ok (.iconst 0, 1) := by decide +kernel
theorem dX11_stepWord_201 : decode cX11_stepWord 201 = .ok (.iconst 0, 1) := by decide +kernel
theorem dX11_stepWord_202 : decode cX11_stepWord 202 = .ok (.invokestatic 151, 3) := by decide +kernel
theorem dX11_stepWord_205 : decode cX11_stepWord 205 = .ok (.invokevirtual 155, 3) := by decide +kernel
theorem dX11_stepWord_208 : decode cX11_stepWord 208 = .ok (.ifCond .eq 6, 3) := by decide +kernel
theorem dX11_stepWord_211 : decode cX11_stepWord 211 = .ok (.bipush 8, 2) := by decide +kernel
theorem dX11_stepWord_213 : decode cX11_stepWord 213 = .ok (.ireturn, 1) := by decide +kernel
theorem dX11_stepWord_214 : decode cX11_stepWord 214 = .ok (.aload_n 0, 1) := by decide +kernel
theorem dX11_stepWord_215 : decode cX11_stepWord 215 = .ok (.bipush 115, 2) := by decide +kernel
theorem dX11_stepWord_217 : decode cX11_stepWord 217 = .ok (.bipush 116, 2) := by decide +kernel
theorem dX11_stepWord_219 : decode cX11_stepWord 219 = .ok (.bipush 111, 2) := by decide +kernel
theorem dX11_stepWord_221 : decode cX11_stepWord 221 = .ok (.bipush 112, 2) := by decide +kernel
theorem dX11_stepWord_223 : decode cX11_stepWord 223 = .ok (.iconst 0, 1) := by decide +kernel
theorem dX11_stepWord_224 : decode cX11_stepWord 224 = .ok (.iconst 0, 1) := by decide +kernel
theorem dX11_stepWord_225 : decode cX11_stepWord 225 = .ok (.invokestatic 151, 3) := by decide +kernel
theorem dX11_stepWord_228 : decode cX11_stepWord 228 = .ok (.invokevirtual 155, 3) := by decide +kernel
theorem dX11_stepWord_231 : decode cX11_stepWord 231 = .ok (.ifCond .eq 8, 3) := by decide +kernel
theorem dX11_stepWord_234 : decode cX11_stepWord 234 = .ok (.bipush 9, 2) := by decide +kernel
theorem dX11_stepWord_236 : decode cX11_stepWord 236 = .ok (.goto 4, 3) := by decide +kernel
theorem dX11_stepWord_239 : decode cX11_stepWord 239 = .ok (.iconst (-1), 1) := by decide +kernel
theorem dX11_stepWord_240 : decode cX11_stepWord 240 = .ok (.ireturn, 1) := by decide +kernel
theorem dX11_testWord_0 : decode cX11_testWord 0 = .ok (.aload_n 0, 1) := by decide +kernel
theorem dX11_testWord_1 : decode cX11_testWord 1 = .ok (.bipush 118, 2) := by decide +kernel
theorem dX11_testWord_3 : decode cX11_testWord 3 = .ok (.bipush 111, 2) := by decide +kernel
theorem dX11_testWord_5 : decode cX11_testWord 5 = .ok (.bipush 116, 2) := by decide +kernel
theorem dX11_testWord_7 : decode cX11_testWord 7 = .ok (.bipush 101, 2) := by decide +kernel
theorem dX11_testWord_9 : decode cX11_testWord 9 = .ok (.bipush 115, 2) := by decide +kernel
theorem dX11_testWord_11 : decode cX11_testWord 11 = .ok (.iconst 0, 1) := by decide +kernel
theorem dX11_testWord_12 : decode cX11_testWord 12 = .ok (.invokestatic 151, 3) := by decide +kernel
theorem dX11_testWord_15 : decode cX11_testWord 15 = .ok (.invokevirtual 155, 3) := by decide +kernel
theorem dX11_testWord_18 : decode cX11_testWord 18 = .ok (.ifCond .eq 7, 3) := by decide +kernel
theorem dX11_testWord_21 : decode cX11_testWord 21 = .ok (.iconst 0, 1) := by decide +kernel
theorem dX11_testWord_22 : decode cX11_testWord 22 = .ok (.goto 26, 3) := by decide +kernel
theorem dX11_testWord_25 : decode cX11_testWord 25 = .ok (.aload_n 0, 1) := by decide +kernel
theorem dX11_testWord_26 : decode cX11_testWord 26 = .ok (.invokevirtual 167, 3) := by decide +kernel
theorem dX11_testWord_29 : decode cX11_testWord 29 = .ok (.ifCond .eq 7, 3) := by decide +kernel
theorem dX11_testWord_32 : decode cX11_testWord 32 = .ok (.iconst 1, 1) := by decide +kernel
theorem dX11_testWord_33 : decode cX11_testWord 33 = .ok (.goto 15, 3) := by decide +kernel
theorem dX11_testWord_36 : decode cX11_testWord 36 = .ok (.aload_n 0, 1) := by decide +kernel
theorem dX11_testWord_37 : decode cX11_testWord 37 = .ok (.invokevirtual 171, 3) := by decide +kernel
theorem dX11_testWord_40 : decode cX11_testWord 40 = .ok (.ifCond .eq 7, 3) := by decide +kernel
theorem dX11_testWord_43 : decode cX11_testWord 43 = .ok (.iconst 2, 1) := by decide +kernel
theorem dX11_testWord_44 : decode cX11_testWord 44 = .ok (.goto 4, 3) := by decide +kernel
theorem dX11_testWord_47 : decode cX11_testWord 47 = .ok (.iconst (-1), 1) := by decide +kernel
theorem dX11_testWord_48 : decode cX11_testWord 48 = .ok (.ireturn, 1) := by decide +kernel
theorem dX11_isEnd_0 : decode cX11_isEnd 0 = .ok (.aload_n 0, 1) := by decide +kernel
theorem dX11_isEnd_1 : decode cX11_isEnd 1 = .ok (.bipush 101, 2) := by decide +kernel
theorem dX11_isEnd_3 : decode cX11_isEnd 3 = .ok (.bipush 110, 2) := by decide +kernel
theorem dX11_isEnd_5 : decode cX11_isEnd 5 = .ok (.bipush 100, 2) := by decide +kernel
theorem dX11_isEnd_7 : decode cX11_isEnd 7 = .ok (.iconst 0, 1) := by decide +kernel
theorem dX11_isEnd_8 : decode cX11_isEnd 8 = .ok (.iconst 0, 1) := by decide +kernel
theorem dX11_isEnd_9 : decode cX11_isEnd 9 = .ok (.iconst 0, 1) := by decide +kernel
theorem dX11_isEnd_10 : decode cX11_isEnd 10 = .ok (.invokestatic 151, 3) := by decide +kernel
theorem dX11_isEnd_13 : decode cX11_isEnd 13 = .ok (.invokevirtual 155, 3) := by decide +kernel
theorem dX11_isEnd_16 : decode cX11_isEnd 16 = .ok (.ireturn, 1) := by decide +kernel
theorem dX11_isKept_0 : decode cX11_isKept 0 = .ok (.aload_n 0, 1) := by decide +kernel
theorem dX11_isKept_1 : decode cX11_isKept 1 = .ok (.invokevirtual 174, 3) := by decide +kernel
theorem dX11_isKept_4 : decode cX11_isKept 4 = .ok (.ifCond .ne 73, 3) := by decide +kernel
theorem dX11_isKept_7 : decode cX11_isKept 7 = .ok (.aload_n 0, 1) := by decide +kernel
theorem dX11_isKept_8 : decode cX11_isKept 8 = .ok (.invokevirtual 177, 3) := by decide +kernel
theorem dX11_isKept_11 : decode cX11_isKept 11 = .ok (.ifCond .ne 66, 3) := by decide +kernel
theorem dX11_isKept_14 : decode cX11_isKept 14 = .ok (.aload_n 0, 1) := by decide +kernel
theorem dX11_isKept_15 : decode cX11_isKept 15 = .ok (.invokevirtual 180, 3) := by decide +kernel
theorem dX11_isKept_18 : decode cX11_isKept 18 = .ok (.ifCond .ne 59, 3) := by decide +kernel
theorem dX11_isKept_21 : decode cX11_isKept 21 = .ok (.aload_n 0, 1) := by decide +kernel
theorem dX11_isKept_22 : decode cX11_isKept 22 = .ok (.invokevirtual 183, 3) := by decide +kernel
theorem dX11_isKept_25 : decode cX11_isKept 25 = .ok (.ifCond .ne 52, 3) := by decide +kernel
theorem dX11_isKept_28 : decode cX11_isKept 28 = .ok (.aload_n 0, 1) := by decide +kernel
theorem dX11_isKept_29 : decode cX11_isKept 29 = .ok (.invokevirtual 186, 3) := by decide +kernel
theorem dX11_isKept_32 : decode cX11_isKept 32 = .ok (.ifCond .ne 45, 3) := by decide +kernel
theorem dX11_isKept_35 : decode cX11_isKept 35 = .ok (.aload_n 0, 1) := by decide +kernel
theorem dX11_isKept_36 : decode cX11_isKept 36 = .ok (.invokevirtual 189, 3) := by decide +kernel
theorem dX11_isKept_39 : decode cX11_isKept 39 = .ok (.ifCond .ne 38, 3) := by decide +kernel
theorem dX11_isKept_42 : decode cX11_isKept 42 = .ok (.aload_n 0, 1) := by decide +kernel
theorem dX11_isKept_43 : decode cX11_isKept 43 = .ok (.invokevirtual 192, 3) := by decide +kernel
theorem dX11_isKept_46 : decode cX11_isKept 46 = .ok (.ifCond .ne 31, 3) := by decide +kernel
theorem dX11_isKept_49 : decode cX11_isKept 49 = .ok (.aload_n 0, 1) := by decide +kernel
theorem dX11_isKept_50 : decode cX11_isKept 50 = .ok (.invokevirtual 195, 3) := by decide +kernel
theorem dX11_isKept_53 : decode cX11_isKept 53 = .ok (.ifCond .ne 24, 3) := by decide +kernel
theorem dX11_isKept_56 : decode cX11_isKept 56 = .ok (.aload_n 0, 1) := by decide +kernel
theorem dX11_isKept_57 : decode cX11_isKept 57 = .ok (.invokevirtual 198, 3) := by decide +kernel
theorem dX11_isKept_60 : decode cX11_isKept 60 = .ok (.ifCond .ne 17, 3) := by decide +kernel
theorem dX11_isKept_63 : decode cX11_isKept 63 = .ok (.aload_n 0, 1) := by decide +kernel
theorem dX11_isKept_64 : decode cX11_isKept 64 = .ok (.invokevirtual 201, 3) := by decide +kernel
theorem dX11_isKept_67 : decode cX11_isKept 67 = .ok (.ifCond .ne 10, 3) := by decide +kernel
theorem dX11_isKept_70 : decode cX11_isKept 70 = .ok (.aload_n 0, 1) := by decide +kernel
theorem dX11_isKept_71 : decode cX11_isKept 71 = .ok (.invokevirtual 204, 3) := by decide +kernel
theorem dX11_isKept_74 : decode cX11_isKept 74 = .ok (.ifCond .eq 5, 3) := by decide +kernel
theorem dX11_isKept_77 : decode cX11_isKept 77 = .ok (.iconst 1, 1) := by decide +kernel
theorem dX11_isKept_78 : decode cX11_isKept 78 = .ok (.ireturn, 1) := by decide +kernel
theorem dX11_isKept_79 : decode cX11_isKept 79 = .ok (.aload_n 0, 1) := by decide +kernel
theorem dX11_isKept_80 : decode cX11_isKept 80 = .ok (.invokevirtual 207, 3) := by decide +kernel
theorem dX11_isKept_83 : decode cX11_isKept 83 = .ok (.ifCond .ne 38, 3) := by decide +kernel
theorem dX11_isKept_86 : decode cX11_isKept 86 = .ok (.aload_n 0, 1) := by decide +kernel
theorem dX11_isKept_87 : decode cX11_isKept 87 = .ok (.invokevirtual 210, 3) := by decide +kernel
theorem dX11_isKept_90 : decode cX11_isKept 90 = .ok (.ifCond .ne 31, 3) := by decide +kernel
theorem dX11_isKept_93 : decode cX11_isKept 93 = .ok (.aload_n 0, 1) := by decide +kernel
theorem dX11_isKept_94 : decode cX11_isKept 94 = .ok (.invokevirtual 213, 3) := by decide +kernel
theorem dX11_isKept_97 : decode cX11_isKept 97 = .ok (.ifCond .ge 24, 3) := by decide +kernel
theorem dX11_isKept_100 : decode cX11_isKept 100 = .ok (.aload_n 0, 1) := by decide +kernel
theorem dX11_isKept_101 : decode cX11_isKept 101 = .ok (.invokevirtual 217, 3) := by decide +kernel
theorem dX11_isKept_104 : decode cX11_isKept 104 = .ok (.ifCond .ge 17, 3) := by decide +kernel
theorem dX11_isKept_107 : decode cX11_isKept 107 = .ok (.aload_n 0, 1) := by decide +kernel
theorem dX11_isKept_108 : decode cX11_isKept 108 = .ok (.invokevirtual 220, 3) := by decide +kernel
theorem dX11_isKept_111 : decode cX11_isKept 111 = .ok (.ifCond .ge 10, 3) := by decide +kernel
theorem dX11_isKept_114 : decode cX11_isKept 114 = .ok (.aload_n 0, 1) := by decide +kernel
theorem dX11_isKept_115 : decode cX11_isKept 115 = .ok (.invokevirtual 223, 3) := by decide +kernel
theorem dX11_isKept_118 : decode cX11_isKept 118 = .ok (.ifCond .eq 7, 3) := by decide +kernel
theorem dX11_isKept_121 : decode cX11_isKept 121 = .ok (.iconst 1, 1) := by decide +kernel
theorem dX11_isKept_122 : decode cX11_isKept 122 = .ok (.goto 4, 3) := by decide +kernel
theorem dX11_isKept_125 : decode cX11_isKept 125 = .ok (.iconst 0, 1) := by decide +kernel
theorem dX11_isKept_126 : decode cX11_isKept 126 = .ok (.ireturn, 1) := by decide +kernel
theorem dX11_isName_0 : decode cX11_isName 0 = .ok (.aload_n 0, 1) := by decide +kernel
theorem dX11_isName_1 : decode cX11_isName 1 = .ok (.getfield 126, 3) := by decide +kernel
theorem dX11_isName_4 : decode cX11_isName 4 = .ok (.iconst 1, 1) := by decide +kernel
theorem dX11_isName_5 : decode cX11_isName 5 = .ok (.if_icmp .ne 23, 3) := by decide +kernel
theorem dX11_isName_8 : decode cX11_isName 8 = .ok (.aload_n 0, 1) := by decide +kernel
theorem dX11_isName_9 : decode cX11_isName 9 = .ok (.getfield 139, 3) := by decide +kernel
theorem dX11_isName_12 : decode cX11_isName 12 = .ok (.bipush 8, 2) := by decide +kernel
theorem dX11_isName_14 : decode cX11_isName 14 = .ok (.if_icmp .gt 14, 3) := by decide +kernel
theorem dX11_isName_17 : decode cX11_isName 17 = .ok (.aload_n 0, 1) := by decide +kernel
theorem dX11_isName_18 : decode cX11_isName 18 = .ok (.invokevirtual 226, 3) := by decide +kernel
theorem dX11_isName_21 : decode cX11_isName 21 = .ok (.ifCond .ne 7, 3) := by decide +kernel
theorem dX11_isName_24 : decode cX11_isName 24 = .ok (.iconst 1, 1) := by decide +kernel
theorem dX11_isName_25 : decode cX11_isName 25 = .ok (.goto 4, 3) := by decide +kernel
theorem dX11_isName_28 : decode cX11_isName 28 = .ok (.iconst 0, 1) := by decide +kernel
theorem dX11_isName_29 : decode cX11_isName 29 = .ok (.ireturn, 1) := by decide +kernel
theorem dX11_fail_0 : decode cX11_fail 0 = .ok (.aload_n 0, 1) := by decide +kernel
theorem dX11_fail_1 : decode cX11_fail 1 = .ok (.getfield 229, 3) := by decide +kernel
theorem dX11_fail_4 : decode cX11_fail 4 = .ok (.ifCond .le 4, 3) := by decide +kernel
theorem dX11_fail_7 : decode cX11_fail 7 = .ok (.return_, 1) := by decide +kernel
theorem dX11_fail_8 : decode cX11_fail 8 = .ok (.aload_n 0, 1) := by decide +kernel
theorem dX11_fail_9 : decode cX11_fail 9 = .ok (.iload_n 1, 1) := by decide +kernel
theorem dX11_fail_10 : decode cX11_fail 10 = .ok (.putfield 229, 3) := by decide +kernel
theorem dX11_fail_13 : decode cX11_fail 13 = .ok (.aload_n 0, 1) := by decide +kernel
theorem dX11_fail_14 : decode cX11_fail 14 = .ok (.iload_n 2, 1) := by decide +kernel
theorem dX11_fail_15 : decode cX11_fail 15 = .ok (.putfield 232, 3) := by decide +kernel
theorem dX11_fail_18 : decode cX11_fail 18 = .ok (.return_, 1) := by decide +kernel
theorem dX11_wrong_0 : decode cX11_wrong 0 = .ok (.aload_n 0, 1) := by decide +kernel
theorem dX11_wrong_1 : decode cX11_wrong 1 = .ok (.aload_n 0, 1) := by decide +kernel
theorem dX11_wrong_2 : decode cX11_wrong 2 = .ok (.getfield 126, 3) := by decide +kernel
theorem dX11_wrong_5 : decode cX11_wrong 5 = .ok (.iconst 4, 1) := by decide +kernel
theorem dX11_wrong_6 : decode cX11_wrong 6 = .ok (.if_icmp .ne 7, 3) := by decide +kernel
theorem dX11_wrong_9 : decode cX11_wrong 9 = .ok (.iconst 1, 1) := by decide +kernel
theorem dX11_wrong_10 : decode cX11_wrong 10 = .ok (.goto 4, 3) := by decide +kernel
theorem dX11_wrong_13 : decode cX11_wrong 13 = .ok (.iconst 2, 1) := by decide +kernel
theorem dX11_wrong_14 : decode cX11_wrong 14 = .ok (.aload_n 0, 1) := by decide +kernel
theorem dX11_wrong_15 : decode cX11_wrong 15 = .ok (.getfield 120, 3) := by decide +kernel
theorem dX11_wrong_18 : decode cX11_wrong 18 = .ok (.invokevirtual 235, 3) := by decide +kernel
theorem dX11_wrong_21 : decode cX11_wrong 21 = .ok (.return_, 1) := by decide +kernel
theorem dX11_must_0 : decode cX11_must 0 = .ok (.aload_n 0, 1) := by decide +kernel
theorem dX11_must_1 : decode cX11_must 1 = .ok (.getfield 229, 3) := by decide +kernel
theorem dX11_must_4 : decode cX11_must 4 = .ok (.ifCond .le 4, 3) := by decide +kernel
theorem dX11_must_7 : decode cX11_must 7 = .ok (.return_, 1) := by decide +kernel
theorem dX11_must_8 : decode cX11_must 8 = .ok (.iload_n 1, 1) := by decide +kernel
theorem dX11_must_9 : decode cX11_must 9 = .ok (.ifCond .eq 10, 3) := by decide +kernel
theorem dX11_must_12 : decode cX11_must 12 = .ok (.aload_n 0, 1) := by decide +kernel
theorem dX11_must_13 : decode cX11_must 13 = .ok (.invokevirtual 239, 3) := by decide +kernel
theorem dX11_must_16 : decode cX11_must 16 = .ok (.goto 7, 3) := by decide +kernel
theorem dX11_must_19 : decode cX11_must 19 = .ok (.aload_n 0, 1) := by decide +kernel
theorem dX11_must_20 : decode cX11_must 20 = .ok (.invokevirtual 242, 3) := by decide +kernel
theorem dX11_must_23 : decode cX11_must 23 = .ok (.return_, 1) := by decide +kernel
theorem dX11_count_0 : decode cX11_count 0 = .ok (.aload_n 0, 1) := by decide +kernel
theorem dX11_count_1 : decode cX11_count 1 = .ok (.getfield 229, 3) := by decide +kernel
theorem dX11_count_4 : decode cX11_count 4 = .ok (.ifCond .ne 15, 3) := by decide +kernel
theorem dX11_count_7 : decode cX11_count 7 = .ok (.aload_n 0, 1) := by decide +kernel
theorem dX11_count_8 : decode cX11_count 8 = .ok (.getfield 126, 3) := by decide +kernel
theorem dX11_count_11 : decode cX11_count 11 = .ok (.iconst 2, 1) := by decide +kernel
theorem dX11_count_12 : decode cX11_count 12 = .ok (.if_icmp .eq 7, 3) := by decide +kernel
theorem dX11_count_15 : decode cX11_count 15 = .ok (.aload_n 0, 1) := by decide +kernel
theorem dX11_count_16 : decode cX11_count 16 = .ok (.invokevirtual 242, 3) := by decide +kernel
theorem dX11_count_19 : decode cX11_count 19 = .ok (.aload_n 0, 1) := by decide +kernel
theorem dX11_count_20 : decode cX11_count 20 = .ok (.getfield 229, 3) := by decide +kernel
theorem dX11_count_23 : decode cX11_count 23 = .ok (.ifCond .ne 27, 3) := by decide +kernel
theorem dX11_count_26 : decode cX11_count 26 = .ok (.aload_n 0, 1) := by decide +kernel
theorem dX11_count_27 : decode cX11_count 27 = .ok (.getfield 145, 3) := by decide +kernel
theorem dX11_count_30 : decode cX11_count 30 = .ok (.i2l, 1) := by decide +kernel
theorem dX11_count_31 : decode cX11_count 31 = .ok (.iload_n 1, 1) := by decide +kernel
theorem dX11_count_32 : decode cX11_count 32 = .ok (.i2l, 1) := by decide +kernel
theorem dX11_count_33 : decode cX11_count 33 = .ok (.iload_n 2, 1) := by decide +kernel
theorem dX11_count_34 : decode cX11_count 34 = .ok (.i2l, 1) := by decide +kernel
theorem dX11_count_35 : decode cX11_count 35 = .ok (.invokestatic 106, 3) := by decide +kernel
theorem dX11_count_38 : decode cX11_count 38 = .ok (.ifCond .ne 12, 3) := by decide +kernel
theorem dX11_count_41 : decode cX11_count 41 = .ok (.aload_n 0, 1) := by decide +kernel
theorem dX11_count_42 : decode cX11_count 42 = .ok (.iconst 4, 1) := by decide +kernel
theorem dX11_count_43 : decode cX11_count 43 = .ok (.aload_n 0, 1) := by decide +kernel
theorem dX11_count_44 : decode cX11_count 44 = .ok (.getfield 120, 3) := by decide +kernel
theorem dX11_count_47 : decode cX11_count 47 = .ok (.invokevirtual 235, 3) := by decide +kernel
theorem dX11_count_50 : decode cX11_count 50 = .ok (.aload_n 0, 1) := by decide +kernel
theorem dX11_count_51 : decode cX11_count 51 = .ok (.getfield 229, 3) := by decide +kernel
theorem dX11_count_54 : decode cX11_count 54 = .ok (.ifCond .le 5, 3) := by decide +kernel
theorem dX11_count_57 : decode cX11_count 57 = .ok (.iconst 0, 1) := by decide +kernel
theorem dX11_count_58 : decode cX11_count 58 = .ok (.ireturn, 1) := by decide +kernel
theorem dX11_count_59 : decode cX11_count 59 = .ok (.aload_n 0, 1) := by decide +kernel
theorem dX11_count_60 : decode cX11_count 60 = .ok (.getfield 145, 3) := by decide +kernel
theorem dX11_count_63 : decode cX11_count 63 = .ok (.istore_n 3, 1) := by decide +kernel
theorem dX11_count_64 : decode cX11_count 64 = .ok (.aload_n 0, 1) := by decide +kernel
theorem dX11_count_65 : decode cX11_count 65 = .ok (.invokevirtual 239, 3) := by decide +kernel
theorem dX11_count_68 : decode cX11_count 68 = .ok (.iload_n 3, 1) := by decide +kernel
theorem dX11_count_69 : decode cX11_count 69 = .ok (.ireturn, 1) := by decide +kernel
theorem dX11_signed_0 : decode cX11_signed 0 = .ok (.aload_n 0, 1) := by decide +kernel
theorem dX11_signed_1 : decode cX11_signed 1 = .ok (.getfield 229, 3) := by decide +kernel
theorem dX11_signed_4 : decode cX11_signed 4 = .ok (.ifCond .ne 14, 3) := by decide +kernel
theorem dX11_signed_7 : decode cX11_signed 7 = .ok (.aload_n 0, 1) := by decide +kernel
theorem dX11_signed_8 : decode cX11_signed 8 = .ok (.invokevirtual 180, 3) := by decide +kernel
theorem dX11_signed_11 : decode cX11_signed 11 = .ok (.ifCond .eq 7, 3) := by decide +kernel
theorem dX11_signed_14 : decode cX11_signed 14 = .ok (.iconst 1, 1) := by decide +kernel
theorem dX11_signed_15 : decode cX11_signed 15 = .ok (.goto 4, 3) := by decide +kernel
theorem dX11_signed_18 : decode cX11_signed 18 = .ok (.iconst 0, 1) := by decide +kernel
theorem dX11_signed_19 : decode cX11_signed 19 = .ok (.istore_n 2, 1) := by decide +kernel
theorem dX11_signed_20 : decode cX11_signed 20 = .ok (.iload_n 2, 1) := by decide +kernel
theorem dX11_signed_21 : decode cX11_signed 21 = .ok (.ifCond .eq 7, 3) := by decide +kernel
theorem dX11_signed_24 : decode cX11_signed 24 = .ok (.aload_n 0, 1) := by decide +kernel
theorem dX11_signed_25 : decode cX11_signed 25 = .ok (.invokevirtual 239, 3) := by decide +kernel
theorem dX11_signed_28 : decode cX11_signed 28 = .ok (.aload_n 0, 1) := by decide +kernel
theorem dX11_signed_29 : decode cX11_signed 29 = .ok (.iconst 0, 1) := by decide +kernel
theorem dX11_signed_30 : decode cX11_signed 30 = .ok (.iload_n 1, 1) := by decide +kernel
theorem dX11_signed_31 : decode cX11_signed 31 = .ok (.invokevirtual 245, 3) := by decide +kernel
theorem dX11_signed_34 : decode cX11_signed 34 = .ok (.istore_n 3, 1) := by decide +kernel
theorem dX11_signed_35 : decode cX11_signed 35 = .ok (.iload_n 2, 1) := by decide +kernel
theorem dX11_signed_36 : decode cX11_signed 36 = .ok (.ifCond .eq 8, 3) := by decide +kernel
theorem dX11_signed_39 : decode cX11_signed 39 = .ok (.iload_n 3, 1) := by decide +kernel
theorem dX11_signed_40 : decode cX11_signed 40 = .ok (.ineg, 1) := by decide +kernel
theorem dX11_signed_41 : decode cX11_signed 41 = .ok (.goto 4, 3) := by decide +kernel
theorem dX11_signed_44 : decode cX11_signed 44 = .ok (.iload_n 3, 1) := by decide +kernel
theorem dX11_signed_45 : decode cX11_signed 45 = .ok (.ireturn, 1) := by decide +kernel
theorem dX11_feed_0 : decode cX11_feed 0 = .ok (.aload_n 0, 1) := by decide +kernel
theorem dX11_feed_1 : decode cX11_feed 1 = .ok (.iconst 0, 1) := by decide +kernel
theorem dX11_feed_2 : decode cX11_feed 2 = .ok (.putfield 71, 3) := by decide +kernel
theorem dX11_feed_5 : decode cX11_feed 5 = .ok (.aload_n 0, 1) := by decide +kernel
theorem dX11_feed_6 : decode cX11_feed 6 = .ok (.getfield 248, 3) := by decide +kernel
theorem dX11_feed_9 : decode cX11_feed 9 = .ok (.bipush 20, 2) := by decide +kernel
theorem dX11_feed_11 : decode cX11_feed 11 = .ok (.iadd, 1) := by decide +kernel
theorem dX11_feed_12 : decode cX11_feed 12 = .ok (.sipush 900, 3) := by decide +kernel
theorem dX11_feed_15 : decode cX11_feed 15 = .ok (.if_icmp .le 5, 3) := by decide +kernel
theorem dX11_feed_18 : decode cX11_feed 18 = .ok (.iconst (-1), 1) := by decide +kernel
theorem dX11_feed_19 : decode cX11_feed 19 = .ok (.ireturn, 1) := by decide +kernel
theorem dX11_feed_20 : decode cX11_feed 20 = .ok (.aload_n 0, 1) := by decide +kernel
theorem dX11_feed_21 : decode cX11_feed 21 = .ok (.iload_n 1, 1) := by decide +kernel
theorem dX11_feed_22 : decode cX11_feed 22 = .ok (.invokevirtual 251, 3) := by decide +kernel
theorem dX11_feed_25 : decode cX11_feed 25 = .ok (.aload_n 0, 1) := by decide +kernel
theorem dX11_feed_26 : decode cX11_feed 26 = .ok (.iload_n 2, 1) := by decide +kernel
theorem dX11_feed_27 : decode cX11_feed 27 = .ok (.invokevirtual 251, 3) := by decide +kernel
theorem dX11_feed_30 : decode cX11_feed 30 = .ok (.aload_n 0, 1) := by decide +kernel
theorem dX11_feed_31 : decode cX11_feed 31 = .ok (.iload_n 3, 1) := by decide +kernel
theorem dX11_feed_32 : decode cX11_feed 32 = .ok (.invokevirtual 251, 3) := by decide +kernel
theorem dX11_feed_35 : decode cX11_feed 35 = .ok (.aload_n 0, 1) := by decide +kernel
theorem dX11_feed_36 : decode cX11_feed 36 = .ok (.iload 4, 2) := by decide +kernel
theorem dX11_feed_38 : decode cX11_feed 38 = .ok (.invokevirtual 251, 3) := by decide +kernel
theorem dX11_feed_41 : decode cX11_feed 41 = .ok (.aload_n 0, 1) := by decide +kernel
theorem dX11_feed_42 : decode cX11_feed 42 = .ok (.iload 5, 2) := by decide +kernel
theorem dX11_feed_44 : decode cX11_feed 44 = .ok (.invokevirtual 251, 3) := by decide +kernel
theorem dX11_feed_47 : decode cX11_feed 47 = .ok (.aload_n 0, 1) := by decide +kernel
theorem dX11_feed_48 : decode cX11_feed 48 = .ok (.getfield 248, 3) := by decide +kernel
theorem dX11_feed_51 : decode cX11_feed 51 = .ok (.ireturn, 1) := by decide +kernel
theorem dX11_lay_0 : decode cX11_lay 0 = .ok (.iconst 3, 1) := by decide +kernel
theorem dX11_lay_1 : decode cX11_lay 1 = .ok (.istore_n 2, 1) := by decide +kernel
theorem dX11_lay_2 : decode cX11_lay 2 = .ok (.iload_n 2, 1) := by decide +kernel
theorem dX11_lay_3 : decode cX11_lay 3 = .ok (.ifCond .lt 35, 3) := by decide +kernel
theorem dX11_lay_6 : decode cX11_lay 6 = .ok (.aload_n 0, 1) := by decide +kernel
theorem dX11_lay_7 : decode cX11_lay 7 = .ok (.getfield 24, 3) := by decide +kernel
theorem dX11_lay_10 : decode cX11_lay 10 = .ok (.aload_n 0, 1) := by decide +kernel
theorem dX11_lay_11 : decode cX11_lay 11 = .ok (.getfield 248, 3) := by decide +kernel
theorem dX11_lay_14 : decode cX11_lay 14 = .ok (.iload_n 1, 1) := by decide +kernel
theorem dX11_lay_15 : decode cX11_lay 15 = .ok (.bipush 8, 2) := by decide +kernel
theorem dX11_lay_17 : decode cX11_lay 17 = .ok (.iload_n 2, 1) := by decide +kernel
theorem dX11_lay_18 : decode cX11_lay 18 = .ok (.imul, 1) := by decide +kernel
theorem dX11_lay_19 : decode cX11_lay 19 = .ok (.ishr, 1) := by decide +kernel
theorem dX11_lay_20 : decode cX11_lay 20 = .ok (.i2b, 1) := by decide +kernel
theorem dX11_lay_21 : decode cX11_lay 21 = .ok (.bastore, 1) := by decide +kernel
theorem dX11_lay_22 : decode cX11_lay 22 = .ok (.aload_n 0, 1) := by decide +kernel
theorem dX11_lay_23 : decode cX11_lay 23 = .ok (.dup, 1) := by decide +kernel
theorem dX11_lay_24 : decode cX11_lay 24 = .ok (.getfield 248, 3) := by decide +kernel
theorem dX11_lay_27 : decode cX11_lay 27 = .ok (.iconst 1, 1) := by decide +kernel
theorem dX11_lay_28 : decode cX11_lay 28 = .ok (.iadd, 1) := by decide +kernel
theorem dX11_lay_29 : decode cX11_lay 29 = .ok (.putfield 248, 3) := by decide +kernel
theorem dX11_lay_32 : decode cX11_lay 32 = .ok (.iinc 2 (-1), 3) := by decide +kernel
theorem dX11_lay_35 : decode cX11_lay 35 = .ok (.goto (-33), 3) := by decide +kernel
theorem dX11_lay_38 : decode cX11_lay 38 = .ok (.return_, 1) := by decide +kernel
theorem dX11_starts_0 : decode cX11_starts 0 = .ok (.iload_n 1, 1) := by decide +kernel
theorem dX11_starts_1 : decode cX11_starts 1 = .ok (.ifCond .lt 16, 3) := by decide +kernel
theorem dX11_starts_4 : decode cX11_starts 4 = .ok (.iload_n 1, 1) := by decide +kernel
theorem dX11_starts_5 : decode cX11_starts 5 = .ok (.aload_n 0, 1) := by decide +kernel
theorem dX11_starts_6 : decode cX11_starts 6 = .ok (.getfield 248, 3) := by decide +kernel
theorem dX11_starts_9 : decode cX11_starts 9 = .ok (.if_icmp .gt 8, 3) := by decide +kernel
theorem dX11_starts_12 : decode cX11_starts 12 = .ok (.iload_n 1, 1) := by decide +kernel
theorem dX11_starts_13 : decode cX11_starts 13 = .ok (.iload_n 2, 1) := by decide +kernel
theorem dX11_starts_14 : decode cX11_starts 14 = .ok (.if_icmp .le 9, 3) := by decide +kernel
theorem dX11_starts_17 : decode cX11_starts 17 = .ok (.aload_n 0, 1) := by decide +kernel
theorem dX11_starts_18 : decode cX11_starts 18 = .ok (.iconst 5, 1) := by decide +kernel
theorem dX11_starts_19 : decode cX11_starts 19 = .ok (.invokevirtual 86, 3) := by decide +kernel
theorem dX11_starts_22 : decode cX11_starts 22 = .ok (.ireturn, 1) := by decide +kernel
theorem dX11_starts_23 : decode cX11_starts 23 = .ok (.aload_n 0, 1) := by decide +kernel
theorem dX11_starts_24 : decode cX11_starts 24 = .ok (.iload_n 1, 1) := by decide +kernel
theorem dX11_starts_25 : decode cX11_starts 25 = .ok (.putfield 114, 3) := by decide +kernel
theorem dX11_starts_28 : decode cX11_starts 28 = .ok (.aload_n 0, 1) := by decide +kernel
theorem dX11_starts_29 : decode cX11_starts 29 = .ok (.iconst 0, 1) := by decide +kernel
theorem dX11_starts_30 : decode cX11_starts 30 = .ok (.putfield 248, 3) := by decide +kernel
theorem dX11_starts_33 : decode cX11_starts 33 = .ok (.aload_n 0, 1) := by decide +kernel
theorem dX11_starts_34 : decode cX11_starts 34 = .ok (.iconst 0, 1) := by decide +kernel
theorem dX11_starts_35 : decode cX11_starts 35 = .ok (.putfield 117, 3) := by decide +kernel
theorem dX11_starts_38 : decode cX11_starts 38 = .ok (.aload_n 0, 1) := by decide +kernel
theorem dX11_starts_39 : decode cX11_starts 39 = .ok (.iconst 0, 1) := by decide +kernel
theorem dX11_starts_40 : decode cX11_starts 40 = .ok (.putfield 229, 3) := by decide +kernel
theorem dX11_starts_43 : decode cX11_starts 43 = .ok (.aload_n 0, 1) := by decide +kernel
theorem dX11_starts_44 : decode cX11_starts 44 = .ok (.invokevirtual 239, 3) := by decide +kernel
theorem dX11_starts_47 : decode cX11_starts 47 = .ok (.iconst 1, 1) := by decide +kernel
theorem dX11_starts_48 : decode cX11_starts 48 = .ok (.ireturn, 1) := by decide +kernel
theorem dX11_isWell_0 : decode cX11_isWell 0 = .ok (.aload_n 0, 1) := by decide +kernel
theorem dX11_isWell_1 : decode cX11_isWell 1 = .ok (.aload_n 0, 1) := by decide +kernel
theorem dX11_isWell_2 : decode cX11_isWell 2 = .ok (.getfield 229, 3) := by decide +kernel
theorem dX11_isWell_5 : decode cX11_isWell 5 = .ok (.putfield 28, 3) := by decide +kernel
theorem dX11_isWell_8 : decode cX11_isWell 8 = .ok (.aload_n 0, 1) := by decide +kernel
theorem dX11_isWell_9 : decode cX11_isWell 9 = .ok (.aload_n 0, 1) := by decide +kernel
theorem dX11_isWell_10 : decode cX11_isWell 10 = .ok (.getfield 229, 3) := by decide +kernel
theorem dX11_isWell_13 : decode cX11_isWell 13 = .ok (.ifCond .ne 7, 3) := by decide +kernel
theorem dX11_isWell_16 : decode cX11_isWell 16 = .ok (.iconst (-1), 1) := by decide +kernel
theorem dX11_isWell_17 : decode cX11_isWell 17 = .ok (.goto 7, 3) := by decide +kernel
theorem dX11_isWell_20 : decode cX11_isWell 20 = .ok (.aload_n 0, 1) := by decide +kernel
theorem dX11_isWell_21 : decode cX11_isWell 21 = .ok (.getfield 232, 3) := by decide +kernel
theorem dX11_isWell_24 : decode cX11_isWell 24 = .ok (.putfield 32, 3) := by decide +kernel
theorem dX11_isWell_27 : decode cX11_isWell 27 = .ok (.aload_n 0, 1) := by decide +kernel
theorem dX11_isWell_28 : decode cX11_isWell 28 = .ok (.getfield 229, 3) := by decide +kernel
theorem dX11_isWell_31 : decode cX11_isWell 31 = .ok (.ifCond .eq 12, 3) := by decide +kernel
theorem dX11_isWell_34 : decode cX11_isWell 34 = .ok (.aload_n 0, 1) := by decide +kernel
theorem dX11_isWell_35 : decode cX11_isWell 35 = .ok (.bipush 10, 2) := by decide +kernel
theorem dX11_isWell_37 : decode cX11_isWell 37 = .ok (.invokevirtual 86, 3) := by decide +kernel
theorem dX11_isWell_40 : decode cX11_isWell 40 = .ok (.ifCond .eq 7, 3) := by decide +kernel
theorem dX11_isWell_43 : decode cX11_isWell 43 = .ok (.iconst 1, 1) := by decide +kernel
theorem dX11_isWell_44 : decode cX11_isWell 44 = .ok (.goto 4, 3) := by decide +kernel
theorem dX11_isWell_47 : decode cX11_isWell 47 = .ok (.iconst 0, 1) := by decide +kernel
theorem dX11_isWell_48 : decode cX11_isWell 48 = .ok (.ireturn, 1) := by decide +kernel
theorem dX11_fault_0 : decode cX11_fault 0 = .ok (.aload_n 0, 1) := by decide +kernel
theorem dX11_fault_1 : decode cX11_fault 1 = .ok (.iconst 0, 1) := by decide +kernel
theorem dX11_fault_2 : decode cX11_fault 2 = .ok (.putfield 71, 3) := by decide +kernel
theorem dX11_fault_5 : decode cX11_fault 5 = .ok (.iload_n 1, 1) := by decide +kernel
theorem dX11_fault_6 : decode cX11_fault 6 = .ok (.ifCond .ne 10, 3) := by decide +kernel
theorem dX11_fault_9 : decode cX11_fault 9 = .ok (.aload_n 0, 1) := by decide +kernel
theorem dX11_fault_10 : decode cX11_fault 10 = .ok (.getfield 28, 3) := by decide +kernel
theorem dX11_fault_13 : decode cX11_fault 13 = .ok (.goto 16, 3) := by decide +kernel
theorem dX11_fault_16 : decode cX11_fault 16 = .ok (.iload_n 1, 1) := by decide +kernel
theorem dX11_fault_17 : decode cX11_fault 17 = .ok (.iconst 1, 1) := by decide +kernel
theorem dX11_fault_18 : decode cX11_fault 18 = .ok (.if_icmp .ne 10, 3) := by decide +kernel
theorem dX11_fault_21 : decode cX11_fault 21 = .ok (.aload_n 0, 1) := by decide +kernel
theorem dX11_fault_22 : decode cX11_fault 22 = .ok (.getfield 32, 3) := by decide +kernel
theorem dX11_fault_25 : decode cX11_fault 25 = .ok (.goto 4, 3) := by decide +kernel
theorem dX11_fault_28 : decode cX11_fault 28 = .ok (.iconst (-1), 1) := by decide +kernel
theorem dX11_fault_29 : decode cX11_fault 29 = .ok (.ireturn, 1) := by decide +kernel
theorem dX11_fromOf_0 : decode cX11_fromOf 0 = .ok (.iload_n 0, 1) := by decide +kernel
theorem dX11_fromOf_1 : decode cX11_fromOf 1 = .ok (.ifCond .ne 7, 3) := by decide +kernel
theorem dX11_fromOf_4 : decode cX11_fromOf 4 = .ok (.iconst 0, 1) := by decide +kernel
theorem dX11_fromOf_5 : decode cX11_fromOf 5 = .ok (.goto 25, 3) := by decide +kernel
theorem dX11_fromOf_8 : decode cX11_fromOf 8 = .ok (.iload_n 0, 1) := by decide +kernel
theorem dX11_fromOf_9 : decode cX11_fromOf 9 = .ok (.iconst 1, 1) := by decide +kernel
theorem dX11_fromOf_10 : decode cX11_fromOf 10 = .ok (.if_icmp .ne 8, 3) := by decide +kernel
theorem dX11_fromOf_13 : decode cX11_fromOf 13 = .ok (.bipush 10, 2) := by decide +kernel
theorem dX11_fromOf_15 : decode cX11_fromOf 15 = .ok (.goto 15, 3) := by decide +kernel
theorem dX11_fromOf_18 : decode cX11_fromOf 18 = .ok (.iload_n 0, 1) := by decide +kernel
theorem dX11_fromOf_19 : decode cX11_fromOf 19 = .ok (.iconst 2, 1) := by decide +kernel
theorem dX11_fromOf_20 : decode cX11_fromOf 20 = .ok (.if_icmp .ne 8, 3) := by decide +kernel
theorem dX11_fromOf_23 : decode cX11_fromOf 23 = .ok (.bipush 16, 2) := by decide +kernel
theorem dX11_fromOf_25 : decode cX11_fromOf 25 = .ok (.goto 5, 3) := by decide +kernel
theorem dX11_fromOf_28 : decode cX11_fromOf 28 = .ok (.bipush 22, 2) := by decide +kernel
theorem dX11_fromOf_30 : decode cX11_fromOf 30 = .ok (.ireturn, 1) := by decide +kernel
theorem dX11_named_0 : decode cX11_named 0 = .ok (.iconst 0, 1) := by decide +kernel
theorem dX11_named_1 : decode cX11_named 1 = .ok (.istore_n 3, 1) := by decide +kernel
theorem dX11_named_2 : decode cX11_named 2 = .ok (.iload_n 3, 1) := by decide +kernel
theorem dX11_named_3 : decode cX11_named 3 = .ok (.aload_n 0, 1) := by decide +kernel
theorem dX11_named_4 : decode cX11_named 4 = .ok (.getfield 35, 3) := by decide +kernel
theorem dX11_named_7 : decode cX11_named 7 = .ok (.sipush 475, 3) := by decide +kernel
theorem dX11_named_10 : decode cX11_named 10 = .ok (.iload_n 1, 1) := by decide +kernel
theorem dX11_named_11 : decode cX11_named 11 = .ok (.imul, 1) := by decide +kernel
theorem dX11_named_12 : decode cX11_named 12 = .ok (.iload_n 2, 1) := by decide +kernel
theorem dX11_named_13 : decode cX11_named 13 = .ok (.iadd, 1) := by decide +kernel
theorem dX11_named_14 : decode cX11_named 14 = .ok (.iaload, 1) := by decide +kernel
theorem dX11_named_15 : decode cX11_named 15 = .ok (.if_icmp .ge 35, 3) := by decide +kernel
theorem dX11_named_18 : decode cX11_named 18 = .ok (.aload_n 0, 1) := by decide +kernel
theorem dX11_named_19 : decode cX11_named 19 = .ok (.getfield 41, 3) := by decide +kernel
theorem dX11_named_22 : decode cX11_named 22 = .ok (.bipush 26, 2) := by decide +kernel
theorem dX11_named_24 : decode cX11_named 24 = .ok (.iload_n 1, 1) := by decide +kernel
theorem dX11_named_25 : decode cX11_named 25 = .ok (.imul, 1) := by decide +kernel
theorem dX11_named_26 : decode cX11_named 26 = .ok (.iload_n 2, 1) := by decide +kernel
theorem dX11_named_27 : decode cX11_named 27 = .ok (.invokestatic 255, 3) := by decide +kernel
theorem dX11_named_30 : decode cX11_named 30 = .ok (.iadd, 1) := by decide +kernel
theorem dX11_named_31 : decode cX11_named 31 = .ok (.iload_n 3, 1) := by decide +kernel
theorem dX11_named_32 : decode cX11_named 32 = .ok (.iadd, 1) := by decide +kernel
theorem dX11_named_33 : decode cX11_named 33 = .ok (.laload, 1) := by decide +kernel
theorem dX11_named_34 : decode cX11_named 34 = .ok (.aload_n 0, 1) := by decide +kernel
theorem dX11_named_35 : decode cX11_named 35 = .ok (.getfield 132, 3) := by decide +kernel
theorem dX11_named_38 : decode cX11_named 38 = .ok (.lcmp, 1) := by decide +kernel
theorem dX11_named_39 : decode cX11_named 39 = .ok (.ifCond .ne 5, 3) := by decide +kernel
theorem dX11_named_42 : decode cX11_named 42 = .ok (.iload_n 3, 1) := by decide +kernel
theorem dX11_named_43 : decode cX11_named 43 = .ok (.ireturn, 1) := by decide +kernel
theorem dX11_named_44 : decode cX11_named 44 = .ok (.iinc 3 1, 3) := by decide +kernel
theorem dX11_named_47 : decode cX11_named 47 = .ok (.goto (-45), 3) := by decide +kernel
theorem dX11_named_50 : decode cX11_named 50 = .ok (.iconst (-1), 1) := by decide +kernel
theorem dX11_named_51 : decode cX11_named 51 = .ok (.ireturn, 1) := by decide +kernel
theorem dX11_readNew_0 : decode cX11_readNew 0 = .ok (.aload_n 0, 1) := by decide +kernel
theorem dX11_readNew_1 : decode cX11_readNew 1 = .ok (.getfield 35, 3) := by decide +kernel
theorem dX11_readNew_4 : decode cX11_readNew 4 = .ok (.sipush 1900, 3) := by decide +kernel
theorem dX11_readNew_7 : decode cX11_readNew 7 = .ok (.iload_n 1, 1) := by decide +kernel
theorem dX11_readNew_8 : decode cX11_readNew 8 = .ok (.iadd, 1) := by decide +kernel
theorem dX11_readNew_9 : decode cX11_readNew 9 = .ok (.iaload, 1) := by decide +kernel
theorem dX11_readNew_10 : decode cX11_readNew 10 = .ok (.istore_n 3, 1) := by decide +kernel
theorem dX11_readNew_11 : decode cX11_readNew 11 = .ok (.iload_n 3, 1) := by decide +kernel
theorem dX11_readNew_12 : decode cX11_readNew 12 = .ok (.iload_n 2, 1) := by decide +kernel
theorem dX11_readNew_13 : decode cX11_readNew 13 = .ok (.if_icmp .ne 13, 3) := by decide +kernel
theorem dX11_readNew_16 : decode cX11_readNew 16 = .ok (.aload_n 0, 1) := by decide +kernel
theorem dX11_readNew_17 : decode cX11_readNew 17 = .ok (.bipush 6, 2) := by decide +kernel
theorem dX11_readNew_19 : decode cX11_readNew 19 = .ok (.aload_n 0, 1) := by decide +kernel
theorem dX11_readNew_20 : decode cX11_readNew 20 = .ok (.getfield 120, 3) := by decide +kernel
theorem dX11_readNew_23 : decode cX11_readNew 23 = .ok (.invokevirtual 235, 3) := by decide +kernel
theorem dX11_readNew_26 : decode cX11_readNew 26 = .ok (.aload_n 0, 1) := by decide +kernel
theorem dX11_readNew_27 : decode cX11_readNew 27 = .ok (.getfield 229, 3) := by decide +kernel
theorem dX11_readNew_30 : decode cX11_readNew 30 = .ok (.ifCond .le 5, 3) := by decide +kernel
theorem dX11_readNew_33 : decode cX11_readNew 33 = .ok (.iconst 0, 1) := by decide +kernel
theorem dX11_readNew_34 : decode cX11_readNew 34 = .ok (.ireturn, 1) := by decide +kernel
theorem dX11_readNew_35 : decode cX11_readNew 35 = .ok (.aload_n 0, 1) := by decide +kernel
theorem dX11_readNew_36 : decode cX11_readNew 36 = .ok (.invokevirtual 239, 3) := by decide +kernel
theorem dX11_readNew_39 : decode cX11_readNew 39 = .ok (.aload_n 0, 1) := by decide +kernel
theorem dX11_readNew_40 : decode cX11_readNew 40 = .ok (.invokevirtual 258, 3) := by decide +kernel
theorem dX11_readNew_43 : decode cX11_readNew 43 = .ok (.ifCond .ne 7, 3) := by decide +kernel
theorem dX11_readNew_46 : decode cX11_readNew 46 = .ok (.aload_n 0, 1) := by decide +kernel
theorem dX11_readNew_47 : decode cX11_readNew 47 = .ok (.invokevirtual 242, 3) := by decide +kernel
theorem dX11_readNew_50 : decode cX11_readNew 50 = .ok (.aload_n 0, 1) := by decide +kernel
theorem dX11_readNew_51 : decode cX11_readNew 51 = .ok (.getfield 229, 3) := by decide +kernel
theorem dX11_readNew_54 : decode cX11_readNew 54 = .ok (.ifCond .ne 48, 3) := by decide +kernel
theorem dX11_readNew_57 : decode cX11_readNew 57 = .ok (.aload_n 0, 1) := by decide +kernel
theorem dX11_readNew_58 : decode cX11_readNew 58 = .ok (.iconst 4, 1) := by decide +kernel
theorem dX11_readNew_59 : decode cX11_readNew 59 = .ok (.iconst 0, 1) := by decide +kernel
theorem dX11_readNew_60 : decode cX11_readNew 60 = .ok (.invokevirtual 261, 3) := by decide +kernel
theorem dX11_readNew_63 : decode cX11_readNew 63 = .ok (.ifCond .ge 30, 3) := by decide +kernel
theorem dX11_readNew_66 : decode cX11_readNew 66 = .ok (.aload_n 0, 1) := by decide +kernel
theorem dX11_readNew_67 : decode cX11_readNew 67 = .ok (.iconst 4, 1) := by decide +kernel
theorem dX11_readNew_68 : decode cX11_readNew 68 = .ok (.iconst 1, 1) := by decide +kernel
theorem dX11_readNew_69 : decode cX11_readNew 69 = .ok (.invokevirtual 261, 3) := by decide +kernel
theorem dX11_readNew_72 : decode cX11_readNew 72 = .ok (.ifCond .ge 21, 3) := by decide +kernel
theorem dX11_readNew_75 : decode cX11_readNew 75 = .ok (.aload_n 0, 1) := by decide +kernel
theorem dX11_readNew_76 : decode cX11_readNew 76 = .ok (.iconst 4, 1) := by decide +kernel
theorem dX11_readNew_77 : decode cX11_readNew 77 = .ok (.iconst 2, 1) := by decide +kernel
theorem dX11_readNew_78 : decode cX11_readNew 78 = .ok (.invokevirtual 261, 3) := by decide +kernel
theorem dX11_readNew_81 : decode cX11_readNew 81 = .ok (.ifCond .ge 12, 3) := by decide +kernel
theorem dX11_readNew_84 : decode cX11_readNew 84 = .ok (.aload_n 0, 1) := by decide +kernel
theorem dX11_readNew_85 : decode cX11_readNew 85 = .ok (.iconst 4, 1) := by decide +kernel
theorem dX11_readNew_86 : decode cX11_readNew 86 = .ok (.iconst 3, 1) := by decide +kernel
theorem dX11_readNew_87 : decode cX11_readNew 87 = .ok (.invokevirtual 261, 3) := by decide +kernel
theorem dX11_readNew_90 : decode cX11_readNew 90 = .ok (.ifCond .lt 12, 3) := by decide +kernel
theorem dX11_readNew_93 : decode cX11_readNew 93 = .ok (.aload_n 0, 1) := by decide +kernel
theorem dX11_readNew_94 : decode cX11_readNew 94 = .ok (.iconst 3, 1) := by decide +kernel
theorem dX11_readNew_95 : decode cX11_readNew 95 = .ok (.aload_n 0, 1) := by decide +kernel
theorem dX11_readNew_96 : decode cX11_readNew 96 = .ok (.getfield 120, 3) := by decide +kernel
theorem dX11_readNew_99 : decode cX11_readNew 99 = .ok (.invokevirtual 235, 3) := by decide +kernel
theorem dX11_readNew_102 : decode cX11_readNew 102 = .ok (.aload_n 0, 1) := by decide +kernel
theorem dX11_readNew_103 : decode cX11_readNew 103 = .ok (.getfield 229, 3) := by decide +kernel
theorem dX11_readNew_106 : decode cX11_readNew 106 = .ok (.ifCond .le 5, 3) := by decide +kernel
theorem dX11_readNew_109 : decode cX11_readNew 109 = .ok (.iconst 0, 1) := by decide +kernel
theorem dX11_readNew_110 : decode cX11_readNew 110 = .ok (.ireturn, 1) := by decide +kernel
theorem dX11_readNew_111 : decode cX11_readNew 111 = .ok (.aload_n 0, 1) := by decide +kernel
theorem dX11_readNew_112 : decode cX11_readNew 112 = .ok (.getfield 41, 3) := by decide +kernel
theorem dX11_readNew_115 : decode cX11_readNew 115 = .ok (.bipush 104, 2) := by decide +kernel
theorem dX11_readNew_117 : decode cX11_readNew 117 = .ok (.iload_n 1, 1) := by decide +kernel
theorem dX11_readNew_118 : decode cX11_readNew 118 = .ok (.invokestatic 255, 3) := by decide +kernel
theorem dX11_readNew_121 : decode cX11_readNew 121 = .ok (.iadd, 1) := by decide +kernel
theorem dX11_readNew_122 : decode cX11_readNew 122 = .ok (.iload_n 3, 1) := by decide +kernel
theorem dX11_readNew_123 : decode cX11_readNew 123 = .ok (.iadd, 1) := by decide +kernel
theorem dX11_readNew_124 : decode cX11_readNew 124 = .ok (.aload_n 0, 1) := by decide +kernel
theorem dX11_readNew_125 : decode cX11_readNew 125 = .ok (.getfield 132, 3) := by decide +kernel
theorem dX11_readNew_128 : decode cX11_readNew 128 = .ok (.lastore, 1) := by decide +kernel
theorem dX11_readNew_129 : decode cX11_readNew 129 = .ok (.aload_n 0, 1) := by decide +kernel
theorem dX11_readNew_130 : decode cX11_readNew 130 = .ok (.invokevirtual 239, 3) := by decide +kernel
theorem dX11_readNew_133 : decode cX11_readNew 133 = .ok (.iload_n 3, 1) := by decide +kernel
theorem dX11_readNew_134 : decode cX11_readNew 134 = .ok (.ireturn, 1) := by decide +kernel
theorem dX11_told_0 : decode cX11_told 0 = .ok (.aload_n 0, 1) := by decide +kernel
theorem dX11_told_1 : decode cX11_told 1 = .ok (.getfield 229, 3) := by decide +kernel
theorem dX11_told_4 : decode cX11_told 4 = .ok (.ifCond .ne 14, 3) := by decide +kernel
theorem dX11_told_7 : decode cX11_told 7 = .ok (.aload_n 0, 1) := by decide +kernel
theorem dX11_told_8 : decode cX11_told 8 = .ok (.invokevirtual 258, 3) := by decide +kernel
theorem dX11_told_11 : decode cX11_told 11 = .ok (.ifCond .ne 7, 3) := by decide +kernel
theorem dX11_told_14 : decode cX11_told 14 = .ok (.aload_n 0, 1) := by decide +kernel
theorem dX11_told_15 : decode cX11_told 15 = .ok (.invokevirtual 242, 3) := by decide +kernel
theorem dX11_told_18 : decode cX11_told 18 = .ok (.aload_n 0, 1) := by decide +kernel
theorem dX11_told_19 : decode cX11_told 19 = .ok (.getfield 229, 3) := by decide +kernel
theorem dX11_told_22 : decode cX11_told 22 = .ok (.ifCond .le 5, 3) := by decide +kernel
theorem dX11_told_25 : decode cX11_told 25 = .ok (.iconst 0, 1) := by decide +kernel
theorem dX11_told_26 : decode cX11_told 26 = .ok (.ireturn, 1) := by decide +kernel
theorem dX11_told_27 : decode cX11_told 27 = .ok (.aload_n 0, 1) := by decide +kernel
theorem dX11_told_28 : decode cX11_told 28 = .ok (.iload_n 1, 1) := by decide +kernel
theorem dX11_told_29 : decode cX11_told 29 = .ok (.iload_n 2, 1) := by decide +kernel
theorem dX11_told_30 : decode cX11_told 30 = .ok (.invokevirtual 261, 3) := by decide +kernel
theorem dX11_told_33 : decode cX11_told 33 = .ok (.istore_n 3, 1) := by decide +kernel
theorem dX11_told_34 : decode cX11_told 34 = .ok (.iload_n 3, 1) := by decide +kernel
theorem dX11_told_35 : decode cX11_told 35 = .ok (.ifCond .ge 12, 3) := by decide +kernel
theorem dX11_told_38 : decode cX11_told 38 = .ok (.aload_n 0, 1) := by decide +kernel
theorem dX11_told_39 : decode cX11_told 39 = .ok (.iconst 3, 1) := by decide +kernel
theorem dX11_told_40 : decode cX11_told 40 = .ok (.aload_n 0, 1) := by decide +kernel
theorem dX11_told_41 : decode cX11_told 41 = .ok (.getfield 120, 3) := by decide +kernel
theorem dX11_told_44 : decode cX11_told 44 = .ok (.invokevirtual 235, 3) := by decide +kernel
theorem dX11_told_47 : decode cX11_told 47 = .ok (.iconst 0, 1) := by decide +kernel
theorem dX11_told_48 : decode cX11_told 48 = .ok (.iload_n 3, 1) := by decide +kernel
theorem dX11_told_49 : decode cX11_told 49 = .ok (.invokestatic 264, 3) := by decide +kernel
theorem dX11_told_52 : decode cX11_told 52 = .ok (.ireturn, 1) := by decide +kernel
theorem dX11_readTold_0 : decode cX11_readTold 0 = .ok (.aload_n 0, 1) := by decide +kernel
theorem dX11_readTold_1 : decode cX11_readTold 1 = .ok (.iload_n 1, 1) := by decide +kernel
theorem dX11_readTold_2 : decode cX11_readTold 2 = .ok (.iload_n 2, 1) := by decide +kernel
theorem dX11_readTold_3 : decode cX11_readTold 3 = .ok (.invokevirtual 267, 3) := by decide +kernel
theorem dX11_readTold_6 : decode cX11_readTold 6 = .ok (.istore_n 3, 1) := by decide +kernel
theorem dX11_readTold_7 : decode cX11_readTold 7 = .ok (.aload_n 0, 1) := by decide +kernel
theorem dX11_readTold_8 : decode cX11_readTold 8 = .ok (.iconst 1, 1) := by decide +kernel
theorem dX11_readTold_9 : decode cX11_readTold 9 = .ok (.invokevirtual 270, 3) := by decide +kernel
theorem dX11_readTold_12 : decode cX11_readTold 12 = .ok (.iload_n 3, 1) := by decide +kernel
theorem dX11_readTold_13 : decode cX11_readTold 13 = .ok (.ireturn, 1) := by decide +kernel
theorem dX11_readJuror_0 : decode cX11_readJuror 0 = .ok (.aload_n 0, 1) := by decide +kernel
theorem dX11_readJuror_1 : decode cX11_readJuror 1 = .ok (.iconst 0, 1) := by decide +kernel
theorem dX11_readJuror_2 : decode cX11_readJuror 2 = .ok (.bipush 10, 2) := by decide +kernel
theorem dX11_readJuror_4 : decode cX11_readJuror 4 = .ok (.invokevirtual 274, 3) := by decide +kernel
theorem dX11_readJuror_7 : decode cX11_readJuror 7 = .ok (.istore_n 1, 1) := by decide +kernel
theorem dX11_readJuror_8 : decode cX11_readJuror 8 = .ok (.aload_n 0, 1) := by decide +kernel
theorem dX11_readJuror_9 : decode cX11_readJuror 9 = .ok (.getfield 229, 3) := by decide +kernel
theorem dX11_readJuror_12 : decode cX11_readJuror 12 = .ok (.ifCond .ne 30, 3) := by decide +kernel
theorem dX11_readJuror_15 : decode cX11_readJuror 15 = .ok (.aload_n 0, 1) := by decide +kernel
theorem dX11_readJuror_16 : decode cX11_readJuror 16 = .ok (.invokevirtual 177, 3) := by decide +kernel
theorem dX11_readJuror_19 : decode cX11_readJuror 19 = .ok (.ifCond .eq 23, 3) := by decide +kernel
theorem dX11_readJuror_22 : decode cX11_readJuror 22 = .ok (.aload_n 0, 1) := by decide +kernel
theorem dX11_readJuror_23 : decode cX11_readJuror 23 = .ok (.invokevirtual 239, 3) := by decide +kernel
theorem dX11_readJuror_26 : decode cX11_readJuror 26 = .ok (.aload_n 0, 1) := by decide +kernel
theorem dX11_readJuror_27 : decode cX11_readJuror 27 = .ok (.getfield 35, 3) := by decide +kernel
theorem dX11_readJuror_30 : decode cX11_readJuror 30 = .ok (.sipush 1912, 3) := by decide +kernel
theorem dX11_readJuror_33 : decode cX11_readJuror 33 = .ok (.iload_n 1, 1) := by decide +kernel
theorem dX11_readJuror_34 : decode cX11_readJuror 34 = .ok (.iadd, 1) := by decide +kernel
theorem dX11_readJuror_35 : decode cX11_readJuror 35 = .ok (.aload_n 0, 1) := by decide +kernel
theorem dX11_readJuror_36 : decode cX11_readJuror 36 = .ok (.bipush 99, 2) := by decide +kernel
theorem dX11_readJuror_38 : decode cX11_readJuror 38 = .ok (.invokevirtual 277, 3) := by decide +kernel
theorem dX11_readJuror_41 : decode cX11_readJuror 41 = .ok (.iastore, 1) := by decide +kernel
theorem dX11_readJuror_42 : decode cX11_readJuror 42 = .ok (.aload_n 0, 1) := by decide +kernel
theorem dX11_readJuror_43 : decode cX11_readJuror 43 = .ok (.getfield 229, 3) := by decide +kernel
theorem dX11_readJuror_46 : decode cX11_readJuror 46 = .ok (.ifCond .ne 31, 3) := by decide +kernel
theorem dX11_readJuror_49 : decode cX11_readJuror 49 = .ok (.aload_n 0, 1) := by decide +kernel
theorem dX11_readJuror_50 : decode cX11_readJuror 50 = .ok (.invokevirtual 183, 3) := by decide +kernel
theorem dX11_readJuror_53 : decode cX11_readJuror 53 = .ok (.ifCond .eq 24, 3) := by decide +kernel
theorem dX11_readJuror_56 : decode cX11_readJuror 56 = .ok (.aload_n 0, 1) := by decide +kernel
theorem dX11_readJuror_57 : decode cX11_readJuror 57 = .ok (.invokevirtual 239, 3) := by decide +kernel
theorem dX11_readJuror_60 : decode cX11_readJuror 60 = .ok (.aload_n 0, 1) := by decide +kernel
theorem dX11_readJuror_61 : decode cX11_readJuror 61 = .ok (.getfield 35, 3) := by decide +kernel
theorem dX11_readJuror_64 : decode cX11_readJuror 64 = .ok (.sipush 1922, 3) := by decide +kernel
theorem dX11_readJuror_67 : decode cX11_readJuror 67 = .ok (.iload_n 1, 1) := by decide +kernel
theorem dX11_readJuror_68 : decode cX11_readJuror 68 = .ok (.iadd, 1) := by decide +kernel
theorem dX11_readJuror_69 : decode cX11_readJuror 69 = .ok (.aload_n 0, 1) := by decide +kernel
theorem dX11_readJuror_70 : decode cX11_readJuror 70 = .ok (.iconst 0, 1) := by decide +kernel
theorem dX11_readJuror_71 : decode cX11_readJuror 71 = .ok (.bipush 20, 2) := by decide +kernel
theorem dX11_readJuror_73 : decode cX11_readJuror 73 = .ok (.invokevirtual 245, 3) := by decide +kernel
theorem dX11_readJuror_76 : decode cX11_readJuror 76 = .ok (.iastore, 1) := by decide +kernel
theorem dX11_readJuror_77 : decode cX11_readJuror 77 = .ok (.aload_n 0, 1) := by decide +kernel
theorem dX11_readJuror_78 : decode cX11_readJuror 78 = .ok (.getfield 229, 3) := by decide +kernel
theorem dX11_readJuror_81 : decode cX11_readJuror 81 = .ok (.ifCond .ne 31, 3) := by decide +kernel
theorem dX11_readJuror_84 : decode cX11_readJuror 84 = .ok (.aload_n 0, 1) := by decide +kernel
theorem dX11_readJuror_85 : decode cX11_readJuror 85 = .ok (.invokevirtual 186, 3) := by decide +kernel
theorem dX11_readJuror_88 : decode cX11_readJuror 88 = .ok (.ifCond .eq 24, 3) := by decide +kernel
theorem dX11_readJuror_91 : decode cX11_readJuror 91 = .ok (.aload_n 0, 1) := by decide +kernel
theorem dX11_readJuror_92 : decode cX11_readJuror 92 = .ok (.invokevirtual 239, 3) := by decide +kernel
theorem dX11_readJuror_95 : decode cX11_readJuror 95 = .ok (.aload_n 0, 1) := by decide +kernel
theorem dX11_readJuror_96 : decode cX11_readJuror 96 = .ok (.getfield 35, 3) := by decide +kernel
theorem dX11_readJuror_99 : decode cX11_readJuror 99 = .ok (.sipush 1932, 3) := by decide +kernel
theorem dX11_readJuror_102 : decode cX11_readJuror 102 = .ok (.iload_n 1, 1) := by decide +kernel
theorem dX11_readJuror_103 : decode cX11_readJuror 103 = .ok (.iadd, 1) := by decide +kernel
theorem dX11_readJuror_104 : decode cX11_readJuror 104 = .ok (.aload_n 0, 1) := by decide +kernel
theorem dX11_readJuror_105 : decode cX11_readJuror 105 = .ok (.iconst 0, 1) := by decide +kernel
theorem dX11_readJuror_106 : decode cX11_readJuror 106 = .ok (.bipush 99, 2) := by decide +kernel
theorem dX11_readJuror_108 : decode cX11_readJuror 108 = .ok (.invokevirtual 245, 3) := by decide +kernel
theorem dX11_readJuror_111 : decode cX11_readJuror 111 = .ok (.iastore, 1) := by decide +kernel
theorem dX11_readJuror_112 : decode cX11_readJuror 112 = .ok (.aload_n 0, 1) := by decide +kernel
theorem dX11_readJuror_113 : decode cX11_readJuror 113 = .ok (.getfield 229, 3) := by decide +kernel
theorem dX11_readJuror_116 : decode cX11_readJuror 116 = .ok (.ifCond .le 4, 3) := by decide +kernel
theorem dX11_readJuror_119 : decode cX11_readJuror 119 = .ok (.return_, 1) := by decide +kernel
theorem dX11_readJuror_120 : decode cX11_readJuror 120 = .ok (.aload_n 0, 1) := by decide +kernel
theorem dX11_readJuror_121 : decode cX11_readJuror 121 = .ok (.getfield 35, 3) := by decide +kernel
theorem dX11_readJuror_124 : decode cX11_readJuror 124 = .ok (.sipush 1942, 3) := by decide +kernel
theorem dX11_readJuror_127 : decode cX11_readJuror 127 = .ok (.iload_n 1, 1) := by decide +kernel
theorem dX11_readJuror_128 : decode cX11_readJuror 128 = .ok (.iadd, 1) := by decide +kernel
theorem dX11_readJuror_129 : decode cX11_readJuror 129 = .ok (.aload_n 0, 1) := by decide +kernel
theorem dX11_readJuror_130 : decode cX11_readJuror 130 = .ok (.getfield 35, 3) := by decide +kernel
theorem dX11_readJuror_133 : decode cX11_readJuror 133 = .ok (.sipush 1912, 3) := by decide +kernel
theorem dX11_readJuror_136 : decode cX11_readJuror 136 = .ok (.iload_n 1, 1) := by decide +kernel
theorem dX11_readJuror_137 : decode cX11_readJuror 137 = .ok (.iadd, 1) := by decide +kernel
theorem dX11_readJuror_138 : decode cX11_readJuror 138 = .ok (.iaload, 1) := by decide +kernel
theorem dX11_readJuror_139 : decode cX11_readJuror 139 = .ok (.iastore, 1) := by decide +kernel
theorem dX11_readJuror_140 : decode cX11_readJuror 140 = .ok (.aload_n 0, 1) := by decide +kernel
theorem dX11_readJuror_141 : decode cX11_readJuror 141 = .ok (.getfield 35, 3) := by decide +kernel
theorem dX11_readJuror_144 : decode cX11_readJuror 144 = .ok (.sipush 1900, 3) := by decide +kernel
theorem dX11_readJuror_147 : decode cX11_readJuror 147 = .ok (.dup2, 1) := by decide +kernel
theorem dX11_readJuror_148 : decode cX11_readJuror 148 = .ok (.iaload, 1) := by decide +kernel
theorem dX11_readJuror_149 : decode cX11_readJuror 149 = .ok (.iconst 1, 1) := by decide +kernel
theorem dX11_readJuror_150 : decode cX11_readJuror 150 = .ok (.iadd, 1) := by decide +kernel
theorem dX11_readJuror_151 : decode cX11_readJuror 151 = .ok (.iastore, 1) := by decide +kernel
theorem dX11_readJuror_152 : decode cX11_readJuror 152 = .ok (.return_, 1) := by decide +kernel
theorem dX11_readSways_0 : decode cX11_readSways 0 = .ok (.aload_n 0, 1) := by decide +kernel
theorem dX11_readSways_1 : decode cX11_readSways 1 = .ok (.invokevirtual 239, 3) := by decide +kernel
theorem dX11_readSways_4 : decode cX11_readSways 4 = .ok (.aload_n 0, 1) := by decide +kernel
theorem dX11_readSways_5 : decode cX11_readSways 5 = .ok (.iconst 4, 1) := by decide +kernel
theorem dX11_readSways_6 : decode cX11_readSways 6 = .ok (.iconst 0, 1) := by decide +kernel
theorem dX11_readSways_7 : decode cX11_readSways 7 = .ok (.invokevirtual 280, 3) := by decide +kernel
theorem dX11_readSways_10 : decode cX11_readSways 10 = .ok (.istore_n 1, 1) := by decide +kernel
theorem dX11_readSways_11 : decode cX11_readSways 11 = .ok (.aload_n 0, 1) := by decide +kernel
theorem dX11_readSways_12 : decode cX11_readSways 12 = .ok (.iconst 4, 1) := by decide +kernel
theorem dX11_readSways_13 : decode cX11_readSways 13 = .ok (.iconst 0, 1) := by decide +kernel
theorem dX11_readSways_14 : decode cX11_readSways 14 = .ok (.invokevirtual 267, 3) := by decide +kernel
theorem dX11_readSways_17 : decode cX11_readSways 17 = .ok (.istore_n 2, 1) := by decide +kernel
theorem dX11_readSways_18 : decode cX11_readSways 18 = .ok (.aload_n 0, 1) := by decide +kernel
theorem dX11_readSways_19 : decode cX11_readSways 19 = .ok (.getfield 229, 3) := by decide +kernel
theorem dX11_readSways_22 : decode cX11_readSways 22 = .ok (.ifCond .ne 17, 3) := by decide +kernel
theorem dX11_readSways_25 : decode cX11_readSways 25 = .ok (.iload_n 1, 1) := by decide +kernel
theorem dX11_readSways_26 : decode cX11_readSways 26 = .ok (.iload_n 2, 1) := by decide +kernel
theorem dX11_readSways_27 : decode cX11_readSways 27 = .ok (.if_icmp .ne 12, 3) := by decide +kernel
theorem dX11_readSways_30 : decode cX11_readSways 30 = .ok (.aload_n 0, 1) := by decide +kernel
theorem dX11_readSways_31 : decode cX11_readSways 31 = .ok (.iconst 5, 1) := by decide +kernel
theorem dX11_readSways_32 : decode cX11_readSways 32 = .ok (.aload_n 0, 1) := by decide +kernel
theorem dX11_readSways_33 : decode cX11_readSways 33 = .ok (.getfield 120, 3) := by decide +kernel
theorem dX11_readSways_36 : decode cX11_readSways 36 = .ok (.invokevirtual 235, 3) := by decide +kernel
theorem dX11_readSways_39 : decode cX11_readSways 39 = .ok (.aload_n 0, 1) := by decide +kernel
theorem dX11_readSways_40 : decode cX11_readSways 40 = .ok (.iconst 1, 1) := by decide +kernel
theorem dX11_readSways_41 : decode cX11_readSways 41 = .ok (.invokevirtual 270, 3) := by decide +kernel
theorem dX11_readSways_44 : decode cX11_readSways 44 = .ok (.aload_n 0, 1) := by decide +kernel
theorem dX11_readSways_45 : decode cX11_readSways 45 = .ok (.iconst 0, 1) := by decide +kernel
theorem dX11_readSways_46 : decode cX11_readSways 46 = .ok (.bipush 20, 2) := by decide +kernel
theorem dX11_readSways_48 : decode cX11_readSways 48 = .ok (.invokevirtual 245, 3) := by decide +kernel
theorem dX11_readSways_51 : decode cX11_readSways 51 = .ok (.istore_n 3, 1) := by decide +kernel
theorem dX11_readSways_52 : decode cX11_readSways 52 = .ok (.aload_n 0, 1) := by decide +kernel
theorem dX11_readSways_53 : decode cX11_readSways 53 = .ok (.getfield 229, 3) := by decide +kernel
theorem dX11_readSways_56 : decode cX11_readSways 56 = .ok (.ifCond .ne 19, 3) := by decide +kernel
theorem dX11_readSways_59 : decode cX11_readSways 59 = .ok (.aload_n 0, 1) := by decide +kernel
theorem dX11_readSways_60 : decode cX11_readSways 60 = .ok (.getfield 35, 3) := by decide +kernel
theorem dX11_readSways_63 : decode cX11_readSways 63 = .ok (.sipush 1952, 3) := by decide +kernel
theorem dX11_readSways_66 : decode cX11_readSways 66 = .ok (.bipush 10, 2) := by decide +kernel
theorem dX11_readSways_68 : decode cX11_readSways 68 = .ok (.iload_n 1, 1) := by decide +kernel
theorem dX11_readSways_69 : decode cX11_readSways 69 = .ok (.imul, 1) := by decide +kernel
theorem dX11_readSways_70 : decode cX11_readSways 70 = .ok (.iadd, 1) := by decide +kernel
theorem dX11_readSways_71 : decode cX11_readSways 71 = .ok (.iload_n 2, 1) := by decide +kernel
theorem dX11_readSways_72 : decode cX11_readSways 72 = .ok (.iadd, 1) := by decide +kernel
theorem dX11_readSways_73 : decode cX11_readSways 73 = .ok (.iload_n 3, 1) := by decide +kernel
theorem dX11_readSways_74 : decode cX11_readSways 74 = .ok (.iastore, 1) := by decide +kernel
theorem dX11_readSways_75 : decode cX11_readSways 75 = .ok (.return_, 1) := by decide +kernel
theorem dX11_readProof_0 : decode cX11_readProof 0 = .ok (.aload_n 0, 1) := by decide +kernel
theorem dX11_readProof_1 : decode cX11_readProof 1 = .ok (.iconst 1, 1) := by decide +kernel
theorem dX11_readProof_2 : decode cX11_readProof 2 = .ok (.bipush 6, 2) := by decide +kernel
theorem dX11_readProof_4 : decode cX11_readProof 4 = .ok (.invokevirtual 274, 3) := by decide +kernel
theorem dX11_readProof_7 : decode cX11_readProof 7 = .ok (.istore_n 1, 1) := by decide +kernel
theorem dX11_readProof_8 : decode cX11_readProof 8 = .ok (.aload_n 0, 1) := by decide +kernel
theorem dX11_readProof_9 : decode cX11_readProof 9 = .ok (.getfield 35, 3) := by decide +kernel
theorem dX11_readProof_12 : decode cX11_readProof 12 = .ok (.sipush 2052, 3) := by decide +kernel
theorem dX11_readProof_15 : decode cX11_readProof 15 = .ok (.iload_n 1, 1) := by decide +kernel
theorem dX11_readProof_16 : decode cX11_readProof 16 = .ok (.iadd, 1) := by decide +kernel
theorem dX11_readProof_17 : decode cX11_readProof 17 = .ok (.aload_n 0, 1) := by decide +kernel
theorem dX11_readProof_18 : decode cX11_readProof 18 = .ok (.bipush 99, 2) := by decide +kernel
theorem dX11_readProof_20 : decode cX11_readProof 20 = .ok (.invokevirtual 277, 3) := by decide +kernel
theorem dX11_readProof_23 : decode cX11_readProof 23 = .ok (.iastore, 1) := by decide +kernel
theorem dX11_readProof_24 : decode cX11_readProof 24 = .ok (.aload_n 0, 1) := by decide +kernel
theorem dX11_readProof_25 : decode cX11_readProof 25 = .ok (.getfield 229, 3) := by decide +kernel
theorem dX11_readProof_28 : decode cX11_readProof 28 = .ok (.ifCond .ne 15, 3) := by decide +kernel
theorem dX11_readProof_31 : decode cX11_readProof 31 = .ok (.aload_n 0, 1) := by decide +kernel
theorem dX11_readProof_32 : decode cX11_readProof 32 = .ok (.getfield 35, 3) := by decide +kernel
theorem dX11_readProof_35 : decode cX11_readProof 35 = .ok (.sipush 1901, 3) := by decide +kernel
theorem dX11_readProof_38 : decode cX11_readProof 38 = .ok (.dup2, 1) := by decide +kernel
theorem dX11_readProof_39 : decode cX11_readProof 39 = .ok (.iaload, 1) := by decide +kernel
theorem dX11_readProof_40 : decode cX11_readProof 40 = .ok (.iconst 1, 1) := by decide +kernel
theorem dX11_readProof_41 : decode cX11_readProof 41 = .ok (.iadd, 1) := by decide +kernel
theorem dX11_readProof_42 : decode cX11_readProof 42 = .ok (.iastore, 1) := by decide +kernel
theorem dX11_readProof_43 : decode cX11_readProof 43 = .ok (.return_, 1) := by decide +kernel
theorem dX11_readWeather_0 : decode cX11_readWeather 0 = .ok (.aload_n 0, 1) := by decide +kernel
theorem dX11_readWeather_1 : decode cX11_readWeather 1 = .ok (.iconst 2, 1) := by decide +kernel
theorem dX11_readWeather_2 : decode cX11_readWeather 2 = .ok (.bipush 6, 2) := by decide +kernel
theorem dX11_readWeather_4 : decode cX11_readWeather 4 = .ok (.invokevirtual 274, 3) := by decide +kernel
theorem dX11_readWeather_7 : decode cX11_readWeather 7 = .ok (.istore_n 1, 1) := by decide +kernel
theorem dX11_readWeather_8 : decode cX11_readWeather 8 = .ok (.aload_n 0, 1) := by decide +kernel
theorem dX11_readWeather_9 : decode cX11_readWeather 9 = .ok (.getfield 229, 3) := by decide +kernel
theorem dX11_readWeather_12 : decode cX11_readWeather 12 = .ok (.ifCond .le 4, 3) := by decide +kernel
theorem dX11_readWeather_15 : decode cX11_readWeather 15 = .ok (.return_, 1) := by decide +kernel
theorem dX11_readWeather_16 : decode cX11_readWeather 16 = .ok (.aload_n 0, 1) := by decide +kernel
theorem dX11_readWeather_17 : decode cX11_readWeather 17 = .ok (.getfield 35, 3) := by decide +kernel
theorem dX11_readWeather_20 : decode cX11_readWeather 20 = .ok (.sipush 2058, 3) := by decide +kernel
theorem dX11_readWeather_23 : decode cX11_readWeather 23 = .ok (.iload_n 1, 1) := by decide +kernel
theorem dX11_readWeather_24 : decode cX11_readWeather 24 = .ok (.iadd, 1) := by decide +kernel
theorem dX11_readWeather_25 : decode cX11_readWeather 25 = .ok (.iload_n 1, 1) := by decide +kernel
theorem dX11_readWeather_26 : decode cX11_readWeather 26 = .ok (.iastore, 1) := by decide +kernel
theorem dX11_readWeather_27 : decode cX11_readWeather 27 = .ok (.aload_n 0, 1) := by decide +kernel
theorem dX11_readWeather_28 : decode cX11_readWeather 28 = .ok (.getfield 35, 3) := by decide +kernel
theorem dX11_readWeather_31 : decode cX11_readWeather 31 = .ok (.sipush 2064, 3) := by decide +kernel
theorem dX11_readWeather_34 : decode cX11_readWeather 34 = .ok (.iload_n 1, 1) := by decide +kernel
theorem dX11_readWeather_35 : decode cX11_readWeather 35 = .ok (.iadd, 1) := by decide +kernel
theorem dX11_readWeather_36 : decode cX11_readWeather 36 = .ok (.iload_n 1, 1) := by decide +kernel
theorem dX11_readWeather_37 : decode cX11_readWeather 37 = .ok (.iastore, 1) := by decide +kernel
theorem dX11_readWeather_38 : decode cX11_readWeather 38 = .ok (.aload_n 0, 1) := by decide +kernel
theorem dX11_readWeather_39 : decode cX11_readWeather 39 = .ok (.getfield 35, 3) := by decide +kernel
theorem dX11_readWeather_42 : decode cX11_readWeather 42 = .ok (.sipush 1902, 3) := by decide +kernel
theorem dX11_readWeather_45 : decode cX11_readWeather 45 = .ok (.dup2, 1) := by decide +kernel
theorem dX11_readWeather_46 : decode cX11_readWeather 46 = .ok (.iaload, 1) := by decide +kernel
theorem dX11_readWeather_47 : decode cX11_readWeather 47 = .ok (.iconst 1, 1) := by decide +kernel
theorem dX11_readWeather_48 : decode cX11_readWeather 48 = .ok (.iadd, 1) := by decide +kernel
theorem dX11_readWeather_49 : decode cX11_readWeather 49 = .ok (.iastore, 1) := by decide +kernel
theorem dX11_readWeather_50 : decode cX11_readWeather 50 = .ok (.return_, 1) := by decide +kernel
theorem dX11_readFollows_0 : decode cX11_readFollows 0 = .ok (.aload_n 0, 1) := by decide +kernel
theorem dX11_readFollows_1 : decode cX11_readFollows 1 = .ok (.invokevirtual 239, 3) := by decide +kernel
theorem dX11_readFollows_4 : decode cX11_readFollows 4 = .ok (.aload_n 0, 1) := by decide +kernel
theorem dX11_readFollows_5 : decode cX11_readFollows 5 = .ok (.iconst 4, 1) := by decide +kernel
theorem dX11_readFollows_6 : decode cX11_readFollows 6 = .ok (.iconst 2, 1) := by decide +kernel
theorem dX11_readFollows_7 : decode cX11_readFollows 7 = .ok (.invokevirtual 280, 3) := by decide +kernel
theorem dX11_readFollows_10 : decode cX11_readFollows 10 = .ok (.istore_n 1, 1) := by decide +kernel
theorem dX11_readFollows_11 : decode cX11_readFollows 11 = .ok (.aload_n 0, 1) := by decide +kernel
theorem dX11_readFollows_12 : decode cX11_readFollows 12 = .ok (.aload_n 0, 1) := by decide +kernel
theorem dX11_readFollows_13 : decode cX11_readFollows 13 = .ok (.invokevirtual 198, 3) := by decide +kernel
theorem dX11_readFollows_16 : decode cX11_readFollows 16 = .ok (.invokevirtual 270, 3) := by decide +kernel
theorem dX11_readFollows_19 : decode cX11_readFollows 19 = .ok (.aload_n 0, 1) := by decide +kernel
theorem dX11_readFollows_20 : decode cX11_readFollows 20 = .ok (.iconst 4, 1) := by decide +kernel
theorem dX11_readFollows_21 : decode cX11_readFollows 21 = .ok (.iconst 2, 1) := by decide +kernel
theorem dX11_readFollows_22 : decode cX11_readFollows 22 = .ok (.invokevirtual 280, 3) := by decide +kernel
theorem dX11_readFollows_25 : decode cX11_readFollows 25 = .ok (.istore_n 2, 1) := by decide +kernel
theorem dX11_readFollows_26 : decode cX11_readFollows 26 = .ok (.aload_n 0, 1) := by decide +kernel
theorem dX11_readFollows_27 : decode cX11_readFollows 27 = .ok (.aload_n 0, 1) := by decide +kernel
theorem dX11_readFollows_28 : decode cX11_readFollows 28 = .ok (.invokevirtual 201, 3) := by decide +kernel
theorem dX11_readFollows_31 : decode cX11_readFollows 31 = .ok (.invokevirtual 270, 3) := by decide +kernel
theorem dX11_readFollows_34 : decode cX11_readFollows 34 = .ok (.aload_n 0, 1) := by decide +kernel
theorem dX11_readFollows_35 : decode cX11_readFollows 35 = .ok (.iconst 4, 1) := by decide +kernel
theorem dX11_readFollows_36 : decode cX11_readFollows 36 = .ok (.iconst 2, 1) := by decide +kernel
theorem dX11_readFollows_37 : decode cX11_readFollows 37 = .ok (.invokevirtual 280, 3) := by decide +kernel
theorem dX11_readFollows_40 : decode cX11_readFollows 40 = .ok (.istore_n 3, 1) := by decide +kernel
theorem dX11_readFollows_41 : decode cX11_readFollows 41 = .ok (.aload_n 0, 1) := by decide +kernel
theorem dX11_readFollows_42 : decode cX11_readFollows 42 = .ok (.getfield 229, 3) := by decide +kernel
theorem dX11_readFollows_45 : decode cX11_readFollows 45 = .ok (.ifCond .le 4, 3) := by decide +kernel
theorem dX11_readFollows_48 : decode cX11_readFollows 48 = .ok (.return_, 1) := by decide +kernel
theorem dX11_readFollows_49 : decode cX11_readFollows 49 = .ok (.aload_n 0, 1) := by decide +kernel
theorem dX11_readFollows_50 : decode cX11_readFollows 50 = .ok (.getfield 35, 3) := by decide +kernel
theorem dX11_readFollows_53 : decode cX11_readFollows 53 = .ok (.sipush 2058, 3) := by decide +kernel
theorem dX11_readFollows_56 : decode cX11_readFollows 56 = .ok (.iload_n 1, 1) := by decide +kernel
theorem dX11_readFollows_57 : decode cX11_readFollows 57 = .ok (.iadd, 1) := by decide +kernel
theorem dX11_readFollows_58 : decode cX11_readFollows 58 = .ok (.iload_n 2, 1) := by decide +kernel
theorem dX11_readFollows_59 : decode cX11_readFollows 59 = .ok (.iastore, 1) := by decide +kernel
theorem dX11_readFollows_60 : decode cX11_readFollows 60 = .ok (.aload_n 0, 1) := by decide +kernel
theorem dX11_readFollows_61 : decode cX11_readFollows 61 = .ok (.getfield 35, 3) := by decide +kernel
theorem dX11_readFollows_64 : decode cX11_readFollows 64 = .ok (.sipush 2064, 3) := by decide +kernel
theorem dX11_readFollows_67 : decode cX11_readFollows 67 = .ok (.iload_n 1, 1) := by decide +kernel
theorem dX11_readFollows_68 : decode cX11_readFollows 68 = .ok (.iadd, 1) := by decide +kernel
theorem dX11_readFollows_69 : decode cX11_readFollows 69 = .ok (.iload_n 3, 1) := by decide +kernel
theorem dX11_readFollows_70 : decode cX11_readFollows 70 = .ok (.iastore, 1) := by decide +kernel
theorem dX11_readFollows_71 : decode cX11_readFollows 71 = .ok (.return_, 1) := by decide +kernel
theorem dX11_readCrop_0 : decode cX11_readCrop 0 = .ok (.aload_n 0, 1) := by decide +kernel
theorem dX11_readCrop_1 : decode cX11_readCrop 1 = .ok (.iconst 3, 1) := by decide +kernel
theorem dX11_readCrop_2 : decode cX11_readCrop 2 = .ok (.iconst 4, 1) := by decide +kernel
theorem dX11_readCrop_3 : decode cX11_readCrop 3 = .ok (.invokevirtual 274, 3) := by decide +kernel
theorem dX11_readCrop_6 : decode cX11_readCrop 6 = .ok (.istore_n 1, 1) := by decide +kernel
theorem dX11_readCrop_7 : decode cX11_readCrop 7 = .ok (.aload_n 0, 1) := by decide +kernel
theorem dX11_readCrop_8 : decode cX11_readCrop 8 = .ok (.getfield 229, 3) := by decide +kernel
theorem dX11_readCrop_11 : decode cX11_readCrop 11 = .ok (.ifCond .ne 54, 3) := by decide +kernel
theorem dX11_readCrop_14 : decode cX11_readCrop 14 = .ok (.aload_n 0, 1) := by decide +kernel
theorem dX11_readCrop_15 : decode cX11_readCrop 15 = .ok (.invokevirtual 204, 3) := by decide +kernel
theorem dX11_readCrop_18 : decode cX11_readCrop 18 = .ok (.ifCond .eq 47, 3) := by decide +kernel
theorem dX11_readCrop_21 : decode cX11_readCrop 21 = .ok (.aload_n 0, 1) := by decide +kernel
theorem dX11_readCrop_22 : decode cX11_readCrop 22 = .ok (.invokevirtual 239, 3) := by decide +kernel
theorem dX11_readCrop_25 : decode cX11_readCrop 25 = .ok (.aload_n 0, 1) := by decide +kernel
theorem dX11_readCrop_26 : decode cX11_readCrop 26 = .ok (.iconst 4, 1) := by decide +kernel
theorem dX11_readCrop_27 : decode cX11_readCrop 27 = .ok (.iconst 2, 1) := by decide +kernel
theorem dX11_readCrop_28 : decode cX11_readCrop 28 = .ok (.invokevirtual 280, 3) := by decide +kernel
theorem dX11_readCrop_31 : decode cX11_readCrop 31 = .ok (.istore_n 2, 1) := by decide +kernel
theorem dX11_readCrop_32 : decode cX11_readCrop 32 = .ok (.aload_n 0, 1) := by decide +kernel
theorem dX11_readCrop_33 : decode cX11_readCrop 33 = .ok (.bipush 99, 2) := by decide +kernel
theorem dX11_readCrop_35 : decode cX11_readCrop 35 = .ok (.invokevirtual 277, 3) := by decide +kernel
theorem dX11_readCrop_38 : decode cX11_readCrop 38 = .ok (.istore_n 3, 1) := by decide +kernel
theorem dX11_readCrop_39 : decode cX11_readCrop 39 = .ok (.aload_n 0, 1) := by decide +kernel
theorem dX11_readCrop_40 : decode cX11_readCrop 40 = .ok (.getfield 229, 3) := by decide +kernel
theorem dX11_readCrop_43 : decode cX11_readCrop 43 = .ok (.ifCond .ne 19, 3) := by decide +kernel
theorem dX11_readCrop_46 : decode cX11_readCrop 46 = .ok (.aload_n 0, 1) := by decide +kernel
theorem dX11_readCrop_47 : decode cX11_readCrop 47 = .ok (.getfield 35, 3) := by decide +kernel
theorem dX11_readCrop_50 : decode cX11_readCrop 50 = .ok (.sipush 2070, 3) := by decide +kernel
theorem dX11_readCrop_53 : decode cX11_readCrop 53 = .ok (.bipush 6, 2) := by decide +kernel
theorem dX11_readCrop_55 : decode cX11_readCrop 55 = .ok (.iload_n 1, 1) := by decide +kernel
theorem dX11_readCrop_56 : decode cX11_readCrop 56 = .ok (.imul, 1) := by decide +kernel
theorem dX11_readCrop_57 : decode cX11_readCrop 57 = .ok (.iadd, 1) := by decide +kernel
theorem dX11_readCrop_58 : decode cX11_readCrop 58 = .ok (.iload_n 2, 1) := by decide +kernel
theorem dX11_readCrop_59 : decode cX11_readCrop 59 = .ok (.iadd, 1) := by decide +kernel
theorem dX11_readCrop_60 : decode cX11_readCrop 60 = .ok (.iload_n 3, 1) := by decide +kernel
theorem dX11_readCrop_61 : decode cX11_readCrop 61 = .ok (.iastore, 1) := by decide +kernel
theorem dX11_readCrop_62 : decode cX11_readCrop 62 = .ok (.goto (-55), 3) := by decide +kernel
theorem dX11_readCrop_65 : decode cX11_readCrop 65 = .ok (.aload_n 0, 1) := by decide +kernel
theorem dX11_readCrop_66 : decode cX11_readCrop 66 = .ok (.getfield 229, 3) := by decide +kernel
theorem dX11_readCrop_69 : decode cX11_readCrop 69 = .ok (.ifCond .ne 15, 3) := by decide +kernel
theorem dX11_readCrop_72 : decode cX11_readCrop 72 = .ok (.aload_n 0, 1) := by decide +kernel
theorem dX11_readCrop_73 : decode cX11_readCrop 73 = .ok (.getfield 35, 3) := by decide +kernel
theorem dX11_readCrop_76 : decode cX11_readCrop 76 = .ok (.sipush 1903, 3) := by decide +kernel
theorem dX11_readCrop_79 : decode cX11_readCrop 79 = .ok (.dup2, 1) := by decide +kernel
theorem dX11_readCrop_80 : decode cX11_readCrop 80 = .ok (.iaload, 1) := by decide +kernel
theorem dX11_readCrop_81 : decode cX11_readCrop 81 = .ok (.iconst 1, 1) := by decide +kernel
theorem dX11_readCrop_82 : decode cX11_readCrop 82 = .ok (.iadd, 1) := by decide +kernel
theorem dX11_readCrop_83 : decode cX11_readCrop 83 = .ok (.iastore, 1) := by decide +kernel
theorem dX11_readCrop_84 : decode cX11_readCrop 84 = .ok (.return_, 1) := by decide +kernel
theorem dX11_readHunger_0 : decode cX11_readHunger 0 = .ok (.aload_n 0, 1) := by decide +kernel
theorem dX11_readHunger_1 : decode cX11_readHunger 1 = .ok (.getfield 35, 3) := by decide +kernel
theorem dX11_readHunger_4 : decode cX11_readHunger 4 = .ok (.sipush 1904, 3) := by decide +kernel
theorem dX11_readHunger_7 : decode cX11_readHunger 7 = .ok (.iaload, 1) := by decide +kernel
theorem dX11_readHunger_8 : decode cX11_readHunger 8 = .ok (.ifCond .le 12, 3) := by decide +kernel
theorem dX11_readHunger_11 : decode cX11_readHunger 11 = .ok (.aload_n 0, 1) := by decide +kernel
theorem dX11_readHunger_12 : decode cX11_readHunger 12 = .ok (.iconst 5, 1) := by decide +kernel
theorem dX11_readHunger_13 : decode cX11_readHunger 13 = .ok (.aload_n 0, 1) := by decide +kernel
theorem dX11_readHunger_14 : decode cX11_readHunger 14 = .ok (.getfield 120, 3) := by decide +kernel
theorem dX11_readHunger_17 : decode cX11_readHunger 17 = .ok (.invokevirtual 235, 3) := by decide +kernel
theorem dX11_readHunger_20 : decode cX11_readHunger 20 = .ok (.aload_n 0, 1) := by decide +kernel
theorem dX11_readHunger_21 : decode cX11_readHunger 21 = .ok (.getfield 229, 3) := by decide +kernel
theorem dX11_readHunger_24 : decode cX11_readHunger 24 = .ok (.ifCond .le 4, 3) := by decide +kernel
theorem dX11_readHunger_27 : decode cX11_readHunger 27 = .ok (.return_, 1) := by decide +kernel
theorem dX11_readHunger_28 : decode cX11_readHunger 28 = .ok (.aload_n 0, 1) := by decide +kernel
theorem dX11_readHunger_29 : decode cX11_readHunger 29 = .ok (.invokevirtual 239, 3) := by decide +kernel
theorem dX11_readHunger_32 : decode cX11_readHunger 32 = .ok (.aload_n 0, 1) := by decide +kernel
theorem dX11_readHunger_33 : decode cX11_readHunger 33 = .ok (.getfield 35, 3) := by decide +kernel
theorem dX11_readHunger_36 : decode cX11_readHunger 36 = .ok (.sipush 1904, 3) := by decide +kernel
theorem dX11_readHunger_39 : decode cX11_readHunger 39 = .ok (.aload_n 0, 1) := by decide +kernel
theorem dX11_readHunger_40 : decode cX11_readHunger 40 = .ok (.iconst 1, 1) := by decide +kernel
theorem dX11_readHunger_41 : decode cX11_readHunger 41 = .ok (.bipush 99, 2) := by decide +kernel
theorem dX11_readHunger_43 : decode cX11_readHunger 43 = .ok (.invokevirtual 245, 3) := by decide +kernel
theorem dX11_readHunger_46 : decode cX11_readHunger 46 = .ok (.iastore, 1) := by decide +kernel
theorem dX11_readHunger_47 : decode cX11_readHunger 47 = .ok (.return_, 1) := by decide +kernel
theorem dX11_readLaw_0 : decode cX11_readLaw 0 = .ok (.aload_n 0, 1) := by decide +kernel
theorem dX11_readLaw_1 : decode cX11_readLaw 1 = .ok (.getfield 283, 3) := by decide +kernel
theorem dX11_readLaw_4 : decode cX11_readLaw 4 = .ok (.ifCond .eq 12, 3) := by decide +kernel
theorem dX11_readLaw_7 : decode cX11_readLaw 7 = .ok (.aload_n 0, 1) := by decide +kernel
theorem dX11_readLaw_8 : decode cX11_readLaw 8 = .ok (.iconst 5, 1) := by decide +kernel
theorem dX11_readLaw_9 : decode cX11_readLaw 9 = .ok (.aload_n 0, 1) := by decide +kernel
theorem dX11_readLaw_10 : decode cX11_readLaw 10 = .ok (.getfield 120, 3) := by decide +kernel
theorem dX11_readLaw_13 : decode cX11_readLaw 13 = .ok (.invokevirtual 235, 3) := by decide +kernel
theorem dX11_readLaw_16 : decode cX11_readLaw 16 = .ok (.aload_n 0, 1) := by decide +kernel
theorem dX11_readLaw_17 : decode cX11_readLaw 17 = .ok (.getfield 229, 3) := by decide +kernel
theorem dX11_readLaw_20 : decode cX11_readLaw 20 = .ok (.ifCond .le 4, 3) := by decide +kernel
theorem dX11_readLaw_23 : decode cX11_readLaw 23 = .ok (.return_, 1) := by decide +kernel
theorem dX11_readLaw_24 : decode cX11_readLaw 24 = .ok (.aload_n 0, 1) := by decide +kernel
theorem dX11_readLaw_25 : decode cX11_readLaw 25 = .ok (.iconst 1, 1) := by decide +kernel
theorem dX11_readLaw_26 : decode cX11_readLaw 26 = .ok (.putfield 283, 3) := by decide +kernel
theorem dX11_readLaw_29 : decode cX11_readLaw 29 = .ok (.aload_n 0, 1) := by decide +kernel
theorem dX11_readLaw_30 : decode cX11_readLaw 30 = .ok (.invokevirtual 239, 3) := by decide +kernel
theorem dX11_readLaw_33 : decode cX11_readLaw 33 = .ok (.aload_n 0, 1) := by decide +kernel
theorem dX11_readLaw_34 : decode cX11_readLaw 34 = .ok (.getfield 35, 3) := by decide +kernel
theorem dX11_readLaw_37 : decode cX11_readLaw 37 = .ok (.sipush 1905, 3) := by decide +kernel
theorem dX11_readLaw_40 : decode cX11_readLaw 40 = .ok (.iconst 0, 1) := by decide +kernel
theorem dX11_readLaw_41 : decode cX11_readLaw 41 = .ok (.aload_n 0, 1) := by decide +kernel
theorem dX11_readLaw_42 : decode cX11_readLaw 42 = .ok (.invokevirtual 213, 3) := by decide +kernel
theorem dX11_readLaw_45 : decode cX11_readLaw 45 = .ok (.invokestatic 264, 3) := by decide +kernel
theorem dX11_readLaw_48 : decode cX11_readLaw 48 = .ok (.iastore, 1) := by decide +kernel
theorem dX11_readLaw_49 : decode cX11_readLaw 49 = .ok (.aload_n 0, 1) := by decide +kernel
theorem dX11_readLaw_50 : decode cX11_readLaw 50 = .ok (.aload_n 0, 1) := by decide +kernel
theorem dX11_readLaw_51 : decode cX11_readLaw 51 = .ok (.invokevirtual 213, 3) := by decide +kernel
theorem dX11_readLaw_54 : decode cX11_readLaw 54 = .ok (.ifCond .lt 7, 3) := by decide +kernel
theorem dX11_readLaw_57 : decode cX11_readLaw 57 = .ok (.iconst 1, 1) := by decide +kernel
theorem dX11_readLaw_58 : decode cX11_readLaw 58 = .ok (.goto 4, 3) := by decide +kernel
theorem dX11_readLaw_61 : decode cX11_readLaw 61 = .ok (.iconst 0, 1) := by decide +kernel
theorem dX11_readLaw_62 : decode cX11_readLaw 62 = .ok (.invokevirtual 270, 3) := by decide +kernel
theorem dX11_readLaw_65 : decode cX11_readLaw 65 = .ok (.return_, 1) := by decide +kernel
theorem dX11_court_0 : decode cX11_court 0 = .ok (.aload_n 0, 1) := by decide +kernel
theorem dX11_court_1 : decode cX11_court 1 = .ok (.iconst 0, 1) := by decide +kernel
theorem dX11_court_2 : decode cX11_court 2 = .ok (.putfield 71, 3) := by decide +kernel
theorem dX11_court_5 : decode cX11_court 5 = .ok (.aload_n 0, 1) := by decide +kernel
theorem dX11_court_6 : decode cX11_court 6 = .ok (.iconst 0, 1) := by decide +kernel
theorem dX11_court_7 : decode cX11_court 7 = .ok (.putfield 74, 3) := by decide +kernel
theorem dX11_court_10 : decode cX11_court 10 = .ok (.aload_n 0, 1) := by decide +kernel
theorem dX11_court_11 : decode cX11_court 11 = .ok (.iload_n 1, 1) := by decide +kernel
theorem dX11_court_12 : decode cX11_court 12 = .ok (.sipush 900, 3) := by decide +kernel
theorem dX11_court_15 : decode cX11_court 15 = .ok (.invokevirtual 287, 3) := by decide +kernel
theorem dX11_court_18 : decode cX11_court 18 = .ok (.ifCond .ne 5, 3) := by decide +kernel
theorem dX11_court_21 : decode cX11_court 21 = .ok (.iconst (-1), 1) := by decide +kernel
theorem dX11_court_22 : decode cX11_court 22 = .ok (.ireturn, 1) := by decide +kernel
theorem dX11_court_23 : decode cX11_court 23 = .ok (.iconst 0, 1) := by decide +kernel
theorem dX11_court_24 : decode cX11_court 24 = .ok (.istore_n 2, 1) := by decide +kernel
theorem dX11_court_25 : decode cX11_court 25 = .ok (.iload_n 2, 1) := by decide +kernel
theorem dX11_court_26 : decode cX11_court 26 = .ok (.sipush 475, 3) := by decide +kernel
theorem dX11_court_29 : decode cX11_court 29 = .ok (.if_icmp .ge 20, 3) := by decide +kernel
theorem dX11_court_32 : decode cX11_court 32 = .ok (.aload_n 0, 1) := by decide +kernel
theorem dX11_court_33 : decode cX11_court 33 = .ok (.getfield 35, 3) := by decide +kernel
theorem dX11_court_36 : decode cX11_court 36 = .ok (.sipush 1900, 3) := by decide +kernel
theorem dX11_court_39 : decode cX11_court 39 = .ok (.iload_n 2, 1) := by decide +kernel
theorem dX11_court_40 : decode cX11_court 40 = .ok (.iadd, 1) := by decide +kernel
theorem dX11_court_41 : decode cX11_court 41 = .ok (.iconst 0, 1) := by decide +kernel
theorem dX11_court_42 : decode cX11_court 42 = .ok (.iastore, 1) := by decide +kernel
theorem dX11_court_43 : decode cX11_court 43 = .ok (.iinc 2 1, 3) := by decide +kernel
theorem dX11_court_46 : decode cX11_court 46 = .ok (.goto (-21), 3) := by decide +kernel
theorem dX11_court_49 : decode cX11_court 49 = .ok (.aload_n 0, 1) := by decide +kernel
theorem dX11_court_50 : decode cX11_court 50 = .ok (.iconst 0, 1) := by decide +kernel
theorem dX11_court_51 : decode cX11_court 51 = .ok (.putfield 283, 3) := by decide +kernel
theorem dX11_court_54 : decode cX11_court 54 = .ok (.aload_n 0, 1) := by decide +kernel
theorem dX11_court_55 : decode cX11_court 55 = .ok (.getfield 229, 3) := by decide +kernel
theorem dX11_court_58 : decode cX11_court 58 = .ok (.ifCond .ne 139, 3) := by decide +kernel
theorem dX11_court_61 : decode cX11_court 61 = .ok (.aload_n 0, 1) := by decide +kernel
theorem dX11_court_62 : decode cX11_court 62 = .ok (.getfield 126, 3) := by decide +kernel
theorem dX11_court_65 : decode cX11_court 65 = .ok (.ifCond .eq 132, 3) := by decide +kernel
theorem dX11_court_68 : decode cX11_court 68 = .ok (.aload_n 0, 1) := by decide +kernel
theorem dX11_court_69 : decode cX11_court 69 = .ok (.invokevirtual 174, 3) := by decide +kernel
theorem dX11_court_72 : decode cX11_court 72 = .ok (.ifCond .eq 10, 3) := by decide +kernel
theorem dX11_court_75 : decode cX11_court 75 = .ok (.aload_n 0, 1) := by decide +kernel
theorem dX11_court_76 : decode cX11_court 76 = .ok (.invokevirtual 290, 3) := by decide +kernel
theorem dX11_court_79 : decode cX11_court 79 = .ok (.goto 105, 3) := by decide +kernel
theorem dX11_court_82 : decode cX11_court 82 = .ok (.aload_n 0, 1) := by decide +kernel
theorem dX11_court_83 : decode cX11_court 83 = .ok (.invokevirtual 189, 3) := by decide +kernel
theorem dX11_court_86 : decode cX11_court 86 = .ok (.ifCond .eq 10, 3) := by decide +kernel
theorem dX11_court_89 : decode cX11_court 89 = .ok (.aload_n 0, 1) := by decide +kernel
theorem dX11_court_90 : decode cX11_court 90 = .ok (.invokevirtual 293, 3) := by decide +kernel
theorem dX11_court_93 : decode cX11_court 93 = .ok (.goto 91, 3) := by decide +kernel
theorem dX11_court_96 : decode cX11_court 96 = .ok (.aload_n 0, 1) := by decide +kernel
theorem dX11_court_97 : decode cX11_court 97 = .ok (.invokevirtual 192, 3) := by decide +kernel
theorem dX11_court_100 : decode cX11_court 100 = .ok (.ifCond .eq 10, 3) := by decide +kernel
theorem dX11_court_103 : decode cX11_court 103 = .ok (.aload_n 0, 1) := by decide +kernel
theorem dX11_court_104 : decode cX11_court 104 = .ok (.invokevirtual 296, 3) := by decide +kernel
theorem dX11_court_107 : decode cX11_court 107 = .ok (.goto 77, 3) := by decide +kernel
theorem dX11_court_110 : decode cX11_court 110 = .ok (.aload_n 0, 1) := by decide +kernel
theorem dX11_court_111 : decode cX11_court 111 = .ok (.invokevirtual 167, 3) := by decide +kernel
theorem dX11_court_114 : decode cX11_court 114 = .ok (.ifCond .eq 10, 3) := by decide +kernel
theorem dX11_court_117 : decode cX11_court 117 = .ok (.aload_n 0, 1) := by decide +kernel
theorem dX11_court_118 : decode cX11_court 118 = .ok (.invokevirtual 299, 3) := by decide +kernel
theorem dX11_court_121 : decode cX11_court 121 = .ok (.goto 63, 3) := by decide +kernel
theorem dX11_court_124 : decode cX11_court 124 = .ok (.aload_n 0, 1) := by decide +kernel
theorem dX11_court_125 : decode cX11_court 125 = .ok (.invokevirtual 195, 3) := by decide +kernel
theorem dX11_court_128 : decode cX11_court 128 = .ok (.ifCond .eq 10, 3) := by decide +kernel
theorem dX11_court_131 : decode cX11_court 131 = .ok (.aload_n 0, 1) := by decide +kernel
theorem dX11_court_132 : decode cX11_court 132 = .ok (.invokevirtual 302, 3) := by decide +kernel
theorem dX11_court_135 : decode cX11_court 135 = .ok (.goto 49, 3) := by decide +kernel
theorem dX11_court_138 : decode cX11_court 138 = .ok (.aload_n 0, 1) := by decide +kernel
theorem dX11_court_139 : decode cX11_court 139 = .ok (.invokevirtual 171, 3) := by decide +kernel
theorem dX11_court_142 : decode cX11_court 142 = .ok (.ifCond .eq 10, 3) := by decide +kernel
theorem dX11_court_145 : decode cX11_court 145 = .ok (.aload_n 0, 1) := by decide +kernel
theorem dX11_court_146 : decode cX11_court 146 = .ok (.invokevirtual 305, 3) := by decide +kernel
theorem dX11_court_149 : decode cX11_court 149 = .ok (.goto 35, 3) := by decide +kernel
theorem dX11_court_152 : decode cX11_court 152 = .ok (.aload_n 0, 1) := by decide +kernel
theorem dX11_court_153 : decode cX11_court 153 = .ok (.invokevirtual 207, 3) := by decide +kernel
theorem dX11_court_156 : decode cX11_court 156 = .ok (.ifCond .eq 10, 3) := by decide +kernel
theorem dX11_court_159 : decode cX11_court 159 = .ok (.aload_n 0, 1) := by decide +kernel
theorem dX11_court_160 : decode cX11_court 160 = .ok (.invokevirtual 308, 3) := by decide +kernel
theorem dX11_court_163 : decode cX11_court 163 = .ok (.goto 21, 3) := by decide +kernel
theorem dX11_court_166 : decode cX11_court 166 = .ok (.aload_n 0, 1) := by decide +kernel
theorem dX11_court_167 : decode cX11_court 167 = .ok (.invokevirtual 210, 3) := by decide +kernel
theorem dX11_court_170 : decode cX11_court 170 = .ok (.ifCond .eq 10, 3) := by decide +kernel
theorem dX11_court_173 : decode cX11_court 173 = .ok (.aload_n 0, 1) := by decide +kernel
theorem dX11_court_174 : decode cX11_court 174 = .ok (.invokevirtual 311, 3) := by decide +kernel
theorem dX11_court_177 : decode cX11_court 177 = .ok (.goto 7, 3) := by decide +kernel
theorem dX11_court_180 : decode cX11_court 180 = .ok (.aload_n 0, 1) := by decide +kernel
theorem dX11_court_181 : decode cX11_court 181 = .ok (.invokevirtual 242, 3) := by decide +kernel
theorem dX11_court_184 : decode cX11_court 184 = .ok (.aload_n 0, 1) := by decide +kernel
theorem dX11_court_185 : decode cX11_court 185 = .ok (.aload_n 0, 1) := by decide +kernel
theorem dX11_court_186 : decode cX11_court 186 = .ok (.bipush 59, 2) := by decide +kernel
theorem dX11_court_188 : decode cX11_court 188 = .ok (.invokevirtual 314, 3) := by decide +kernel
theorem dX11_court_191 : decode cX11_court 191 = .ok (.invokevirtual 270, 3) := by decide +kernel
theorem dX11_court_194 : decode cX11_court 194 = .ok (.goto (-140), 3) := by decide +kernel
theorem dX11_court_197 : decode cX11_court 197 = .ok (.aload_n 0, 1) := by decide +kernel
theorem dX11_court_198 : decode cX11_court 198 = .ok (.invokevirtual 317, 3) := by decide +kernel
theorem dX11_court_201 : decode cX11_court 201 = .ok (.ifCond .ne 5, 3) := by decide +kernel
theorem dX11_court_204 : decode cX11_court 204 = .ok (.iconst (-1), 1) := by decide +kernel
theorem dX11_court_205 : decode cX11_court 205 = .ok (.ireturn, 1) := by decide +kernel
theorem dX11_court_206 : decode cX11_court 206 = .ok (.aload_n 0, 1) := by decide +kernel
theorem dX11_court_207 : decode cX11_court 207 = .ok (.getfield 35, 3) := by decide +kernel
theorem dX11_court_210 : decode cX11_court 210 = .ok (.sipush 1910, 3) := by decide +kernel
theorem dX11_court_213 : decode cX11_court 213 = .ok (.iconst 1, 1) := by decide +kernel
theorem dX11_court_214 : decode cX11_court 214 = .ok (.aload_n 0, 1) := by decide +kernel
theorem dX11_court_215 : decode cX11_court 215 = .ok (.getfield 35, 3) := by decide +kernel
theorem dX11_court_218 : decode cX11_court 218 = .ok (.sipush 1900, 3) := by decide +kernel
theorem dX11_court_221 : decode cX11_court 221 = .ok (.iaload, 1) := by decide +kernel
theorem dX11_court_222 : decode cX11_court 222 = .ok (.ishl, 1) := by decide +kernel
theorem dX11_court_223 : decode cX11_court 223 = .ok (.iconst 1, 1) := by decide +kernel
theorem dX11_court_224 : decode cX11_court 224 = .ok (.isub, 1) := by decide +kernel
theorem dX11_court_225 : decode cX11_court 225 = .ok (.iastore, 1) := by decide +kernel
theorem dX11_court_226 : decode cX11_court 226 = .ok (.aload_n 0, 1) := by decide +kernel
theorem dX11_court_227 : decode cX11_court 227 = .ok (.getfield 35, 3) := by decide +kernel
theorem dX11_court_230 : decode cX11_court 230 = .ok (.sipush 1908, 3) := by decide +kernel
theorem dX11_court_233 : decode cX11_court 233 = .ok (.aload_n 0, 1) := by decide +kernel
theorem dX11_court_234 : decode cX11_court 234 = .ok (.getfield 35, 3) := by decide +kernel
theorem dX11_court_237 : decode cX11_court 237 = .ok (.sipush 1902, 3) := by decide +kernel
theorem dX11_court_240 : decode cX11_court 240 = .ok (.iaload, 1) := by decide +kernel
theorem dX11_court_241 : decode cX11_court 241 = .ok (.ifCond .ne 7, 3) := by decide +kernel
theorem dX11_court_244 : decode cX11_court 244 = .ok (.iconst (-1), 1) := by decide +kernel
theorem dX11_court_245 : decode cX11_court 245 = .ok (.goto 4, 3) := by decide +kernel
theorem dX11_court_248 : decode cX11_court 248 = .ok (.iconst 0, 1) := by decide +kernel
theorem dX11_court_249 : decode cX11_court 249 = .ok (.iastore, 1) := by decide +kernel
theorem dX11_court_250 : decode cX11_court 250 = .ok (.aload_n 0, 1) := by decide +kernel
theorem dX11_court_251 : decode cX11_court 251 = .ok (.iconst 4, 1) := by decide +kernel
theorem dX11_court_252 : decode cX11_court 252 = .ok (.iconst 0, 1) := by decide +kernel
theorem dX11_court_253 : decode cX11_court 253 = .ok (.invokevirtual 320, 3) := by decide +kernel
theorem dX11_court_256 : decode cX11_court 256 = .ok (.aload_n 0, 1) := by decide +kernel
theorem dX11_court_257 : decode cX11_court 257 = .ok (.getfield 35, 3) := by decide +kernel
theorem dX11_court_260 : decode cX11_court 260 = .ok (.iconst 0, 1) := by decide +kernel
theorem dX11_court_261 : decode cX11_court 261 = .ok (.iaload, 1) := by decide +kernel
theorem dX11_court_262 : decode cX11_court 262 = .ok (.ireturn, 1) := by decide +kernel
theorem dX11_readTest_0 : decode cX11_readTest 0 = .ok (.aload_n 0, 1) := by decide +kernel
theorem dX11_readTest_1 : decode cX11_readTest 1 = .ok (.invokevirtual 220, 3) := by decide +kernel
theorem dX11_readTest_4 : decode cX11_readTest 4 = .ok (.istore_n 2, 1) := by decide +kernel
theorem dX11_readTest_5 : decode cX11_readTest 5 = .ok (.aload_n 0, 1) := by decide +kernel
theorem dX11_readTest_6 : decode cX11_readTest 6 = .ok (.iload_n 2, 1) := by decide +kernel
theorem dX11_readTest_7 : decode cX11_readTest 7 = .ok (.ifCond .lt 7, 3) := by decide +kernel
theorem dX11_readTest_10 : decode cX11_readTest 10 = .ok (.iconst 1, 1) := by decide +kernel
theorem dX11_readTest_11 : decode cX11_readTest 11 = .ok (.goto 4, 3) := by decide +kernel
theorem dX11_readTest_14 : decode cX11_readTest 14 = .ok (.iconst 0, 1) := by decide +kernel
theorem dX11_readTest_15 : decode cX11_readTest 15 = .ok (.invokevirtual 270, 3) := by decide +kernel
theorem dX11_readTest_18 : decode cX11_readTest 18 = .ok (.aload_n 0, 1) := by decide +kernel
theorem dX11_readTest_19 : decode cX11_readTest 19 = .ok (.getfield 35, 3) := by decide +kernel
theorem dX11_readTest_22 : decode cX11_readTest 22 = .ok (.iload_n 1, 1) := by decide +kernel
theorem dX11_readTest_23 : decode cX11_readTest 23 = .ok (.bipush 6, 2) := by decide +kernel
theorem dX11_readTest_25 : decode cX11_readTest 25 = .ok (.iadd, 1) := by decide +kernel
theorem dX11_readTest_26 : decode cX11_readTest 26 = .ok (.iload_n 2, 1) := by decide +kernel
theorem dX11_readTest_27 : decode cX11_readTest 27 = .ok (.iastore, 1) := by decide +kernel
theorem dX11_readTest_28 : decode cX11_readTest 28 = .ok (.iload_n 2, 1) := by decide +kernel
theorem dX11_readTest_29 : decode cX11_readTest 29 = .ok (.ifCond .le 19, 3) := by decide +kernel
theorem dX11_readTest_32 : decode cX11_readTest 32 = .ok (.aload_n 0, 1) := by decide +kernel
theorem dX11_readTest_33 : decode cX11_readTest 33 = .ok (.getfield 35, 3) := by decide +kernel
theorem dX11_readTest_36 : decode cX11_readTest 36 = .ok (.iload_n 1, 1) := by decide +kernel
theorem dX11_readTest_37 : decode cX11_readTest 37 = .ok (.iconst 1, 1) := by decide +kernel
theorem dX11_readTest_38 : decode cX11_readTest 38 = .ok (.iadd, 1) := by decide +kernel
theorem dX11_readTest_39 : decode cX11_readTest 39 = .ok (.aload_n 0, 1) := by decide +kernel
theorem dX11_readTest_40 : decode cX11_readTest 40 = .ok (.iconst 0, 1) := by decide +kernel
theorem dX11_readTest_41 : decode cX11_readTest 41 = .ok (.iload_n 2, 1) := by decide +kernel
theorem dX11_readTest_42 : decode cX11_readTest 42 = .ok (.iconst 1, 1) := by decide +kernel
theorem dX11_readTest_43 : decode cX11_readTest 43 = .ok (.iadd, 1) := by decide +kernel
theorem dX11_readTest_44 : decode cX11_readTest 44 = .ok (.invokevirtual 280, 3) := by decide +kernel
theorem dX11_readTest_47 : decode cX11_readTest 47 = .ok (.iastore, 1) := by decide +kernel
theorem dX11_readTest_48 : decode cX11_readTest 48 = .ok (.aload_n 0, 1) := by decide +kernel
theorem dX11_readTest_49 : decode cX11_readTest 49 = .ok (.getfield 229, 3) := by decide +kernel
theorem dX11_readTest_52 : decode cX11_readTest 52 = .ok (.ifCond .gt 8, 3) := by decide +kernel
theorem dX11_readTest_55 : decode cX11_readTest 55 = .ok (.iload_n 2, 1) := by decide +kernel
theorem dX11_readTest_56 : decode cX11_readTest 56 = .ok (.iconst 1, 1) := by decide +kernel
theorem dX11_readTest_57 : decode cX11_readTest 57 = .ok (.if_icmp .ne 4, 3) := by decide +kernel
theorem dX11_readTest_60 : decode cX11_readTest 60 = .ok (.return_, 1) := by decide +kernel
theorem dX11_readTest_61 : decode cX11_readTest 61 = .ok (.aload_n 0, 1) := by decide +kernel
theorem dX11_readTest_62 : decode cX11_readTest 62 = .ok (.getfield 35, 3) := by decide +kernel
theorem dX11_readTest_65 : decode cX11_readTest 65 = .ok (.iload_n 1, 1) := by decide +kernel
theorem dX11_readTest_66 : decode cX11_readTest 66 = .ok (.bipush 7, 2) := by decide +kernel
theorem dX11_readTest_68 : decode cX11_readTest 68 = .ok (.iadd, 1) := by decide +kernel
theorem dX11_readTest_69 : decode cX11_readTest 69 = .ok (.aload_n 0, 1) := by decide +kernel
theorem dX11_readTest_70 : decode cX11_readTest 70 = .ok (.getfield 126, 3) := by decide +kernel
theorem dX11_readTest_73 : decode cX11_readTest 73 = .ok (.iconst 3, 1) := by decide +kernel
theorem dX11_readTest_74 : decode cX11_readTest 74 = .ok (.if_icmp .ne 10, 3) := by decide +kernel
theorem dX11_readTest_77 : decode cX11_readTest 77 = .ok (.aload_n 0, 1) := by decide +kernel
theorem dX11_readTest_78 : decode cX11_readTest 78 = .ok (.getfield 145, 3) := by decide +kernel
theorem dX11_readTest_81 : decode cX11_readTest 81 = .ok (.goto 4, 3) := by decide +kernel
theorem dX11_readTest_84 : decode cX11_readTest 84 = .ok (.iconst 0, 1) := by decide +kernel
theorem dX11_readTest_85 : decode cX11_readTest 85 = .ok (.iastore, 1) := by decide +kernel
theorem dX11_readTest_86 : decode cX11_readTest 86 = .ok (.aload_n 0, 1) := by decide +kernel
theorem dX11_readTest_87 : decode cX11_readTest 87 = .ok (.aload_n 0, 1) := by decide +kernel
theorem dX11_readTest_88 : decode cX11_readTest 88 = .ok (.bipush 60, 2) := by decide +kernel
theorem dX11_readTest_90 : decode cX11_readTest 90 = .ok (.invokevirtual 314, 3) := by decide +kernel
theorem dX11_readTest_93 : decode cX11_readTest 93 = .ok (.ifCond .ne 21, 3) := by decide +kernel
theorem dX11_readTest_96 : decode cX11_readTest 96 = .ok (.aload_n 0, 1) := by decide +kernel
theorem dX11_readTest_97 : decode cX11_readTest 97 = .ok (.bipush 62, 2) := by decide +kernel
theorem dX11_readTest_99 : decode cX11_readTest 99 = .ok (.invokevirtual 314, 3) := by decide +kernel
theorem dX11_readTest_102 : decode cX11_readTest 102 = .ok (.ifCond .ne 12, 3) := by decide +kernel
theorem dX11_readTest_105 : decode cX11_readTest 105 = .ok (.aload_n 0, 1) := by decide +kernel
theorem dX11_readTest_106 : decode cX11_readTest 106 = .ok (.bipush 61, 2) := by decide +kernel
theorem dX11_readTest_108 : decode cX11_readTest 108 = .ok (.invokevirtual 314, 3) := by decide +kernel
theorem dX11_readTest_111 : decode cX11_readTest 111 = .ok (.ifCond .eq 7, 3) := by decide +kernel
theorem dX11_readTest_114 : decode cX11_readTest 114 = .ok (.iconst 1, 1) := by decide +kernel
theorem dX11_readTest_115 : decode cX11_readTest 115 = .ok (.goto 4, 3) := by decide +kernel
theorem dX11_readTest_118 : decode cX11_readTest 118 = .ok (.iconst 0, 1) := by decide +kernel
theorem dX11_readTest_119 : decode cX11_readTest 119 = .ok (.invokevirtual 270, 3) := by decide +kernel
theorem dX11_readTest_122 : decode cX11_readTest 122 = .ok (.aload_n 0, 1) := by decide +kernel
theorem dX11_readTest_123 : decode cX11_readTest 123 = .ok (.getfield 35, 3) := by decide +kernel
theorem dX11_readTest_126 : decode cX11_readTest 126 = .ok (.iload_n 1, 1) := by decide +kernel
theorem dX11_readTest_127 : decode cX11_readTest 127 = .ok (.iconst 2, 1) := by decide +kernel
theorem dX11_readTest_128 : decode cX11_readTest 128 = .ok (.iadd, 1) := by decide +kernel
theorem dX11_readTest_129 : decode cX11_readTest 129 = .ok (.iload_n 2, 1) := by decide +kernel
theorem dX11_readTest_130 : decode cX11_readTest 130 = .ok (.ifCond .ne 13, 3) := by decide +kernel
theorem dX11_readTest_133 : decode cX11_readTest 133 = .ok (.aload_n 0, 1) := by decide +kernel
theorem dX11_readTest_134 : decode cX11_readTest 134 = .ok (.iconst 0, 1) := by decide +kernel
theorem dX11_readTest_135 : decode cX11_readTest 135 = .ok (.bipush 10, 2) := by decide +kernel
theorem dX11_readTest_137 : decode cX11_readTest 137 = .ok (.invokevirtual 245, 3) := by decide +kernel
theorem dX11_readTest_140 : decode cX11_readTest 140 = .ok (.goto 10, 3) := by decide +kernel
theorem dX11_readTest_143 : decode cX11_readTest 143 = .ok (.aload_n 0, 1) := by decide +kernel
theorem dX11_readTest_144 : decode cX11_readTest 144 = .ok (.sipush 9999, 3) := by decide +kernel
theorem dX11_readTest_147 : decode cX11_readTest 147 = .ok (.invokevirtual 277, 3) := by decide +kernel
theorem dX11_readTest_150 : decode cX11_readTest 150 = .ok (.iastore, 1) := by decide +kernel
theorem dX11_readTest_151 : decode cX11_readTest 151 = .ok (.return_, 1) := by decide +kernel
theorem dX11_readRest_0 : decode cX11_readRest 0 = .ok (.aload_n 0, 1) := by decide +kernel
theorem dX11_readRest_1 : decode cX11_readRest 1 = .ok (.getfield 35, 3) := by decide +kernel
theorem dX11_readRest_4 : decode cX11_readRest 4 = .ok (.iload_n 1, 1) := by decide +kernel
theorem dX11_readRest_5 : decode cX11_readRest 5 = .ok (.iaload, 1) := by decide +kernel
theorem dX11_readRest_6 : decode cX11_readRest 6 = .ok (.istore_n 2, 1) := by decide +kernel
theorem dX11_readRest_7 : decode cX11_readRest 7 = .ok (.iload_n 2, 1) := by decide +kernel
theorem dX11_readRest_8 : decode cX11_readRest 8 = .ok (.ifCond .ne 20, 3) := by decide +kernel
theorem dX11_readRest_11 : decode cX11_readRest 11 = .ok (.aload_n 0, 1) := by decide +kernel
theorem dX11_readRest_12 : decode cX11_readRest 12 = .ok (.getfield 35, 3) := by decide +kernel
theorem dX11_readRest_15 : decode cX11_readRest 15 = .ok (.iload_n 1, 1) := by decide +kernel
theorem dX11_readRest_16 : decode cX11_readRest 16 = .ok (.iconst 1, 1) := by decide +kernel
theorem dX11_readRest_17 : decode cX11_readRest 17 = .ok (.iadd, 1) := by decide +kernel
theorem dX11_readRest_18 : decode cX11_readRest 18 = .ok (.aload_n 0, 1) := by decide +kernel
theorem dX11_readRest_19 : decode cX11_readRest 19 = .ok (.iconst 0, 1) := by decide +kernel
theorem dX11_readRest_20 : decode cX11_readRest 20 = .ok (.iconst 1, 1) := by decide +kernel
theorem dX11_readRest_21 : decode cX11_readRest 21 = .ok (.invokevirtual 280, 3) := by decide +kernel
theorem dX11_readRest_24 : decode cX11_readRest 24 = .ok (.iastore, 1) := by decide +kernel
theorem dX11_readRest_25 : decode cX11_readRest 25 = .ok (.goto 122, 3) := by decide +kernel
theorem dX11_readRest_28 : decode cX11_readRest 28 = .ok (.iload_n 2, 1) := by decide +kernel
theorem dX11_readRest_29 : decode cX11_readRest 29 = .ok (.iconst 1, 1) := by decide +kernel
theorem dX11_readRest_30 : decode cX11_readRest 30 = .ok (.if_icmp .eq 9, 3) := by decide +kernel
theorem dX11_readRest_33 : decode cX11_readRest 33 = .ok (.iload_n 2, 1) := by decide +kernel
theorem dX11_readRest_34 : decode cX11_readRest 34 = .ok (.bipush 8, 2) := by decide +kernel
theorem dX11_readRest_36 : decode cX11_readRest 36 = .ok (.if_icmp .ne 21, 3) := by decide +kernel
theorem dX11_readRest_39 : decode cX11_readRest 39 = .ok (.aload_n 0, 1) := by decide +kernel
theorem dX11_readRest_40 : decode cX11_readRest 40 = .ok (.getfield 35, 3) := by decide +kernel
theorem dX11_readRest_43 : decode cX11_readRest 43 = .ok (.iload_n 1, 1) := by decide +kernel
theorem dX11_readRest_44 : decode cX11_readRest 44 = .ok (.iconst 1, 1) := by decide +kernel
theorem dX11_readRest_45 : decode cX11_readRest 45 = .ok (.iadd, 1) := by decide +kernel
theorem dX11_readRest_46 : decode cX11_readRest 46 = .ok (.aload_n 0, 1) := by decide +kernel
theorem dX11_readRest_47 : decode cX11_readRest 47 = .ok (.iconst 1, 1) := by decide +kernel
theorem dX11_readRest_48 : decode cX11_readRest 48 = .ok (.bipush 99, 2) := by decide +kernel
theorem dX11_readRest_50 : decode cX11_readRest 50 = .ok (.invokevirtual 245, 3) := by decide +kernel
theorem dX11_readRest_53 : decode cX11_readRest 53 = .ok (.iastore, 1) := by decide +kernel
theorem dX11_readRest_54 : decode cX11_readRest 54 = .ok (.goto 93, 3) := by decide +kernel
theorem dX11_readRest_57 : decode cX11_readRest 57 = .ok (.iload_n 2, 1) := by decide +kernel
theorem dX11_readRest_58 : decode cX11_readRest 58 = .ok (.bipush 7, 2) := by decide +kernel
theorem dX11_readRest_60 : decode cX11_readRest 60 = .ok (.if_icmp .ne 11, 3) := by decide +kernel
theorem dX11_readRest_63 : decode cX11_readRest 63 = .ok (.aload_n 0, 1) := by decide +kernel
theorem dX11_readRest_64 : decode cX11_readRest 64 = .ok (.iload_n 1, 1) := by decide +kernel
theorem dX11_readRest_65 : decode cX11_readRest 65 = .ok (.invokevirtual 323, 3) := by decide +kernel
theorem dX11_readRest_68 : decode cX11_readRest 68 = .ok (.goto 79, 3) := by decide +kernel
theorem dX11_readRest_71 : decode cX11_readRest 71 = .ok (.iload_n 2, 1) := by decide +kernel
theorem dX11_readRest_72 : decode cX11_readRest 72 = .ok (.iconst 3, 1) := by decide +kernel
theorem dX11_readRest_73 : decode cX11_readRest 73 = .ok (.if_icmp .eq 13, 3) := by decide +kernel
theorem dX11_readRest_76 : decode cX11_readRest 76 = .ok (.iload_n 2, 1) := by decide +kernel
theorem dX11_readRest_77 : decode cX11_readRest 77 = .ok (.iconst 4, 1) := by decide +kernel
theorem dX11_readRest_78 : decode cX11_readRest 78 = .ok (.if_icmp .eq 8, 3) := by decide +kernel
theorem dX11_readRest_81 : decode cX11_readRest 81 = .ok (.iload_n 2, 1) := by decide +kernel
theorem dX11_readRest_82 : decode cX11_readRest 82 = .ok (.iconst 5, 1) := by decide +kernel
theorem dX11_readRest_83 : decode cX11_readRest 83 = .ok (.if_icmp .ne 64, 3) := by decide +kernel
theorem dX11_readRest_86 : decode cX11_readRest 86 = .ok (.aload_n 0, 1) := by decide +kernel
theorem dX11_readRest_87 : decode cX11_readRest 87 = .ok (.getfield 35, 3) := by decide +kernel
theorem dX11_readRest_90 : decode cX11_readRest 90 = .ok (.iload_n 1, 1) := by decide +kernel
theorem dX11_readRest_91 : decode cX11_readRest 91 = .ok (.iconst 1, 1) := by decide +kernel
theorem dX11_readRest_92 : decode cX11_readRest 92 = .ok (.iadd, 1) := by decide +kernel
theorem dX11_readRest_93 : decode cX11_readRest 93 = .ok (.aload_n 0, 1) := by decide +kernel
theorem dX11_readRest_94 : decode cX11_readRest 94 = .ok (.iconst 0, 1) := by decide +kernel
theorem dX11_readRest_95 : decode cX11_readRest 95 = .ok (.iconst 0, 1) := by decide +kernel
theorem dX11_readRest_96 : decode cX11_readRest 96 = .ok (.invokevirtual 280, 3) := by decide +kernel
theorem dX11_readRest_99 : decode cX11_readRest 99 = .ok (.iastore, 1) := by decide +kernel
theorem dX11_readRest_100 : decode cX11_readRest 100 = .ok (.aload_n 0, 1) := by decide +kernel
theorem dX11_readRest_101 : decode cX11_readRest 101 = .ok (.getfield 35, 3) := by decide +kernel
theorem dX11_readRest_104 : decode cX11_readRest 104 = .ok (.iload_n 1, 1) := by decide +kernel
theorem dX11_readRest_105 : decode cX11_readRest 105 = .ok (.iconst 2, 1) := by decide +kernel
theorem dX11_readRest_106 : decode cX11_readRest 106 = .ok (.iadd, 1) := by decide +kernel
theorem dX11_readRest_107 : decode cX11_readRest 107 = .ok (.iload_n 2, 1) := by decide +kernel
theorem dX11_readRest_108 : decode cX11_readRest 108 = .ok (.iconst 5, 1) := by decide +kernel
theorem dX11_readRest_109 : decode cX11_readRest 109 = .ok (.if_icmp .ne 21, 3) := by decide +kernel
theorem dX11_readRest_112 : decode cX11_readRest 112 = .ok (.aload_n 0, 1) := by decide +kernel
theorem dX11_readRest_113 : decode cX11_readRest 113 = .ok (.getfield 229, 3) := by decide +kernel
theorem dX11_readRest_116 : decode cX11_readRest 116 = .ok (.ifCond .ne 14, 3) := by decide +kernel
theorem dX11_readRest_119 : decode cX11_readRest 119 = .ok (.aload_n 0, 1) := by decide +kernel
theorem dX11_readRest_120 : decode cX11_readRest 120 = .ok (.invokevirtual 180, 3) := by decide +kernel
theorem dX11_readRest_123 : decode cX11_readRest 123 = .ok (.ifCond .eq 7, 3) := by decide +kernel
theorem dX11_readRest_126 : decode cX11_readRest 126 = .ok (.iconst (-1), 1) := by decide +kernel
theorem dX11_readRest_127 : decode cX11_readRest 127 = .ok (.goto 4, 3) := by decide +kernel
theorem dX11_readRest_130 : decode cX11_readRest 130 = .ok (.iconst 1, 1) := by decide +kernel
theorem dX11_readRest_131 : decode cX11_readRest 131 = .ok (.iastore, 1) := by decide +kernel
theorem dX11_readRest_132 : decode cX11_readRest 132 = .ok (.aload_n 0, 1) := by decide +kernel
theorem dX11_readRest_133 : decode cX11_readRest 133 = .ok (.getfield 35, 3) := by decide +kernel
theorem dX11_readRest_136 : decode cX11_readRest 136 = .ok (.iload_n 1, 1) := by decide +kernel
theorem dX11_readRest_137 : decode cX11_readRest 137 = .ok (.iconst 2, 1) := by decide +kernel
theorem dX11_readRest_138 : decode cX11_readRest 138 = .ok (.iadd, 1) := by decide +kernel
theorem dX11_readRest_139 : decode cX11_readRest 139 = .ok (.iaload, 1) := by decide +kernel
theorem dX11_readRest_140 : decode cX11_readRest 140 = .ok (.ifCond .ge 7, 3) := by decide +kernel
theorem dX11_readRest_143 : decode cX11_readRest 143 = .ok (.aload_n 0, 1) := by decide +kernel
theorem dX11_readRest_144 : decode cX11_readRest 144 = .ok (.invokevirtual 239, 3) := by decide +kernel
theorem dX11_readRest_147 : decode cX11_readRest 147 = .ok (.return_, 1) := by decide +kernel
theorem dX11_readStep_0 : decode cX11_readStep 0 = .ok (.aload_n 0, 1) := by decide +kernel
theorem dX11_readStep_1 : decode cX11_readStep 1 = .ok (.invokevirtual 217, 3) := by decide +kernel
theorem dX11_readStep_4 : decode cX11_readStep 4 = .ok (.istore_n 2, 1) := by decide +kernel
theorem dX11_readStep_5 : decode cX11_readStep 5 = .ok (.iload_n 2, 1) := by decide +kernel
theorem dX11_readStep_6 : decode cX11_readStep 6 = .ok (.bipush 7, 2) := by decide +kernel
theorem dX11_readStep_8 : decode cX11_readStep 8 = .ok (.if_icmp .eq 9, 3) := by decide +kernel
theorem dX11_readStep_11 : decode cX11_readStep 11 = .ok (.iload_n 2, 1) := by decide +kernel
theorem dX11_readStep_12 : decode cX11_readStep 12 = .ok (.bipush 8, 2) := by decide +kernel
theorem dX11_readStep_14 : decode cX11_readStep 14 = .ok (.if_icmp .ne 7, 3) := by decide +kernel
theorem dX11_readStep_17 : decode cX11_readStep 17 = .ok (.iconst 1, 1) := by decide +kernel
theorem dX11_readStep_18 : decode cX11_readStep 18 = .ok (.goto 4, 3) := by decide +kernel
theorem dX11_readStep_21 : decode cX11_readStep 21 = .ok (.iconst 0, 1) := by decide +kernel
theorem dX11_readStep_22 : decode cX11_readStep 22 = .ok (.istore_n 3, 1) := by decide +kernel
theorem dX11_readStep_23 : decode cX11_readStep 23 = .ok (.iload_n 2, 1) := by decide +kernel
theorem dX11_readStep_24 : decode cX11_readStep 24 = .ok (.ifCond .ge 7, 3) := by decide +kernel
theorem dX11_readStep_27 : decode cX11_readStep 27 = .ok (.aload_n 0, 1) := by decide +kernel
theorem dX11_readStep_28 : decode cX11_readStep 28 = .ok (.invokevirtual 242, 3) := by decide +kernel
theorem dX11_readStep_31 : decode cX11_readStep 31 = .ok (.aload_n 0, 1) := by decide +kernel
theorem dX11_readStep_32 : decode cX11_readStep 32 = .ok (.getfield 229, 3) := by decide +kernel
theorem dX11_readStep_35 : decode cX11_readStep 35 = .ok (.ifCond .ne 22, 3) := by decide +kernel
theorem dX11_readStep_38 : decode cX11_readStep 38 = .ok (.aload_n 0, 1) := by decide +kernel
theorem dX11_readStep_39 : decode cX11_readStep 39 = .ok (.getfield 326, 3) := by decide +kernel
theorem dX11_readStep_42 : decode cX11_readStep 42 = .ok (.bipush 30, 2) := by decide +kernel
theorem dX11_readStep_44 : decode cX11_readStep 44 = .ok (.if_icmp .ne 13, 3) := by decide +kernel
theorem dX11_readStep_47 : decode cX11_readStep 47 = .ok (.aload_n 0, 1) := by decide +kernel
theorem dX11_readStep_48 : decode cX11_readStep 48 = .ok (.bipush 6, 2) := by decide +kernel
theorem dX11_readStep_50 : decode cX11_readStep 50 = .ok (.aload_n 0, 1) := by decide +kernel
theorem dX11_readStep_51 : decode cX11_readStep 51 = .ok (.getfield 120, 3) := by decide +kernel
theorem dX11_readStep_54 : decode cX11_readStep 54 = .ok (.invokevirtual 235, 3) := by decide +kernel
theorem dX11_readStep_57 : decode cX11_readStep 57 = .ok (.aload_n 0, 1) := by decide +kernel
theorem dX11_readStep_58 : decode cX11_readStep 58 = .ok (.getfield 229, 3) := by decide +kernel
theorem dX11_readStep_61 : decode cX11_readStep 61 = .ok (.ifCond .ne 22, 3) := by decide +kernel
theorem dX11_readStep_64 : decode cX11_readStep 64 = .ok (.iload_n 3, 1) := by decide +kernel
theorem dX11_readStep_65 : decode cX11_readStep 65 = .ok (.ifCond .eq 18, 3) := by decide +kernel
theorem dX11_readStep_68 : decode cX11_readStep 68 = .ok (.iload_n 1, 1) := by decide +kernel
theorem dX11_readStep_69 : decode cX11_readStep 69 = .ok (.iconst 3, 1) := by decide +kernel
theorem dX11_readStep_70 : decode cX11_readStep 70 = .ok (.if_icmp .ne 13, 3) := by decide +kernel
theorem dX11_readStep_73 : decode cX11_readStep 73 = .ok (.aload_n 0, 1) := by decide +kernel
theorem dX11_readStep_74 : decode cX11_readStep 74 = .ok (.bipush 7, 2) := by decide +kernel
theorem dX11_readStep_76 : decode cX11_readStep 76 = .ok (.aload_n 0, 1) := by decide +kernel
theorem dX11_readStep_77 : decode cX11_readStep 77 = .ok (.getfield 120, 3) := by decide +kernel
theorem dX11_readStep_80 : decode cX11_readStep 80 = .ok (.invokevirtual 235, 3) := by decide +kernel
theorem dX11_readStep_83 : decode cX11_readStep 83 = .ok (.aload_n 0, 1) := by decide +kernel
theorem dX11_readStep_84 : decode cX11_readStep 84 = .ok (.getfield 229, 3) := by decide +kernel
theorem dX11_readStep_87 : decode cX11_readStep 87 = .ok (.ifCond .le 4, 3) := by decide +kernel
theorem dX11_readStep_90 : decode cX11_readStep 90 = .ok (.return_, 1) := by decide +kernel
theorem dX11_readStep_91 : decode cX11_readStep 91 = .ok (.sipush 2100, 3) := by decide +kernel
theorem dX11_readStep_94 : decode cX11_readStep 94 = .ok (.bipush 9, 2) := by decide +kernel
theorem dX11_readStep_96 : decode cX11_readStep 96 = .ok (.aload_n 0, 1) := by decide +kernel
theorem dX11_readStep_97 : decode cX11_readStep 97 = .ok (.getfield 326, 3) := by decide +kernel
theorem dX11_readStep_100 : decode cX11_readStep 100 = .ok (.imul, 1) := by decide +kernel
theorem dX11_readStep_101 : decode cX11_readStep 101 = .ok (.iadd, 1) := by decide +kernel
theorem dX11_readStep_102 : decode cX11_readStep 102 = .ok (.istore 4, 2) := by decide +kernel
theorem dX11_readStep_104 : decode cX11_readStep 104 = .ok (.aload_n 0, 1) := by decide +kernel
theorem dX11_readStep_105 : decode cX11_readStep 105 = .ok (.dup, 1) := by decide +kernel
theorem dX11_readStep_106 : decode cX11_readStep 106 = .ok (.getfield 326, 3) := by decide +kernel
theorem dX11_readStep_109 : decode cX11_readStep 109 = .ok (.iconst 1, 1) := by decide +kernel
theorem dX11_readStep_110 : decode cX11_readStep 110 = .ok (.iadd, 1) := by decide +kernel
theorem dX11_readStep_111 : decode cX11_readStep 111 = .ok (.putfield 326, 3) := by decide +kernel
theorem dX11_readStep_114 : decode cX11_readStep 114 = .ok (.aload_n 0, 1) := by decide +kernel
theorem dX11_readStep_115 : decode cX11_readStep 115 = .ok (.invokevirtual 239, 3) := by decide +kernel
theorem dX11_readStep_118 : decode cX11_readStep 118 = .ok (.aload_n 0, 1) := by decide +kernel
theorem dX11_readStep_119 : decode cX11_readStep 119 = .ok (.getfield 35, 3) := by decide +kernel
theorem dX11_readStep_122 : decode cX11_readStep 122 = .ok (.iload 4, 2) := by decide +kernel
theorem dX11_readStep_124 : decode cX11_readStep 124 = .ok (.iload_n 2, 1) := by decide +kernel
theorem dX11_readStep_125 : decode cX11_readStep 125 = .ok (.iastore, 1) := by decide +kernel
theorem dX11_readStep_126 : decode cX11_readStep 126 = .ok (.aload_n 0, 1) := by decide +kernel
theorem dX11_readStep_127 : decode cX11_readStep 127 = .ok (.iload 4, 2) := by decide +kernel
theorem dX11_readStep_129 : decode cX11_readStep 129 = .ok (.invokevirtual 329, 3) := by decide +kernel
theorem dX11_readStep_132 : decode cX11_readStep 132 = .ok (.aload_n 0, 1) := by decide +kernel
theorem dX11_readStep_133 : decode cX11_readStep 133 = .ok (.aload_n 0, 1) := by decide +kernel
theorem dX11_readStep_134 : decode cX11_readStep 134 = .ok (.bipush 59, 2) := by decide +kernel
theorem dX11_readStep_136 : decode cX11_readStep 136 = .ok (.invokevirtual 314, 3) := by decide +kernel
theorem dX11_readStep_139 : decode cX11_readStep 139 = .ok (.invokevirtual 270, 3) := by decide +kernel
theorem dX11_readStep_142 : decode cX11_readStep 142 = .ok (.iload_n 3, 1) := by decide +kernel
theorem dX11_readStep_143 : decode cX11_readStep 143 = .ok (.ifCond .eq 27, 3) := by decide +kernel
theorem dX11_readStep_146 : decode cX11_readStep 146 = .ok (.aload_n 0, 1) := by decide +kernel
theorem dX11_readStep_147 : decode cX11_readStep 147 = .ok (.getfield 229, 3) := by decide +kernel
theorem dX11_readStep_150 : decode cX11_readStep 150 = .ok (.ifCond .ne 20, 3) := by decide +kernel
theorem dX11_readStep_153 : decode cX11_readStep 153 = .ok (.aload_n 0, 1) := by decide +kernel
theorem dX11_readStep_154 : decode cX11_readStep 154 = .ok (.invokevirtual 223, 3) := by decide +kernel
theorem dX11_readStep_157 : decode cX11_readStep 157 = .ok (.ifCond .ne 13, 3) := by decide +kernel
theorem dX11_readStep_160 : decode cX11_readStep 160 = .ok (.aload_n 0, 1) := by decide +kernel
theorem dX11_readStep_161 : decode cX11_readStep 161 = .ok (.iload_n 1, 1) := by decide +kernel
theorem dX11_readStep_162 : decode cX11_readStep 162 = .ok (.iconst 1, 1) := by decide +kernel
theorem dX11_readStep_163 : decode cX11_readStep 163 = .ok (.iadd, 1) := by decide +kernel
theorem dX11_readStep_164 : decode cX11_readStep 164 = .ok (.invokevirtual 332, 3) := by decide +kernel
theorem dX11_readStep_167 : decode cX11_readStep 167 = .ok (.goto (-25), 3) := by decide +kernel
theorem dX11_readStep_170 : decode cX11_readStep 170 = .ok (.iload_n 3, 1) := by decide +kernel
theorem dX11_readStep_171 : decode cX11_readStep 171 = .ok (.ifCond .eq 21, 3) := by decide +kernel
theorem dX11_readStep_174 : decode cX11_readStep 174 = .ok (.aload_n 0, 1) := by decide +kernel
theorem dX11_readStep_175 : decode cX11_readStep 175 = .ok (.aload_n 0, 1) := by decide +kernel
theorem dX11_readStep_176 : decode cX11_readStep 176 = .ok (.invokevirtual 223, 3) := by decide +kernel
theorem dX11_readStep_179 : decode cX11_readStep 179 = .ok (.invokevirtual 270, 3) := by decide +kernel
theorem dX11_readStep_182 : decode cX11_readStep 182 = .ok (.aload_n 0, 1) := by decide +kernel
theorem dX11_readStep_183 : decode cX11_readStep 183 = .ok (.aload_n 0, 1) := by decide +kernel
theorem dX11_readStep_184 : decode cX11_readStep 184 = .ok (.bipush 59, 2) := by decide +kernel
theorem dX11_readStep_186 : decode cX11_readStep 186 = .ok (.invokevirtual 314, 3) := by decide +kernel
theorem dX11_readStep_189 : decode cX11_readStep 189 = .ok (.invokevirtual 270, 3) := by decide +kernel
theorem dX11_readStep_192 : decode cX11_readStep 192 = .ok (.aload_n 0, 1) := by decide +kernel
theorem dX11_readStep_193 : decode cX11_readStep 193 = .ok (.getfield 35, 3) := by decide +kernel
theorem dX11_readStep_196 : decode cX11_readStep 196 = .ok (.iload 4, 2) := by decide +kernel
theorem dX11_readStep_198 : decode cX11_readStep 198 = .ok (.bipush 8, 2) := by decide +kernel
theorem dX11_readStep_200 : decode cX11_readStep 200 = .ok (.iadd, 1) := by decide +kernel
theorem dX11_readStep_201 : decode cX11_readStep 201 = .ok (.aload_n 0, 1) := by decide +kernel
theorem dX11_readStep_202 : decode cX11_readStep 202 = .ok (.getfield 326, 3) := by decide +kernel
theorem dX11_readStep_205 : decode cX11_readStep 205 = .ok (.iastore, 1) := by decide +kernel
theorem dX11_readStep_206 : decode cX11_readStep 206 = .ok (.return_, 1) := by decide +kernel
theorem dX11_weeks_0 : decode cX11_weeks 0 = .ok (.aload_n 0, 1) := by decide +kernel
theorem dX11_weeks_1 : decode cX11_weeks 1 = .ok (.iconst 0, 1) := by decide +kernel
theorem dX11_weeks_2 : decode cX11_weeks 2 = .ok (.putfield 71, 3) := by decide +kernel
theorem dX11_weeks_5 : decode cX11_weeks 5 = .ok (.aload_n 0, 1) := by decide +kernel
theorem dX11_weeks_6 : decode cX11_weeks 6 = .ok (.iconst 0, 1) := by decide +kernel
theorem dX11_weeks_7 : decode cX11_weeks 7 = .ok (.putfield 74, 3) := by decide +kernel
theorem dX11_weeks_10 : decode cX11_weeks 10 = .ok (.aload_n 0, 1) := by decide +kernel
theorem dX11_weeks_11 : decode cX11_weeks 11 = .ok (.iload_n 1, 1) := by decide +kernel
theorem dX11_weeks_12 : decode cX11_weeks 12 = .ok (.sipush 300, 3) := by decide +kernel
theorem dX11_weeks_15 : decode cX11_weeks 15 = .ok (.invokevirtual 287, 3) := by decide +kernel
theorem dX11_weeks_18 : decode cX11_weeks 18 = .ok (.ifCond .ne 5, 3) := by decide +kernel
theorem dX11_weeks_21 : decode cX11_weeks 21 = .ok (.iconst (-1), 1) := by decide +kernel
theorem dX11_weeks_22 : decode cX11_weeks 22 = .ok (.ireturn, 1) := by decide +kernel
theorem dX11_weeks_23 : decode cX11_weeks 23 = .ok (.aload_n 0, 1) := by decide +kernel
theorem dX11_weeks_24 : decode cX11_weeks 24 = .ok (.iconst 0, 1) := by decide +kernel
theorem dX11_weeks_25 : decode cX11_weeks 25 = .ok (.putfield 326, 3) := by decide +kernel
theorem dX11_weeks_28 : decode cX11_weeks 28 = .ok (.aload_n 0, 1) := by decide +kernel
theorem dX11_weeks_29 : decode cX11_weeks 29 = .ok (.getfield 229, 3) := by decide +kernel
theorem dX11_weeks_32 : decode cX11_weeks 32 = .ok (.ifCond .ne 18, 3) := by decide +kernel
theorem dX11_weeks_35 : decode cX11_weeks 35 = .ok (.aload_n 0, 1) := by decide +kernel
theorem dX11_weeks_36 : decode cX11_weeks 36 = .ok (.getfield 126, 3) := by decide +kernel
theorem dX11_weeks_39 : decode cX11_weeks 39 = .ok (.ifCond .eq 11, 3) := by decide +kernel
theorem dX11_weeks_42 : decode cX11_weeks 42 = .ok (.aload_n 0, 1) := by decide +kernel
theorem dX11_weeks_43 : decode cX11_weeks 43 = .ok (.iconst 0, 1) := by decide +kernel
theorem dX11_weeks_44 : decode cX11_weeks 44 = .ok (.invokevirtual 332, 3) := by decide +kernel
theorem dX11_weeks_47 : decode cX11_weeks 47 = .ok (.goto (-19), 3) := by decide +kernel
theorem dX11_weeks_50 : decode cX11_weeks 50 = .ok (.aload_n 0, 1) := by decide +kernel
theorem dX11_weeks_51 : decode cX11_weeks 51 = .ok (.invokevirtual 317, 3) := by decide +kernel
theorem dX11_weeks_54 : decode cX11_weeks 54 = .ok (.ifCond .ne 5, 3) := by decide +kernel
theorem dX11_weeks_57 : decode cX11_weeks 57 = .ok (.iconst (-1), 1) := by decide +kernel
theorem dX11_weeks_58 : decode cX11_weeks 58 = .ok (.ireturn, 1) := by decide +kernel
theorem dX11_weeks_59 : decode cX11_weeks 59 = .ok (.aload_n 0, 1) := by decide +kernel
theorem dX11_weeks_60 : decode cX11_weeks 60 = .ok (.getfield 35, 3) := by decide +kernel
theorem dX11_weeks_63 : decode cX11_weeks 63 = .ok (.sipush 198, 3) := by decide +kernel
theorem dX11_weeks_66 : decode cX11_weeks 66 = .ok (.iconst 1, 1) := by decide +kernel
theorem dX11_weeks_67 : decode cX11_weeks 67 = .ok (.iastore, 1) := by decide +kernel
theorem dX11_weeks_68 : decode cX11_weeks 68 = .ok (.aload_n 0, 1) := by decide +kernel
theorem dX11_weeks_69 : decode cX11_weeks 69 = .ok (.getfield 35, 3) := by decide +kernel
theorem dX11_weeks_72 : decode cX11_weeks 72 = .ok (.sipush 199, 3) := by decide +kernel
theorem dX11_weeks_75 : decode cX11_weeks 75 = .ok (.aload_n 0, 1) := by decide +kernel
theorem dX11_weeks_76 : decode cX11_weeks 76 = .ok (.getfield 326, 3) := by decide +kernel
theorem dX11_weeks_79 : decode cX11_weeks 79 = .ok (.iastore, 1) := by decide +kernel
theorem dX11_weeks_80 : decode cX11_weeks 80 = .ok (.iconst 0, 1) := by decide +kernel
theorem dX11_weeks_81 : decode cX11_weeks 81 = .ok (.istore_n 2, 1) := by decide +kernel
theorem dX11_weeks_82 : decode cX11_weeks 82 = .ok (.iload_n 2, 1) := by decide +kernel
theorem dX11_weeks_83 : decode cX11_weeks 83 = .ok (.bipush 9, 2) := by decide +kernel
theorem dX11_weeks_85 : decode cX11_weeks 85 = .ok (.aload_n 0, 1) := by decide +kernel
theorem dX11_weeks_86 : decode cX11_weeks 86 = .ok (.getfield 326, 3) := by decide +kernel
theorem dX11_weeks_89 : decode cX11_weeks 89 = .ok (.imul, 1) := by decide +kernel
theorem dX11_weeks_90 : decode cX11_weeks 90 = .ok (.if_icmp .ge 29, 3) := by decide +kernel
theorem dX11_weeks_93 : decode cX11_weeks 93 = .ok (.aload_n 0, 1) := by decide +kernel
theorem dX11_weeks_94 : decode cX11_weeks 94 = .ok (.getfield 35, 3) := by decide +kernel
theorem dX11_weeks_97 : decode cX11_weeks 97 = .ok (.sipush 200, 3) := by decide +kernel
theorem dX11_weeks_100 : decode cX11_weeks 100 = .ok (.iload_n 2, 1) := by decide +kernel
theorem dX11_weeks_101 : decode cX11_weeks 101 = .ok (.iadd, 1) := by decide +kernel
theorem dX11_weeks_102 : decode cX11_weeks 102 = .ok (.aload_n 0, 1) := by decide +kernel
theorem dX11_weeks_103 : decode cX11_weeks 103 = .ok (.getfield 35, 3) := by decide +kernel
theorem dX11_weeks_106 : decode cX11_weeks 106 = .ok (.sipush 2100, 3) := by decide +kernel
theorem dX11_weeks_109 : decode cX11_weeks 109 = .ok (.iload_n 2, 1) := by decide +kernel
theorem dX11_weeks_110 : decode cX11_weeks 110 = .ok (.iadd, 1) := by decide +kernel
theorem dX11_weeks_111 : decode cX11_weeks 111 = .ok (.iaload, 1) := by decide +kernel
theorem dX11_weeks_112 : decode cX11_weeks 112 = .ok (.iastore, 1) := by decide +kernel
theorem dX11_weeks_113 : decode cX11_weeks 113 = .ok (.iinc 2 1, 3) := by decide +kernel
theorem dX11_weeks_116 : decode cX11_weeks 116 = .ok (.goto (-34), 3) := by decide +kernel
theorem dX11_weeks_119 : decode cX11_weeks 119 = .ok (.aload_n 0, 1) := by decide +kernel
theorem dX11_weeks_120 : decode cX11_weeks 120 = .ok (.getfield 326, 3) := by decide +kernel
theorem dX11_weeks_123 : decode cX11_weeks 123 = .ok (.ireturn, 1) := by decide +kernel
theorem dX11_isJurorAt_0 : decode cX11_isJurorAt 0 = .ok (.iload_n 1, 1) := by decide +kernel
theorem dX11_isJurorAt_1 : decode cX11_isJurorAt 1 = .ok (.i2l, 1) := by decide +kernel
theorem dX11_isJurorAt_2 : decode cX11_isJurorAt 2 = .ok (.lconst 0, 1) := by decide +kernel
theorem dX11_isJurorAt_3 : decode cX11_isJurorAt 3 = .ok (.aload_n 0, 1) := by decide +kernel
theorem dX11_isJurorAt_4 : decode cX11_isJurorAt 4 = .ok (.getfield 35, 3) := by decide +kernel
theorem dX11_isJurorAt_7 : decode cX11_isJurorAt 7 = .ok (.iconst 0, 1) := by decide +kernel
theorem dX11_isJurorAt_8 : decode cX11_isJurorAt 8 = .ok (.iaload, 1) := by decide +kernel
theorem dX11_isJurorAt_9 : decode cX11_isJurorAt 9 = .ok (.iconst 1, 1) := by decide +kernel
theorem dX11_isJurorAt_10 : decode cX11_isJurorAt 10 = .ok (.isub, 1) := by decide +kernel
theorem dX11_isJurorAt_11 : decode cX11_isJurorAt 11 = .ok (.i2l, 1) := by decide +kernel
theorem dX11_isJurorAt_12 : decode cX11_isJurorAt 12 = .ok (.invokestatic 106, 3) := by decide +kernel
theorem dX11_isJurorAt_15 : decode cX11_isJurorAt 15 = .ok (.ireturn, 1) := by decide +kernel
theorem dX11_isWeatherAt_0 : decode cX11_isWeatherAt 0 = .ok (.iload_n 1, 1) := by decide +kernel
theorem dX11_isWeatherAt_1 : decode cX11_isWeatherAt 1 = .ok (.i2l, 1) := by decide +kernel
theorem dX11_isWeatherAt_2 : decode cX11_isWeatherAt 2 = .ok (.lconst 0, 1) := by decide +kernel
theorem dX11_isWeatherAt_3 : decode cX11_isWeatherAt 3 = .ok (.aload_n 0, 1) := by decide +kernel
theorem dX11_isWeatherAt_4 : decode cX11_isWeatherAt 4 = .ok (.getfield 35, 3) := by decide +kernel
theorem dX11_isWeatherAt_7 : decode cX11_isWeatherAt 7 = .ok (.iconst 2, 1) := by decide +kernel
theorem dX11_isWeatherAt_8 : decode cX11_isWeatherAt 8 = .ok (.iaload, 1) := by decide +kernel
theorem dX11_isWeatherAt_9 : decode cX11_isWeatherAt 9 = .ok (.iconst 1, 1) := by decide +kernel
theorem dX11_isWeatherAt_10 : decode cX11_isWeatherAt 10 = .ok (.isub, 1) := by decide +kernel
theorem dX11_isWeatherAt_11 : decode cX11_isWeatherAt 11 = .ok (.i2l, 1) := by decide +kernel
theorem dX11_isWeatherAt_12 : decode cX11_isWeatherAt 12 = .ok (.invokestatic 106, 3) := by decide +kernel
theorem dX11_isWeatherAt_15 : decode cX11_isWeatherAt 15 = .ok (.ireturn, 1) := by decide +kernel
theorem dX11_isCropAt_0 : decode cX11_isCropAt 0 = .ok (.iload_n 1, 1) := by decide +kernel
theorem dX11_isCropAt_1 : decode cX11_isCropAt 1 = .ok (.i2l, 1) := by decide +kernel
theorem dX11_isCropAt_2 : decode cX11_isCropAt 2 = .ok (.lconst 0, 1) := by decide +kernel
theorem dX11_isCropAt_3 : decode cX11_isCropAt 3 = .ok (.aload_n 0, 1) := by decide +kernel
theorem dX11_isCropAt_4 : decode cX11_isCropAt 4 = .ok (.getfield 35, 3) := by decide +kernel
theorem dX11_isCropAt_7 : decode cX11_isCropAt 7 = .ok (.iconst 3, 1) := by decide +kernel
theorem dX11_isCropAt_8 : decode cX11_isCropAt 8 = .ok (.iaload, 1) := by decide +kernel
theorem dX11_isCropAt_9 : decode cX11_isCropAt 9 = .ok (.iconst 1, 1) := by decide +kernel
theorem dX11_isCropAt_10 : decode cX11_isCropAt 10 = .ok (.isub, 1) := by decide +kernel
theorem dX11_isCropAt_11 : decode cX11_isCropAt 11 = .ok (.i2l, 1) := by decide +kernel
theorem dX11_isCropAt_12 : decode cX11_isCropAt 12 = .ok (.invokestatic 106, 3) := by decide +kernel
theorem dX11_isCropAt_15 : decode cX11_isCropAt 15 = .ok (.ireturn, 1) := by decide +kernel
theorem dX11_isSeated_0 : decode cX11_isSeated 0 = .ok (.aload_n 0, 1) := by decide +kernel
theorem dX11_isSeated_1 : decode cX11_isSeated 1 = .ok (.getfield 35, 3) := by decide +kernel
theorem dX11_isSeated_4 : decode cX11_isSeated 4 = .ok (.bipush 10, 2) := by decide +kernel
theorem dX11_isSeated_6 : decode cX11_isSeated 6 = .ok (.iaload, 1) := by decide +kernel
theorem dX11_isSeated_7 : decode cX11_isSeated 7 = .ok (.iload_n 1, 1) := by decide +kernel
theorem dX11_isSeated_8 : decode cX11_isSeated 8 = .ok (.invokestatic 110, 3) := by decide +kernel
theorem dX11_isSeated_11 : decode cX11_isSeated 11 = .ok (.ireturn, 1) := by decide +kernel
theorem dX11_cut__0 : decode cX11_cut_ 0 = .ok (.bipush (-99), 2) := by decide +kernel
theorem dX11_cut__2 : decode cX11_cut_ 2 = .ok (.bipush 99, 2) := by decide +kernel
theorem dX11_cut__4 : decode cX11_cut_ 4 = .ok (.iload_n 0, 1) := by decide +kernel
theorem dX11_cut__5 : decode cX11_cut_ 5 = .ok (.invokestatic 335, 3) := by decide +kernel
theorem dX11_cut__8 : decode cX11_cut_ 8 = .ok (.invokestatic 264, 3) := by decide +kernel
theorem dX11_cut__11 : decode cX11_cut_ 11 = .ok (.ireturn, 1) := by decide +kernel
theorem dX11_many_0 : decode cX11_many 0 = .ok (.aload_n 0, 1) := by decide +kernel
theorem dX11_many_1 : decode cX11_many 1 = .ok (.iconst 0, 1) := by decide +kernel
theorem dX11_many_2 : decode cX11_many 2 = .ok (.putfield 71, 3) := by decide +kernel
theorem dX11_many_5 : decode cX11_many 5 = .ok (.aload_n 0, 1) := by decide +kernel
theorem dX11_many_6 : decode cX11_many 6 = .ok (.iconst 0, 1) := by decide +kernel
theorem dX11_many_7 : decode cX11_many 7 = .ok (.putfield 74, 3) := by decide +kernel
theorem dX11_many_10 : decode cX11_many 10 = .ok (.iload_n 1, 1) := by decide +kernel
theorem dX11_many_11 : decode cX11_many 11 = .ok (.i2l, 1) := by decide +kernel
theorem dX11_many_12 : decode cX11_many 12 = .ok (.lconst 0, 1) := by decide +kernel
theorem dX11_many_13 : decode cX11_many 13 = .ok (.ldc2_w 338, 3) := by decide +kernel
theorem dX11_many_16 : decode cX11_many 16 = .ok (.invokestatic 106, 3) := by decide +kernel
theorem dX11_many_19 : decode cX11_many 19 = .ok (.ifCond .ne 9, 3) := by decide +kernel
theorem dX11_many_22 : decode cX11_many 22 = .ok (.aload_n 0, 1) := by decide +kernel
theorem dX11_many_23 : decode cX11_many 23 = .ok (.iconst 5, 1) := by decide +kernel
theorem dX11_many_24 : decode cX11_many 24 = .ok (.invokevirtual 340, 3) := by decide +kernel
theorem dX11_many_27 : decode cX11_many 27 = .ok (.ireturn, 1) := by decide +kernel
theorem dX11_many_28 : decode cX11_many 28 = .ok (.iload_n 1, 1) := by decide +kernel
theorem dX11_many_29 : decode cX11_many 29 = .ok (.iconst 4, 1) := by decide +kernel
theorem dX11_many_30 : decode cX11_many 30 = .ok (.if_icmp .ne 12, 3) := by decide +kernel
theorem dX11_many_33 : decode cX11_many 33 = .ok (.aload_n 0, 1) := by decide +kernel
theorem dX11_many_34 : decode cX11_many 34 = .ok (.getfield 35, 3) := by decide +kernel
theorem dX11_many_37 : decode cX11_many 37 = .ok (.iconst 4, 1) := by decide +kernel
theorem dX11_many_38 : decode cX11_many 38 = .ok (.iaload, 1) := by decide +kernel
theorem dX11_many_39 : decode cX11_many 39 = .ok (.ifCond .eq 19, 3) := by decide +kernel
theorem dX11_many_42 : decode cX11_many 42 = .ok (.iload_n 1, 1) := by decide +kernel
theorem dX11_many_43 : decode cX11_many 43 = .ok (.bipush 8, 2) := by decide +kernel
theorem dX11_many_45 : decode cX11_many 45 = .ok (.if_icmp .ne 20, 3) := by decide +kernel
theorem dX11_many_48 : decode cX11_many 48 = .ok (.aload_n 0, 1) := by decide +kernel
theorem dX11_many_49 : decode cX11_many 49 = .ok (.getfield 35, 3) := by decide +kernel
theorem dX11_many_52 : decode cX11_many 52 = .ok (.bipush 8, 2) := by decide +kernel
theorem dX11_many_54 : decode cX11_many 54 = .ok (.iaload, 1) := by decide +kernel
theorem dX11_many_55 : decode cX11_many 55 = .ok (.ifCond .ge 10, 3) := by decide +kernel
theorem dX11_many_58 : decode cX11_many 58 = .ok (.aload_n 0, 1) := by decide +kernel
theorem dX11_many_59 : decode cX11_many 59 = .ok (.bipush 8, 2) := by decide +kernel
theorem dX11_many_61 : decode cX11_many 61 = .ok (.invokevirtual 340, 3) := by decide +kernel
theorem dX11_many_64 : decode cX11_many 64 = .ok (.ireturn, 1) := by decide +kernel
theorem dX11_many_65 : decode cX11_many 65 = .ok (.aload_n 0, 1) := by decide +kernel
theorem dX11_many_66 : decode cX11_many 66 = .ok (.getfield 35, 3) := by decide +kernel
theorem dX11_many_69 : decode cX11_many 69 = .ok (.iload_n 1, 1) := by decide +kernel
theorem dX11_many_70 : decode cX11_many 70 = .ok (.iaload, 1) := by decide +kernel
theorem dX11_many_71 : decode cX11_many 71 = .ok (.ireturn, 1) := by decide +kernel
theorem dX11_juror_0 : decode cX11_juror 0 = .ok (.aload_n 0, 1) := by decide +kernel
theorem dX11_juror_1 : decode cX11_juror 1 = .ok (.iconst 0, 1) := by decide +kernel
theorem dX11_juror_2 : decode cX11_juror 2 = .ok (.putfield 71, 3) := by decide +kernel
theorem dX11_juror_5 : decode cX11_juror 5 = .ok (.aload_n 0, 1) := by decide +kernel
theorem dX11_juror_6 : decode cX11_juror 6 = .ok (.iconst 0, 1) := by decide +kernel
theorem dX11_juror_7 : decode cX11_juror 7 = .ok (.putfield 74, 3) := by decide +kernel
theorem dX11_juror_10 : decode cX11_juror 10 = .ok (.aload_n 0, 1) := by decide +kernel
theorem dX11_juror_11 : decode cX11_juror 11 = .ok (.iload_n 1, 1) := by decide +kernel
theorem dX11_juror_12 : decode cX11_juror 12 = .ok (.invokevirtual 343, 3) := by decide +kernel
theorem dX11_juror_15 : decode cX11_juror 15 = .ok (.ifCond .ne 9, 3) := by decide +kernel
theorem dX11_juror_18 : decode cX11_juror 18 = .ok (.aload_n 0, 1) := by decide +kernel
theorem dX11_juror_19 : decode cX11_juror 19 = .ok (.iconst 2, 1) := by decide +kernel
theorem dX11_juror_20 : decode cX11_juror 20 = .ok (.invokevirtual 340, 3) := by decide +kernel
theorem dX11_juror_23 : decode cX11_juror 23 = .ok (.ireturn, 1) := by decide +kernel
theorem dX11_juror_24 : decode cX11_juror 24 = .ok (.iload_n 2, 1) := by decide +kernel
theorem dX11_juror_25 : decode cX11_juror 25 = .ok (.i2l, 1) := by decide +kernel
theorem dX11_juror_26 : decode cX11_juror 26 = .ok (.lconst 0, 1) := by decide +kernel
theorem dX11_juror_27 : decode cX11_juror 27 = .ok (.ldc2_w 104, 3) := by decide +kernel
theorem dX11_juror_30 : decode cX11_juror 30 = .ok (.invokestatic 106, 3) := by decide +kernel
theorem dX11_juror_33 : decode cX11_juror 33 = .ok (.ifCond .ne 9, 3) := by decide +kernel
theorem dX11_juror_36 : decode cX11_juror 36 = .ok (.aload_n 0, 1) := by decide +kernel
theorem dX11_juror_37 : decode cX11_juror 37 = .ok (.iconst 5, 1) := by decide +kernel
theorem dX11_juror_38 : decode cX11_juror 38 = .ok (.invokevirtual 340, 3) := by decide +kernel
theorem dX11_juror_41 : decode cX11_juror 41 = .ok (.ireturn, 1) := by decide +kernel
theorem dX11_juror_42 : decode cX11_juror 42 = .ok (.iload_n 2, 1) := by decide +kernel
theorem dX11_juror_43 : decode cX11_juror 43 = .ok (.ifCond .ne 15, 3) := by decide +kernel
theorem dX11_juror_46 : decode cX11_juror 46 = .ok (.aload_n 0, 1) := by decide +kernel
theorem dX11_juror_47 : decode cX11_juror 47 = .ok (.getfield 35, 3) := by decide +kernel
theorem dX11_juror_50 : decode cX11_juror 50 = .ok (.bipush 42, 2) := by decide +kernel
theorem dX11_juror_52 : decode cX11_juror 52 = .ok (.iload_n 1, 1) := by decide +kernel
theorem dX11_juror_53 : decode cX11_juror 53 = .ok (.iadd, 1) := by decide +kernel
theorem dX11_juror_54 : decode cX11_juror 54 = .ok (.iaload, 1) := by decide +kernel
theorem dX11_juror_55 : decode cX11_juror 55 = .ok (.goto 19, 3) := by decide +kernel
theorem dX11_juror_58 : decode cX11_juror 58 = .ok (.aload_n 0, 1) := by decide +kernel
theorem dX11_juror_59 : decode cX11_juror 59 = .ok (.getfield 35, 3) := by decide +kernel
theorem dX11_juror_62 : decode cX11_juror 62 = .ok (.bipush 12, 2) := by decide +kernel
theorem dX11_juror_64 : decode cX11_juror 64 = .ok (.bipush 10, 2) := by decide +kernel
theorem dX11_juror_66 : decode cX11_juror 66 = .ok (.iload_n 2, 1) := by decide +kernel
theorem dX11_juror_67 : decode cX11_juror 67 = .ok (.iconst 1, 1) := by decide +kernel
theorem dX11_juror_68 : decode cX11_juror 68 = .ok (.isub, 1) := by decide +kernel
theorem dX11_juror_69 : decode cX11_juror 69 = .ok (.imul, 1) := by decide +kernel
theorem dX11_juror_70 : decode cX11_juror 70 = .ok (.iadd, 1) := by decide +kernel
theorem dX11_juror_71 : decode cX11_juror 71 = .ok (.iload_n 1, 1) := by decide +kernel
theorem dX11_juror_72 : decode cX11_juror 72 = .ok (.iadd, 1) := by decide +kernel
theorem dX11_juror_73 : decode cX11_juror 73 = .ok (.iaload, 1) := by decide +kernel
theorem dX11_juror_74 : decode cX11_juror 74 = .ok (.ireturn, 1) := by decide +kernel
theorem dX11_sways_0 : decode cX11_sways 0 = .ok (.aload_n 0, 1) := by decide +kernel
theorem dX11_sways_1 : decode cX11_sways 1 = .ok (.iconst 0, 1) := by decide +kernel
theorem dX11_sways_2 : decode cX11_sways 2 = .ok (.putfield 71, 3) := by decide +kernel
theorem dX11_sways_5 : decode cX11_sways 5 = .ok (.aload_n 0, 1) := by decide +kernel
theorem dX11_sways_6 : decode cX11_sways 6 = .ok (.iconst 0, 1) := by decide +kernel
theorem dX11_sways_7 : decode cX11_sways 7 = .ok (.putfield 74, 3) := by decide +kernel
theorem dX11_sways_10 : decode cX11_sways 10 = .ok (.aload_n 0, 1) := by decide +kernel
theorem dX11_sways_11 : decode cX11_sways 11 = .ok (.iload_n 1, 1) := by decide +kernel
theorem dX11_sways_12 : decode cX11_sways 12 = .ok (.invokevirtual 343, 3) := by decide +kernel
theorem dX11_sways_15 : decode cX11_sways 15 = .ok (.ifCond .eq 11, 3) := by decide +kernel
theorem dX11_sways_18 : decode cX11_sways 18 = .ok (.aload_n 0, 1) := by decide +kernel
theorem dX11_sways_19 : decode cX11_sways 19 = .ok (.iload_n 2, 1) := by decide +kernel
theorem dX11_sways_20 : decode cX11_sways 20 = .ok (.invokevirtual 343, 3) := by decide +kernel
theorem dX11_sways_23 : decode cX11_sways 23 = .ok (.ifCond .ne 9, 3) := by decide +kernel
theorem dX11_sways_26 : decode cX11_sways 26 = .ok (.aload_n 0, 1) := by decide +kernel
theorem dX11_sways_27 : decode cX11_sways 27 = .ok (.iconst 2, 1) := by decide +kernel
theorem dX11_sways_28 : decode cX11_sways 28 = .ok (.invokevirtual 340, 3) := by decide +kernel
theorem dX11_sways_31 : decode cX11_sways 31 = .ok (.ireturn, 1) := by decide +kernel
theorem dX11_sways_32 : decode cX11_sways 32 = .ok (.iload_n 1, 1) := by decide +kernel
theorem dX11_sways_33 : decode cX11_sways 33 = .ok (.iload_n 2, 1) := by decide +kernel
theorem dX11_sways_34 : decode cX11_sways 34 = .ok (.if_icmp .ne 11, 3) := by decide +kernel
theorem dX11_sways_37 : decode cX11_sways 37 = .ok (.aload_n 0, 1) := by decide +kernel
theorem dX11_sways_38 : decode cX11_sways 38 = .ok (.iconst 5, 1) := by decide +kernel
theorem dX11_sways_39 : decode cX11_sways 39 = .ok (.invokevirtual 340, 3) := by decide +kernel
theorem dX11_sways_42 : decode cX11_sways 42 = .ok (.goto 17, 3) := by decide +kernel
theorem dX11_sways_45 : decode cX11_sways 45 = .ok (.aload_n 0, 1) := by decide +kernel
theorem dX11_sways_46 : decode cX11_sways 46 = .ok (.getfield 35, 3) := by decide +kernel
theorem dX11_sways_49 : decode cX11_sways 49 = .ok (.bipush 52, 2) := by decide +kernel
theorem dX11_sways_51 : decode cX11_sways 51 = .ok (.bipush 10, 2) := by decide +kernel
theorem dX11_sways_53 : decode cX11_sways 53 = .ok (.iload_n 1, 1) := by decide +kernel
theorem dX11_sways_54 : decode cX11_sways 54 = .ok (.imul, 1) := by decide +kernel
theorem dX11_sways_55 : decode cX11_sways 55 = .ok (.iadd, 1) := by decide +kernel
theorem dX11_sways_56 : decode cX11_sways 56 = .ok (.iload_n 2, 1) := by decide +kernel
theorem dX11_sways_57 : decode cX11_sways 57 = .ok (.iadd, 1) := by decide +kernel
theorem dX11_sways_58 : decode cX11_sways 58 = .ok (.iaload, 1) := by decide +kernel
theorem dX11_sways_59 : decode cX11_sways 59 = .ok (.ireturn, 1) := by decide +kernel
theorem dX11_proof_0 : decode cX11_proof 0 = .ok (.aload_n 0, 1) := by decide +kernel
theorem dX11_proof_1 : decode cX11_proof 1 = .ok (.iconst 0, 1) := by decide +kernel
theorem dX11_proof_2 : decode cX11_proof 2 = .ok (.putfield 71, 3) := by decide +kernel
theorem dX11_proof_5 : decode cX11_proof 5 = .ok (.aload_n 0, 1) := by decide +kernel
theorem dX11_proof_6 : decode cX11_proof 6 = .ok (.iconst 0, 1) := by decide +kernel
theorem dX11_proof_7 : decode cX11_proof 7 = .ok (.putfield 74, 3) := by decide +kernel
theorem dX11_proof_10 : decode cX11_proof 10 = .ok (.iload_n 1, 1) := by decide +kernel
theorem dX11_proof_11 : decode cX11_proof 11 = .ok (.i2l, 1) := by decide +kernel
theorem dX11_proof_12 : decode cX11_proof 12 = .ok (.lconst 0, 1) := by decide +kernel
theorem dX11_proof_13 : decode cX11_proof 13 = .ok (.aload_n 0, 1) := by decide +kernel
theorem dX11_proof_14 : decode cX11_proof 14 = .ok (.getfield 35, 3) := by decide +kernel
theorem dX11_proof_17 : decode cX11_proof 17 = .ok (.iconst 1, 1) := by decide +kernel
theorem dX11_proof_18 : decode cX11_proof 18 = .ok (.iaload, 1) := by decide +kernel
theorem dX11_proof_19 : decode cX11_proof 19 = .ok (.iconst 1, 1) := by decide +kernel
theorem dX11_proof_20 : decode cX11_proof 20 = .ok (.isub, 1) := by decide +kernel
theorem dX11_proof_21 : decode cX11_proof 21 = .ok (.i2l, 1) := by decide +kernel
theorem dX11_proof_22 : decode cX11_proof 22 = .ok (.invokestatic 106, 3) := by decide +kernel
theorem dX11_proof_25 : decode cX11_proof 25 = .ok (.ifCond .eq 16, 3) := by decide +kernel
theorem dX11_proof_28 : decode cX11_proof 28 = .ok (.aload_n 0, 1) := by decide +kernel
theorem dX11_proof_29 : decode cX11_proof 29 = .ok (.getfield 35, 3) := by decide +kernel
theorem dX11_proof_32 : decode cX11_proof 32 = .ok (.sipush 152, 3) := by decide +kernel
theorem dX11_proof_35 : decode cX11_proof 35 = .ok (.iload_n 1, 1) := by decide +kernel
theorem dX11_proof_36 : decode cX11_proof 36 = .ok (.iadd, 1) := by decide +kernel
theorem dX11_proof_37 : decode cX11_proof 37 = .ok (.iaload, 1) := by decide +kernel
theorem dX11_proof_38 : decode cX11_proof 38 = .ok (.goto 8, 3) := by decide +kernel
theorem dX11_proof_41 : decode cX11_proof 41 = .ok (.aload_n 0, 1) := by decide +kernel
theorem dX11_proof_42 : decode cX11_proof 42 = .ok (.iconst 2, 1) := by decide +kernel
theorem dX11_proof_43 : decode cX11_proof 43 = .ok (.invokevirtual 340, 3) := by decide +kernel
theorem dX11_proof_46 : decode cX11_proof 46 = .ok (.ireturn, 1) := by decide +kernel
theorem dX11_behindOf_0 : decode cX11_behindOf 0 = .ok (.iload_n 2, 1) := by decide +kernel
theorem dX11_behindOf_1 : decode cX11_behindOf 1 = .ok (.ifCond .ne 7, 3) := by decide +kernel
theorem dX11_behindOf_4 : decode cX11_behindOf 4 = .ok (.iload_n 1, 1) := by decide +kernel
theorem dX11_behindOf_5 : decode cX11_behindOf 5 = .ok (.goto 23, 3) := by decide +kernel
theorem dX11_behindOf_8 : decode cX11_behindOf 8 = .ok (.aload_n 0, 1) := by decide +kernel
theorem dX11_behindOf_9 : decode cX11_behindOf 9 = .ok (.getfield 35, 3) := by decide +kernel
theorem dX11_behindOf_12 : decode cX11_behindOf 12 = .ok (.iload_n 2, 1) := by decide +kernel
theorem dX11_behindOf_13 : decode cX11_behindOf 13 = .ok (.ifCond .le 9, 3) := by decide +kernel
theorem dX11_behindOf_16 : decode cX11_behindOf 16 = .ok (.sipush 158, 3) := by decide +kernel
theorem dX11_behindOf_19 : decode cX11_behindOf 19 = .ok (.goto 6, 3) := by decide +kernel
theorem dX11_behindOf_22 : decode cX11_behindOf 22 = .ok (.sipush 164, 3) := by decide +kernel
theorem dX11_behindOf_25 : decode cX11_behindOf 25 = .ok (.iload_n 1, 1) := by decide +kernel
theorem dX11_behindOf_26 : decode cX11_behindOf 26 = .ok (.iadd, 1) := by decide +kernel
theorem dX11_behindOf_27 : decode cX11_behindOf 27 = .ok (.iaload, 1) := by decide +kernel
theorem dX11_behindOf_28 : decode cX11_behindOf 28 = .ok (.ireturn, 1) := by decide +kernel
theorem dX11_follows_0 : decode cX11_follows 0 = .ok (.aload_n 0, 1) := by decide +kernel
theorem dX11_follows_1 : decode cX11_follows 1 = .ok (.iconst 0, 1) := by decide +kernel
theorem dX11_follows_2 : decode cX11_follows 2 = .ok (.putfield 71, 3) := by decide +kernel
theorem dX11_follows_5 : decode cX11_follows 5 = .ok (.aload_n 0, 1) := by decide +kernel
theorem dX11_follows_6 : decode cX11_follows 6 = .ok (.iconst 0, 1) := by decide +kernel
theorem dX11_follows_7 : decode cX11_follows 7 = .ok (.putfield 74, 3) := by decide +kernel
theorem dX11_follows_10 : decode cX11_follows 10 = .ok (.aload_n 0, 1) := by decide +kernel
theorem dX11_follows_11 : decode cX11_follows 11 = .ok (.iload_n 1, 1) := by decide +kernel
theorem dX11_follows_12 : decode cX11_follows 12 = .ok (.invokevirtual 346, 3) := by decide +kernel
theorem dX11_follows_15 : decode cX11_follows 15 = .ok (.ifCond .ne 9, 3) := by decide +kernel
theorem dX11_follows_18 : decode cX11_follows 18 = .ok (.aload_n 0, 1) := by decide +kernel
theorem dX11_follows_19 : decode cX11_follows 19 = .ok (.iconst 2, 1) := by decide +kernel
theorem dX11_follows_20 : decode cX11_follows 20 = .ok (.invokevirtual 340, 3) := by decide +kernel
theorem dX11_follows_23 : decode cX11_follows 23 = .ok (.ireturn, 1) := by decide +kernel
theorem dX11_follows_24 : decode cX11_follows 24 = .ok (.iload_n 2, 1) := by decide +kernel
theorem dX11_follows_25 : decode cX11_follows 25 = .ok (.i2l, 1) := by decide +kernel
theorem dX11_follows_26 : decode cX11_follows 26 = .ok (.ldc2_w 102, 3) := by decide +kernel
theorem dX11_follows_29 : decode cX11_follows 29 = .ok (.lconst 1, 1) := by decide +kernel
theorem dX11_follows_30 : decode cX11_follows 30 = .ok (.invokestatic 106, 3) := by decide +kernel
theorem dX11_follows_33 : decode cX11_follows 33 = .ok (.ifCond .eq 12, 3) := by decide +kernel
theorem dX11_follows_36 : decode cX11_follows 36 = .ok (.aload_n 0, 1) := by decide +kernel
theorem dX11_follows_37 : decode cX11_follows 37 = .ok (.iload_n 1, 1) := by decide +kernel
theorem dX11_follows_38 : decode cX11_follows 38 = .ok (.iload_n 2, 1) := by decide +kernel
theorem dX11_follows_39 : decode cX11_follows 39 = .ok (.invokevirtual 349, 3) := by decide +kernel
theorem dX11_follows_42 : decode cX11_follows 42 = .ok (.goto 8, 3) := by decide +kernel
theorem dX11_follows_45 : decode cX11_follows 45 = .ok (.aload_n 0, 1) := by decide +kernel
theorem dX11_follows_46 : decode cX11_follows 46 = .ok (.iconst 5, 1) := by decide +kernel
theorem dX11_follows_47 : decode cX11_follows 47 = .ok (.invokevirtual 340, 3) := by decide +kernel
theorem dX11_follows_50 : decode cX11_follows 50 = .ok (.ireturn, 1) := by decide +kernel
theorem dX11_growsOn_0 : decode cX11_growsOn 0 = .ok (.aload_n 0, 1) := by decide +kernel
theorem dX11_growsOn_1 : decode cX11_growsOn 1 = .ok (.getfield 35, 3) := by decide +kernel
theorem dX11_growsOn_4 : decode cX11_growsOn 4 = .ok (.sipush 170, 3) := by decide +kernel
theorem dX11_growsOn_7 : decode cX11_growsOn 7 = .ok (.bipush 6, 2) := by decide +kernel
theorem dX11_growsOn_9 : decode cX11_growsOn 9 = .ok (.iload_n 1, 1) := by decide +kernel
theorem dX11_growsOn_10 : decode cX11_growsOn 10 = .ok (.imul, 1) := by decide +kernel
theorem dX11_growsOn_11 : decode cX11_growsOn 11 = .ok (.iadd, 1) := by decide +kernel
theorem dX11_growsOn_12 : decode cX11_growsOn 12 = .ok (.iload_n 2, 1) := by decide +kernel
theorem dX11_growsOn_13 : decode cX11_growsOn 13 = .ok (.iadd, 1) := by decide +kernel
theorem dX11_growsOn_14 : decode cX11_growsOn 14 = .ok (.iaload, 1) := by decide +kernel
theorem dX11_growsOn_15 : decode cX11_growsOn 15 = .ok (.ireturn, 1) := by decide +kernel
theorem dX11_grows_0 : decode cX11_grows 0 = .ok (.aload_n 0, 1) := by decide +kernel
theorem dX11_grows_1 : decode cX11_grows 1 = .ok (.iconst 0, 1) := by decide +kernel
theorem dX11_grows_2 : decode cX11_grows 2 = .ok (.putfield 71, 3) := by decide +kernel
theorem dX11_grows_5 : decode cX11_grows 5 = .ok (.aload_n 0, 1) := by decide +kernel
theorem dX11_grows_6 : decode cX11_grows 6 = .ok (.iconst 0, 1) := by decide +kernel
theorem dX11_grows_7 : decode cX11_grows 7 = .ok (.putfield 74, 3) := by decide +kernel
theorem dX11_grows_10 : decode cX11_grows 10 = .ok (.aload_n 0, 1) := by decide +kernel
theorem dX11_grows_11 : decode cX11_grows 11 = .ok (.iload_n 1, 1) := by decide +kernel
theorem dX11_grows_12 : decode cX11_grows 12 = .ok (.invokevirtual 352, 3) := by decide +kernel
theorem dX11_grows_15 : decode cX11_grows 15 = .ok (.ifCond .eq 20, 3) := by decide +kernel
theorem dX11_grows_18 : decode cX11_grows 18 = .ok (.aload_n 0, 1) := by decide +kernel
theorem dX11_grows_19 : decode cX11_grows 19 = .ok (.iload_n 2, 1) := by decide +kernel
theorem dX11_grows_20 : decode cX11_grows 20 = .ok (.invokevirtual 346, 3) := by decide +kernel
theorem dX11_grows_23 : decode cX11_grows 23 = .ok (.ifCond .eq 12, 3) := by decide +kernel
theorem dX11_grows_26 : decode cX11_grows 26 = .ok (.aload_n 0, 1) := by decide +kernel
theorem dX11_grows_27 : decode cX11_grows 27 = .ok (.iload_n 1, 1) := by decide +kernel
theorem dX11_grows_28 : decode cX11_grows 28 = .ok (.iload_n 2, 1) := by decide +kernel
theorem dX11_grows_29 : decode cX11_grows 29 = .ok (.invokevirtual 355, 3) := by decide +kernel
theorem dX11_grows_32 : decode cX11_grows 32 = .ok (.goto 8, 3) := by decide +kernel
theorem dX11_grows_35 : decode cX11_grows 35 = .ok (.aload_n 0, 1) := by decide +kernel
theorem dX11_grows_36 : decode cX11_grows 36 = .ok (.iconst 2, 1) := by decide +kernel
theorem dX11_grows_37 : decode cX11_grows 37 = .ok (.invokevirtual 340, 3) := by decide +kernel
theorem dX11_grows_40 : decode cX11_grows 40 = .ok (.ireturn, 1) := by decide +kernel
theorem dX11_crop_0 : decode cX11_crop 0 = .ok (.aload_n 0, 1) := by decide +kernel
theorem dX11_crop_1 : decode cX11_crop 1 = .ok (.iconst 0, 1) := by decide +kernel
theorem dX11_crop_2 : decode cX11_crop 2 = .ok (.putfield 71, 3) := by decide +kernel
theorem dX11_crop_5 : decode cX11_crop 5 = .ok (.aload_n 0, 1) := by decide +kernel
theorem dX11_crop_6 : decode cX11_crop 6 = .ok (.iconst 0, 1) := by decide +kernel
theorem dX11_crop_7 : decode cX11_crop 7 = .ok (.putfield 74, 3) := by decide +kernel
theorem dX11_crop_10 : decode cX11_crop 10 = .ok (.aload_n 0, 1) := by decide +kernel
theorem dX11_crop_11 : decode cX11_crop 11 = .ok (.iload_n 1, 1) := by decide +kernel
theorem dX11_crop_12 : decode cX11_crop 12 = .ok (.invokevirtual 352, 3) := by decide +kernel
theorem dX11_crop_15 : decode cX11_crop 15 = .ok (.ifCond .eq 16, 3) := by decide +kernel
theorem dX11_crop_18 : decode cX11_crop 18 = .ok (.aload_n 0, 1) := by decide +kernel
theorem dX11_crop_19 : decode cX11_crop 19 = .ok (.getfield 35, 3) := by decide +kernel
theorem dX11_crop_22 : decode cX11_crop 22 = .ok (.sipush 194, 3) := by decide +kernel
theorem dX11_crop_25 : decode cX11_crop 25 = .ok (.iload_n 1, 1) := by decide +kernel
theorem dX11_crop_26 : decode cX11_crop 26 = .ok (.iadd, 1) := by decide +kernel
theorem dX11_crop_27 : decode cX11_crop 27 = .ok (.iaload, 1) := by decide +kernel
theorem dX11_crop_28 : decode cX11_crop 28 = .ok (.goto 8, 3) := by decide +kernel
theorem dX11_crop_31 : decode cX11_crop 31 = .ok (.aload_n 0, 1) := by decide +kernel
theorem dX11_crop_32 : decode cX11_crop 32 = .ok (.iconst 2, 1) := by decide +kernel
theorem dX11_crop_33 : decode cX11_crop 33 = .ok (.invokevirtual 340, 3) := by decide +kernel
theorem dX11_crop_36 : decode cX11_crop 36 = .ok (.ireturn, 1) := by decide +kernel
theorem dX11_copyLeanings_0 : decode cX11_copyLeanings 0 = .ok (.aload_n 0, 1) := by decide +kernel
theorem dX11_copyLeanings_1 : decode cX11_copyLeanings 1 = .ok (.iconst 0, 1) := by decide +kernel
theorem dX11_copyLeanings_2 : decode cX11_copyLeanings 2 = .ok (.putfield 71, 3) := by decide +kernel
theorem dX11_copyLeanings_5 : decode cX11_copyLeanings 5 = .ok (.aload_n 0, 1) := by decide +kernel
theorem dX11_copyLeanings_6 : decode cX11_copyLeanings 6 = .ok (.iconst 0, 1) := by decide +kernel
theorem dX11_copyLeanings_7 : decode cX11_copyLeanings 7 = .ok (.putfield 74, 3) := by decide +kernel
theorem dX11_copyLeanings_10 : decode cX11_copyLeanings 10 = .ok (.aload_n 0, 1) := by decide +kernel
theorem dX11_copyLeanings_11 : decode cX11_copyLeanings 11 = .ok (.iload_n 1, 1) := by decide +kernel
theorem dX11_copyLeanings_12 : decode cX11_copyLeanings 12 = .ok (.invokevirtual 358, 3) := by decide +kernel
theorem dX11_copyLeanings_15 : decode cX11_copyLeanings 15 = .ok (.ifCond .ne 9, 3) := by decide +kernel
theorem dX11_copyLeanings_18 : decode cX11_copyLeanings 18 = .ok (.aload_n 0, 1) := by decide +kernel
theorem dX11_copyLeanings_19 : decode cX11_copyLeanings 19 = .ok (.iconst 1, 1) := by decide +kernel
theorem dX11_copyLeanings_20 : decode cX11_copyLeanings 20 = .ok (.invokevirtual 340, 3) := by decide +kernel
theorem dX11_copyLeanings_23 : decode cX11_copyLeanings 23 = .ok (.ireturn, 1) := by decide +kernel
theorem dX11_copyLeanings_24 : decode cX11_copyLeanings 24 = .ok (.aload_n 0, 1) := by decide +kernel
theorem dX11_copyLeanings_25 : decode cX11_copyLeanings 25 = .ok (.getfield 17, 3) := by decide +kernel
theorem dX11_copyLeanings_28 : decode cX11_copyLeanings 28 = .ok (.iload_n 1, 1) := by decide +kernel
theorem dX11_copyLeanings_29 : decode cX11_copyLeanings 29 = .ok (.iaload, 1) := by decide +kernel
theorem dX11_copyLeanings_30 : decode cX11_copyLeanings 30 = .ok (.ifCond .ge 9, 3) := by decide +kernel
theorem dX11_copyLeanings_33 : decode cX11_copyLeanings 33 = .ok (.aload_n 0, 1) := by decide +kernel
theorem dX11_copyLeanings_34 : decode cX11_copyLeanings 34 = .ok (.iconst 3, 1) := by decide +kernel
theorem dX11_copyLeanings_35 : decode cX11_copyLeanings 35 = .ok (.invokevirtual 340, 3) := by decide +kernel
theorem dX11_copyLeanings_38 : decode cX11_copyLeanings 38 = .ok (.ireturn, 1) := by decide +kernel
theorem dX11_copyLeanings_39 : decode cX11_copyLeanings 39 = .ok (.aload_n 0, 1) := by decide +kernel
theorem dX11_copyLeanings_40 : decode cX11_copyLeanings 40 = .ok (.getfield 17, 3) := by decide +kernel
theorem dX11_copyLeanings_43 : decode cX11_copyLeanings 43 = .ok (.iload_n 1, 1) := by decide +kernel
theorem dX11_copyLeanings_44 : decode cX11_copyLeanings 44 = .ok (.iaload, 1) := by decide +kernel
theorem dX11_copyLeanings_45 : decode cX11_copyLeanings 45 = .ok (.aload_n 0, 1) := by decide +kernel
theorem dX11_copyLeanings_46 : decode cX11_copyLeanings 46 = .ok (.getfield 35, 3) := by decide +kernel
theorem dX11_copyLeanings_49 : decode cX11_copyLeanings 49 = .ok (.iconst 0, 1) := by decide +kernel
theorem dX11_copyLeanings_50 : decode cX11_copyLeanings 50 = .ok (.iaload, 1) := by decide +kernel
theorem dX11_copyLeanings_51 : decode cX11_copyLeanings 51 = .ok (.if_icmp .ge 9, 3) := by decide +kernel
theorem dX11_copyLeanings_54 : decode cX11_copyLeanings 54 = .ok (.aload_n 0, 1) := by decide +kernel
theorem dX11_copyLeanings_55 : decode cX11_copyLeanings 55 = .ok (.iconst 4, 1) := by decide +kernel
theorem dX11_copyLeanings_56 : decode cX11_copyLeanings 56 = .ok (.invokevirtual 340, 3) := by decide +kernel
theorem dX11_copyLeanings_59 : decode cX11_copyLeanings 59 = .ok (.ireturn, 1) := by decide +kernel
theorem dX11_copyLeanings_60 : decode cX11_copyLeanings 60 = .ok (.iconst 0, 1) := by decide +kernel
theorem dX11_copyLeanings_61 : decode cX11_copyLeanings 61 = .ok (.istore_n 2, 1) := by decide +kernel
theorem dX11_copyLeanings_62 : decode cX11_copyLeanings 62 = .ok (.iload_n 2, 1) := by decide +kernel
theorem dX11_copyLeanings_63 : decode cX11_copyLeanings 63 = .ok (.aload_n 0, 1) := by decide +kernel
theorem dX11_copyLeanings_64 : decode cX11_copyLeanings 64 = .ok (.getfield 35, 3) := by decide +kernel
theorem dX11_copyLeanings_67 : decode cX11_copyLeanings 67 = .ok (.iconst 0, 1) := by decide +kernel
theorem dX11_copyLeanings_68 : decode cX11_copyLeanings 68 = .ok (.iaload, 1) := by decide +kernel
theorem dX11_copyLeanings_69 : decode cX11_copyLeanings 69 = .ok (.if_icmp .ge 30, 3) := by decide +kernel
theorem dX11_copyLeanings_72 : decode cX11_copyLeanings 72 = .ok (.aload_n 0, 1) := by decide +kernel
theorem dX11_copyLeanings_73 : decode cX11_copyLeanings 73 = .ok (.getfield 20, 3) := by decide +kernel
theorem dX11_copyLeanings_76 : decode cX11_copyLeanings 76 = .ok (.bipush 60, 2) := by decide +kernel
theorem dX11_copyLeanings_78 : decode cX11_copyLeanings 78 = .ok (.iload_n 1, 1) := by decide +kernel
theorem dX11_copyLeanings_79 : decode cX11_copyLeanings 79 = .ok (.imul, 1) := by decide +kernel
theorem dX11_copyLeanings_80 : decode cX11_copyLeanings 80 = .ok (.iload_n 2, 1) := by decide +kernel
theorem dX11_copyLeanings_81 : decode cX11_copyLeanings 81 = .ok (.iadd, 1) := by decide +kernel
theorem dX11_copyLeanings_82 : decode cX11_copyLeanings 82 = .ok (.aload_n 0, 1) := by decide +kernel
theorem dX11_copyLeanings_83 : decode cX11_copyLeanings 83 = .ok (.getfield 35, 3) := by decide +kernel
theorem dX11_copyLeanings_86 : decode cX11_copyLeanings 86 = .ok (.bipush 42, 2) := by decide +kernel
theorem dX11_copyLeanings_88 : decode cX11_copyLeanings 88 = .ok (.iload_n 2, 1) := by decide +kernel
theorem dX11_copyLeanings_89 : decode cX11_copyLeanings 89 = .ok (.iadd, 1) := by decide +kernel
theorem dX11_copyLeanings_90 : decode cX11_copyLeanings 90 = .ok (.iaload, 1) := by decide +kernel
theorem dX11_copyLeanings_91 : decode cX11_copyLeanings 91 = .ok (.i2l, 1) := by decide +kernel
theorem dX11_copyLeanings_92 : decode cX11_copyLeanings 92 = .ok (.lastore, 1) := by decide +kernel
theorem dX11_copyLeanings_93 : decode cX11_copyLeanings 93 = .ok (.iinc 2 1, 3) := by decide +kernel
theorem dX11_copyLeanings_96 : decode cX11_copyLeanings 96 = .ok (.goto (-34), 3) := by decide +kernel
theorem dX11_copyLeanings_99 : decode cX11_copyLeanings 99 = .ok (.aload_n 0, 1) := by decide +kernel
theorem dX11_copyLeanings_100 : decode cX11_copyLeanings 100 = .ok (.getfield 35, 3) := by decide +kernel
theorem dX11_copyLeanings_103 : decode cX11_copyLeanings 103 = .ok (.iconst 0, 1) := by decide +kernel
theorem dX11_copyLeanings_104 : decode cX11_copyLeanings 104 = .ok (.iaload, 1) := by decide +kernel
theorem dX11_copyLeanings_105 : decode cX11_copyLeanings 105 = .ok (.ireturn, 1) := by decide +kernel
theorem dX11_showsOne_0 : decode cX11_showsOne 0 = .ok (.aload_n 0, 1) := by decide +kernel
theorem dX11_showsOne_1 : decode cX11_showsOne 1 = .ok (.getfield 35, 3) := by decide +kernel
theorem dX11_showsOne_4 : decode cX11_showsOne 4 = .ok (.bipush 11, 2) := by decide +kernel
theorem dX11_showsOne_6 : decode cX11_showsOne 6 = .ok (.dup2, 1) := by decide +kernel
theorem dX11_showsOne_7 : decode cX11_showsOne 7 = .ok (.iaload, 1) := by decide +kernel
theorem dX11_showsOne_8 : decode cX11_showsOne 8 = .ok (.iconst 1, 1) := by decide +kernel
theorem dX11_showsOne_9 : decode cX11_showsOne 9 = .ok (.iload_n 1, 1) := by decide +kernel
theorem dX11_showsOne_10 : decode cX11_showsOne 10 = .ok (.ishl, 1) := by decide +kernel
theorem dX11_showsOne_11 : decode cX11_showsOne 11 = .ok (.ior, 1) := by decide +kernel
theorem dX11_showsOne_12 : decode cX11_showsOne 12 = .ok (.iastore, 1) := by decide +kernel
theorem dX11_showsOne_13 : decode cX11_showsOne 13 = .ok (.iconst 0, 1) := by decide +kernel
theorem dX11_showsOne_14 : decode cX11_showsOne 14 = .ok (.istore_n 2, 1) := by decide +kernel
theorem dX11_showsOne_15 : decode cX11_showsOne 15 = .ok (.iconst 0, 1) := by decide +kernel
theorem dX11_showsOne_16 : decode cX11_showsOne 16 = .ok (.istore_n 3, 1) := by decide +kernel
theorem dX11_showsOne_17 : decode cX11_showsOne 17 = .ok (.iload_n 3, 1) := by decide +kernel
theorem dX11_showsOne_18 : decode cX11_showsOne 18 = .ok (.aload_n 0, 1) := by decide +kernel
theorem dX11_showsOne_19 : decode cX11_showsOne 19 = .ok (.getfield 35, 3) := by decide +kernel
theorem dX11_showsOne_22 : decode cX11_showsOne 22 = .ok (.iconst 0, 1) := by decide +kernel
theorem dX11_showsOne_23 : decode cX11_showsOne 23 = .ok (.iaload, 1) := by decide +kernel
theorem dX11_showsOne_24 : decode cX11_showsOne 24 = .ok (.if_icmp .ge 118, 3) := by decide +kernel
theorem dX11_showsOne_27 : decode cX11_showsOne 27 = .ok (.aload_n 0, 1) := by decide +kernel
theorem dX11_showsOne_28 : decode cX11_showsOne 28 = .ok (.iload_n 3, 1) := by decide +kernel
theorem dX11_showsOne_29 : decode cX11_showsOne 29 = .ok (.invokevirtual 361, 3) := by decide +kernel
theorem dX11_showsOne_32 : decode cX11_showsOne 32 = .ok (.ifCond .ne 6, 3) := by decide +kernel
theorem dX11_showsOne_35 : decode cX11_showsOne 35 = .ok (.goto 101, 3) := by decide +kernel
theorem dX11_showsOne_38 : decode cX11_showsOne 38 = .ok (.aload_n 0, 1) := by decide +kernel
theorem dX11_showsOne_39 : decode cX11_showsOne 39 = .ok (.getfield 35, 3) := by decide +kernel
theorem dX11_showsOne_42 : decode cX11_showsOne 42 = .ok (.bipush 42, 2) := by decide +kernel
theorem dX11_showsOne_44 : decode cX11_showsOne 44 = .ok (.iload_n 3, 1) := by decide +kernel
theorem dX11_showsOne_45 : decode cX11_showsOne 45 = .ok (.iadd, 1) := by decide +kernel
theorem dX11_showsOne_46 : decode cX11_showsOne 46 = .ok (.iaload, 1) := by decide +kernel
theorem dX11_showsOne_47 : decode cX11_showsOne 47 = .ok (.istore 4, 2) := by decide +kernel
theorem dX11_showsOne_49 : decode cX11_showsOne 49 = .ok (.iconst 0, 1) := by decide +kernel
theorem dX11_showsOne_50 : decode cX11_showsOne 50 = .ok (.aload_n 0, 1) := by decide +kernel
theorem dX11_showsOne_51 : decode cX11_showsOne 51 = .ok (.getfield 35, 3) := by decide +kernel
theorem dX11_showsOne_54 : decode cX11_showsOne 54 = .ok (.sipush 152, 3) := by decide +kernel
theorem dX11_showsOne_57 : decode cX11_showsOne 57 = .ok (.iload_n 1, 1) := by decide +kernel
theorem dX11_showsOne_58 : decode cX11_showsOne 58 = .ok (.iadd, 1) := by decide +kernel
theorem dX11_showsOne_59 : decode cX11_showsOne 59 = .ok (.iaload, 1) := by decide +kernel
theorem dX11_showsOne_60 : decode cX11_showsOne 60 = .ok (.invokestatic 364, 3) := by decide +kernel
theorem dX11_showsOne_63 : decode cX11_showsOne 63 = .ok (.aload_n 0, 1) := by decide +kernel
theorem dX11_showsOne_64 : decode cX11_showsOne 64 = .ok (.getfield 35, 3) := by decide +kernel
theorem dX11_showsOne_67 : decode cX11_showsOne 67 = .ok (.bipush 22, 2) := by decide +kernel
theorem dX11_showsOne_69 : decode cX11_showsOne 69 = .ok (.iload_n 3, 1) := by decide +kernel
theorem dX11_showsOne_70 : decode cX11_showsOne 70 = .ok (.iadd, 1) := by decide +kernel
theorem dX11_showsOne_71 : decode cX11_showsOne 71 = .ok (.iaload, 1) := by decide +kernel
theorem dX11_showsOne_72 : decode cX11_showsOne 72 = .ok (.isub, 1) := by decide +kernel
theorem dX11_showsOne_73 : decode cX11_showsOne 73 = .ok (.invokestatic 264, 3) := by decide +kernel
theorem dX11_showsOne_76 : decode cX11_showsOne 76 = .ok (.istore 5, 2) := by decide +kernel
theorem dX11_showsOne_78 : decode cX11_showsOne 78 = .ok (.aload_n 0, 1) := by decide +kernel
theorem dX11_showsOne_79 : decode cX11_showsOne 79 = .ok (.getfield 35, 3) := by decide +kernel
theorem dX11_showsOne_82 : decode cX11_showsOne 82 = .ok (.bipush 42, 2) := by decide +kernel
theorem dX11_showsOne_84 : decode cX11_showsOne 84 = .ok (.iload_n 3, 1) := by decide +kernel
theorem dX11_showsOne_85 : decode cX11_showsOne 85 = .ok (.iadd, 1) := by decide +kernel
theorem dX11_showsOne_86 : decode cX11_showsOne 86 = .ok (.iload 4, 2) := by decide +kernel
theorem dX11_showsOne_88 : decode cX11_showsOne 88 = .ok (.aload_n 0, 1) := by decide +kernel
theorem dX11_showsOne_89 : decode cX11_showsOne 89 = .ok (.getfield 35, 3) := by decide +kernel
theorem dX11_showsOne_92 : decode cX11_showsOne 92 = .ok (.sipush 152, 3) := by decide +kernel
theorem dX11_showsOne_95 : decode cX11_showsOne 95 = .ok (.iload_n 1, 1) := by decide +kernel
theorem dX11_showsOne_96 : decode cX11_showsOne 96 = .ok (.iadd, 1) := by decide +kernel
theorem dX11_showsOne_97 : decode cX11_showsOne 97 = .ok (.iaload, 1) := by decide +kernel
theorem dX11_showsOne_98 : decode cX11_showsOne 98 = .ok (.ifCond .ge 9, 3) := by decide +kernel
theorem dX11_showsOne_101 : decode cX11_showsOne 101 = .ok (.iload 5, 2) := by decide +kernel
theorem dX11_showsOne_103 : decode cX11_showsOne 103 = .ok (.ineg, 1) := by decide +kernel
theorem dX11_showsOne_104 : decode cX11_showsOne 104 = .ok (.goto 5, 3) := by decide +kernel
theorem dX11_showsOne_107 : decode cX11_showsOne 107 = .ok (.iload 5, 2) := by decide +kernel
theorem dX11_showsOne_109 : decode cX11_showsOne 109 = .ok (.iadd, 1) := by decide +kernel
theorem dX11_showsOne_110 : decode cX11_showsOne 110 = .ok (.invokestatic 366, 3) := by decide +kernel
theorem dX11_showsOne_113 : decode cX11_showsOne 113 = .ok (.iastore, 1) := by decide +kernel
theorem dX11_showsOne_114 : decode cX11_showsOne 114 = .ok (.iload_n 2, 1) := by decide +kernel
theorem dX11_showsOne_115 : decode cX11_showsOne 115 = .ok (.aload_n 0, 1) := by decide +kernel
theorem dX11_showsOne_116 : decode cX11_showsOne 116 = .ok (.getfield 35, 3) := by decide +kernel
theorem dX11_showsOne_119 : decode cX11_showsOne 119 = .ok (.bipush 42, 2) := by decide +kernel
theorem dX11_showsOne_121 : decode cX11_showsOne 121 = .ok (.iload_n 3, 1) := by decide +kernel
theorem dX11_showsOne_122 : decode cX11_showsOne 122 = .ok (.iadd, 1) := by decide +kernel
theorem dX11_showsOne_123 : decode cX11_showsOne 123 = .ok (.iaload, 1) := by decide +kernel
theorem dX11_showsOne_124 : decode cX11_showsOne 124 = .ok (.iload 4, 2) := by decide +kernel
theorem dX11_showsOne_126 : decode cX11_showsOne 126 = .ok (.if_icmp .ne 7, 3) := by decide +kernel
theorem dX11_showsOne_129 : decode cX11_showsOne 129 = .ok (.iconst 0, 1) := by decide +kernel
theorem dX11_showsOne_130 : decode cX11_showsOne 130 = .ok (.goto 4, 3) := by decide +kernel
theorem dX11_showsOne_133 : decode cX11_showsOne 133 = .ok (.iconst 1, 1) := by decide +kernel
theorem dX11_showsOne_134 : decode cX11_showsOne 134 = .ok (.iadd, 1) := by decide +kernel
theorem dX11_showsOne_135 : decode cX11_showsOne 135 = .ok (.istore_n 2, 1) := by decide +kernel
theorem dX11_showsOne_136 : decode cX11_showsOne 136 = .ok (.iinc 3 1, 3) := by decide +kernel
theorem dX11_showsOne_139 : decode cX11_showsOne 139 = .ok (.goto (-122), 3) := by decide +kernel
theorem dX11_showsOne_142 : decode cX11_showsOne 142 = .ok (.iload_n 2, 1) := by decide +kernel
theorem dX11_showsOne_143 : decode cX11_showsOne 143 = .ok (.ireturn, 1) := by decide +kernel
theorem dX11_show_0 : decode cX11_show 0 = .ok (.aload_n 0, 1) := by decide +kernel
theorem dX11_show_1 : decode cX11_show 1 = .ok (.iconst 0, 1) := by decide +kernel
theorem dX11_show_2 : decode cX11_show 2 = .ok (.putfield 71, 3) := by decide +kernel
theorem dX11_show_5 : decode cX11_show 5 = .ok (.aload_n 0, 1) := by decide +kernel
theorem dX11_show_6 : decode cX11_show 6 = .ok (.iconst 0, 1) := by decide +kernel
theorem dX11_show_7 : decode cX11_show 7 = .ok (.putfield 74, 3) := by decide +kernel
theorem dX11_show_10 : decode cX11_show 10 = .ok (.iload_n 1, 1) := by decide +kernel
theorem dX11_show_11 : decode cX11_show 11 = .ok (.i2l, 1) := by decide +kernel
theorem dX11_show_12 : decode cX11_show 12 = .ok (.lconst 0, 1) := by decide +kernel
theorem dX11_show_13 : decode cX11_show 13 = .ok (.aload_n 0, 1) := by decide +kernel
theorem dX11_show_14 : decode cX11_show 14 = .ok (.getfield 35, 3) := by decide +kernel
theorem dX11_show_17 : decode cX11_show 17 = .ok (.iconst 1, 1) := by decide +kernel
theorem dX11_show_18 : decode cX11_show 18 = .ok (.iaload, 1) := by decide +kernel
theorem dX11_show_19 : decode cX11_show 19 = .ok (.iconst 1, 1) := by decide +kernel
theorem dX11_show_20 : decode cX11_show 20 = .ok (.isub, 1) := by decide +kernel
theorem dX11_show_21 : decode cX11_show 21 = .ok (.i2l, 1) := by decide +kernel
theorem dX11_show_22 : decode cX11_show 22 = .ok (.invokestatic 106, 3) := by decide +kernel
theorem dX11_show_25 : decode cX11_show 25 = .ok (.ifCond .ne 9, 3) := by decide +kernel
theorem dX11_show_28 : decode cX11_show 28 = .ok (.aload_n 0, 1) := by decide +kernel
theorem dX11_show_29 : decode cX11_show 29 = .ok (.iconst 2, 1) := by decide +kernel
theorem dX11_show_30 : decode cX11_show 30 = .ok (.invokevirtual 340, 3) := by decide +kernel
theorem dX11_show_33 : decode cX11_show 33 = .ok (.ireturn, 1) := by decide +kernel
theorem dX11_show_34 : decode cX11_show 34 = .ok (.aload_n 0, 1) := by decide +kernel
theorem dX11_show_35 : decode cX11_show 35 = .ok (.getfield 35, 3) := by decide +kernel
theorem dX11_show_38 : decode cX11_show 38 = .ok (.bipush 11, 2) := by decide +kernel
theorem dX11_show_40 : decode cX11_show 40 = .ok (.iaload, 1) := by decide +kernel
theorem dX11_show_41 : decode cX11_show 41 = .ok (.iload_n 1, 1) := by decide +kernel
theorem dX11_show_42 : decode cX11_show 42 = .ok (.invokestatic 110, 3) := by decide +kernel
theorem dX11_show_45 : decode cX11_show 45 = .ok (.ifCond .eq 12, 3) := by decide +kernel
theorem dX11_show_48 : decode cX11_show 48 = .ok (.aload_n 0, 1) := by decide +kernel
theorem dX11_show_49 : decode cX11_show 49 = .ok (.bipush 9, 2) := by decide +kernel
theorem dX11_show_51 : decode cX11_show 51 = .ok (.invokevirtual 340, 3) := by decide +kernel
theorem dX11_show_54 : decode cX11_show 54 = .ok (.goto 8, 3) := by decide +kernel
theorem dX11_show_57 : decode cX11_show 57 = .ok (.aload_n 0, 1) := by decide +kernel
theorem dX11_show_58 : decode cX11_show 58 = .ok (.iload_n 1, 1) := by decide +kernel
theorem dX11_show_59 : decode cX11_show 59 = .ok (.invokevirtual 368, 3) := by decide +kernel
theorem dX11_show_62 : decode cX11_show 62 = .ok (.ireturn, 1) := by decide +kernel
theorem dX11_pulled_0 : decode cX11_pulled 0 = .ok (.iconst 0, 1) := by decide +kernel
theorem dX11_pulled_1 : decode cX11_pulled 1 = .ok (.istore_n 2, 1) := by decide +kernel
theorem dX11_pulled_2 : decode cX11_pulled 2 = .ok (.iconst 0, 1) := by decide +kernel
theorem dX11_pulled_3 : decode cX11_pulled 3 = .ok (.istore_n 3, 1) := by decide +kernel
theorem dX11_pulled_4 : decode cX11_pulled 4 = .ok (.iload_n 3, 1) := by decide +kernel
theorem dX11_pulled_5 : decode cX11_pulled 5 = .ok (.aload_n 0, 1) := by decide +kernel
theorem dX11_pulled_6 : decode cX11_pulled 6 = .ok (.getfield 35, 3) := by decide +kernel
theorem dX11_pulled_9 : decode cX11_pulled 9 = .ok (.iconst 0, 1) := by decide +kernel
theorem dX11_pulled_10 : decode cX11_pulled 10 = .ok (.iaload, 1) := by decide +kernel
theorem dX11_pulled_11 : decode cX11_pulled 11 = .ok (.if_icmp .ge 84, 3) := by decide +kernel
theorem dX11_pulled_14 : decode cX11_pulled 14 = .ok (.iload_n 3, 1) := by decide +kernel
theorem dX11_pulled_15 : decode cX11_pulled 15 = .ok (.iload_n 1, 1) := by decide +kernel
theorem dX11_pulled_16 : decode cX11_pulled 16 = .ok (.if_icmp .eq 73, 3) := by decide +kernel
theorem dX11_pulled_19 : decode cX11_pulled 19 = .ok (.aload_n 0, 1) := by decide +kernel
theorem dX11_pulled_20 : decode cX11_pulled 20 = .ok (.iload_n 3, 1) := by decide +kernel
theorem dX11_pulled_21 : decode cX11_pulled 21 = .ok (.invokevirtual 361, 3) := by decide +kernel
theorem dX11_pulled_24 : decode cX11_pulled 24 = .ok (.ifCond .eq 65, 3) := by decide +kernel
theorem dX11_pulled_27 : decode cX11_pulled 27 = .ok (.aload_n 0, 1) := by decide +kernel
theorem dX11_pulled_28 : decode cX11_pulled 28 = .ok (.getfield 35, 3) := by decide +kernel
theorem dX11_pulled_31 : decode cX11_pulled 31 = .ok (.bipush 42, 2) := by decide +kernel
theorem dX11_pulled_33 : decode cX11_pulled 33 = .ok (.iload_n 3, 1) := by decide +kernel
theorem dX11_pulled_34 : decode cX11_pulled 34 = .ok (.iadd, 1) := by decide +kernel
theorem dX11_pulled_35 : decode cX11_pulled 35 = .ok (.iaload, 1) := by decide +kernel
theorem dX11_pulled_36 : decode cX11_pulled 36 = .ok (.ifCond .ne 6, 3) := by decide +kernel
theorem dX11_pulled_39 : decode cX11_pulled 39 = .ok (.goto 50, 3) := by decide +kernel
theorem dX11_pulled_42 : decode cX11_pulled 42 = .ok (.iload_n 2, 1) := by decide +kernel
theorem dX11_pulled_43 : decode cX11_pulled 43 = .ok (.aload_n 0, 1) := by decide +kernel
theorem dX11_pulled_44 : decode cX11_pulled 44 = .ok (.getfield 35, 3) := by decide +kernel
