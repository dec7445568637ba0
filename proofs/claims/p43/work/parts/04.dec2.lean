theorem dX4_readSingle_249 : decode cX4_readSingle 249 = .ok (.invokevirtual 89, 3) := by decide +kernel
theorem dX4_readSingle_252 : decode cX4_readSingle 252 = .ok (.goto 4, 3) := by decide +kernel
theorem dX4_readSingle_255 : decode cX4_readSingle 255 = .ok (.iconst (-1), 1) := by decide +kernel
theorem dX4_readSingle_256 : decode cX4_readSingle 256 = .ok (.istore 5, 2) := by decide +kernel
theorem dX4_readSingle_258 : decode cX4_readSingle 258 = .ok (.aload_n 0, 1) := by decide +kernel
theorem dX4_readSingle_259 : decode cX4_readSingle 259 = .ok (.getfield 22, 3) := by decide +kernel
theorem dX4_readSingle_262 : decode cX4_readSingle 262 = .ok (.sipush 321, 3) := by decide +kernel
theorem dX4_readSingle_265 : decode cX4_readSingle 265 = .ok (.iload 4, 2) := by decide +kernel
theorem dX4_readSingle_267 : decode cX4_readSingle 267 = .ok (.iload 5, 2) := by decide +kernel
theorem dX4_readSingle_269 : decode cX4_readSingle 269 = .ok (.invokevirtual 126, 3) := by decide +kernel
theorem dX4_readSingle_272 : decode cX4_readSingle 272 = .ok (.iload 5, 2) := by decide +kernel
theorem dX4_readSingle_274 : decode cX4_readSingle 274 = .ok (.ifCond .lt 7, 3) := by decide +kernel
theorem dX4_readSingle_277 : decode cX4_readSingle 277 = .ok (.iconst 1, 1) := by decide +kernel
theorem dX4_readSingle_278 : decode cX4_readSingle 278 = .ok (.goto 4, 3) := by decide +kernel
theorem dX4_readSingle_281 : decode cX4_readSingle 281 = .ok (.iconst 0, 1) := by decide +kernel
theorem dX4_readSingle_282 : decode cX4_readSingle 282 = .ok (.ireturn, 1) := by decide +kernel
theorem dX4_readSingle_283 : decode cX4_readSingle 283 = .ok (.aload_n 0, 1) := by decide +kernel
theorem dX4_readSingle_284 : decode cX4_readSingle 284 = .ok (.iload_n 1, 1) := by decide +kernel
theorem dX4_readSingle_285 : decode cX4_readSingle 285 = .ok (.invokevirtual 136, 3) := by decide +kernel
theorem dX4_readSingle_288 : decode cX4_readSingle 288 = .ok (.ifCond .ne 5, 3) := by decide +kernel
theorem dX4_readSingle_291 : decode cX4_readSingle 291 = .ok (.iconst 0, 1) := by decide +kernel
theorem dX4_readSingle_292 : decode cX4_readSingle 292 = .ok (.ireturn, 1) := by decide +kernel
theorem dX4_readSingle_293 : decode cX4_readSingle 293 = .ok (.aload_n 0, 1) := by decide +kernel
theorem dX4_readSingle_294 : decode cX4_readSingle 294 = .ok (.getfield 18, 3) := by decide +kernel
theorem dX4_readSingle_297 : decode cX4_readSingle 297 = .ok (.aload_n 0, 1) := by decide +kernel
theorem dX4_readSingle_298 : decode cX4_readSingle 298 = .ok (.getfield 26, 3) := by decide +kernel
theorem dX4_readSingle_301 : decode cX4_readSingle 301 = .ok (.invokevirtual 58, 3) := by decide +kernel
theorem dX4_readSingle_304 : decode cX4_readSingle 304 = .ok (.istore 6, 2) := by decide +kernel
theorem dX4_readSingle_306 : decode cX4_readSingle 306 = .ok (.iload 6, 2) := by decide +kernel
theorem dX4_readSingle_308 : decode cX4_readSingle 308 = .ok (.invokestatic 139, 3) := by decide +kernel
theorem dX4_readSingle_311 : decode cX4_readSingle 311 = .ok (.ifCond .ne 5, 3) := by decide +kernel
theorem dX4_readSingle_314 : decode cX4_readSingle 314 = .ok (.iconst 0, 1) := by decide +kernel
theorem dX4_readSingle_315 : decode cX4_readSingle 315 = .ok (.ireturn, 1) := by decide +kernel
theorem dX4_readSingle_316 : decode cX4_readSingle 316 = .ok (.aload_n 0, 1) := by decide +kernel
theorem dX4_readSingle_317 : decode cX4_readSingle 317 = .ok (.dup, 1) := by decide +kernel
theorem dX4_readSingle_318 : decode cX4_readSingle 318 = .ok (.getfield 26, 3) := by decide +kernel
theorem dX4_readSingle_321 : decode cX4_readSingle 321 = .ok (.iconst 1, 1) := by decide +kernel
theorem dX4_readSingle_322 : decode cX4_readSingle 322 = .ok (.iadd, 1) := by decide +kernel
theorem dX4_readSingle_323 : decode cX4_readSingle 323 = .ok (.putfield 26, 3) := by decide +kernel
theorem dX4_readSingle_326 : decode cX4_readSingle 326 = .ok (.aload_n 0, 1) := by decide +kernel
theorem dX4_readSingle_327 : decode cX4_readSingle 327 = .ok (.iload_n 1, 1) := by decide +kernel
theorem dX4_readSingle_328 : decode cX4_readSingle 328 = .ok (.invokevirtual 136, 3) := by decide +kernel
theorem dX4_readSingle_331 : decode cX4_readSingle 331 = .ok (.ifCond .ne 5, 3) := by decide +kernel
theorem dX4_readSingle_334 : decode cX4_readSingle 334 = .ok (.iconst 0, 1) := by decide +kernel
theorem dX4_readSingle_335 : decode cX4_readSingle 335 = .ok (.ireturn, 1) := by decide +kernel
theorem dX4_readSingle_336 : decode cX4_readSingle 336 = .ok (.aload_n 0, 1) := by decide +kernel
theorem dX4_readSingle_337 : decode cX4_readSingle 337 = .ok (.getfield 22, 3) := by decide +kernel
theorem dX4_readSingle_340 : decode cX4_readSingle 340 = .ok (.iload 6, 2) := by decide +kernel
theorem dX4_readSingle_342 : decode cX4_readSingle 342 = .ok (.iconst 0, 1) := by decide +kernel
theorem dX4_readSingle_343 : decode cX4_readSingle 343 = .ok (.iconst 0, 1) := by decide +kernel
theorem dX4_readSingle_344 : decode cX4_readSingle 344 = .ok (.invokevirtual 126, 3) := by decide +kernel
theorem dX4_readSingle_347 : decode cX4_readSingle 347 = .ok (.iconst 1, 1) := by decide +kernel
theorem dX4_readSingle_348 : decode cX4_readSingle 348 = .ok (.ireturn, 1) := by decide +kernel
theorem dX4_isComparison_0 : decode cX4_isComparison 0 = .ok (.iload_n 0, 1) := by decide +kernel
theorem dX4_isComparison_1 : decode cX4_isComparison 1 = .ok (.bipush 60, 2) := by decide +kernel
theorem dX4_isComparison_3 : decode cX4_isComparison 3 = .ok (.if_icmp .eq 29, 3) := by decide +kernel
theorem dX4_isComparison_6 : decode cX4_isComparison 6 = .ok (.iload_n 0, 1) := by decide +kernel
theorem dX4_isComparison_7 : decode cX4_isComparison 7 = .ok (.bipush 62, 2) := by decide +kernel
theorem dX4_isComparison_9 : decode cX4_isComparison 9 = .ok (.if_icmp .eq 23, 3) := by decide +kernel
theorem dX4_isComparison_12 : decode cX4_isComparison 12 = .ok (.iload_n 0, 1) := by decide +kernel
theorem dX4_isComparison_13 : decode cX4_isComparison 13 = .ok (.bipush 61, 2) := by decide +kernel
theorem dX4_isComparison_15 : decode cX4_isComparison 15 = .ok (.if_icmp .eq 17, 3) := by decide +kernel
theorem dX4_isComparison_18 : decode cX4_isComparison 18 = .ok (.iload_n 0, 1) := by decide +kernel
theorem dX4_isComparison_19 : decode cX4_isComparison 19 = .ok (.sipush 256, 3) := by decide +kernel
theorem dX4_isComparison_22 : decode cX4_isComparison 22 = .ok (.if_icmp .eq 10, 3) := by decide +kernel
theorem dX4_isComparison_25 : decode cX4_isComparison 25 = .ok (.iload_n 0, 1) := by decide +kernel
theorem dX4_isComparison_26 : decode cX4_isComparison 26 = .ok (.sipush 257, 3) := by decide +kernel
theorem dX4_isComparison_29 : decode cX4_isComparison 29 = .ok (.if_icmp .ne 7, 3) := by decide +kernel
theorem dX4_isComparison_32 : decode cX4_isComparison 32 = .ok (.iconst 1, 1) := by decide +kernel
theorem dX4_isComparison_33 : decode cX4_isComparison 33 = .ok (.goto 4, 3) := by decide +kernel
theorem dX4_isComparison_36 : decode cX4_isComparison 36 = .ok (.iconst 0, 1) := by decide +kernel
theorem dX4_isComparison_37 : decode cX4_isComparison 37 = .ok (.ireturn, 1) := by decide +kernel
theorem dX4_readSum_0 : decode cX4_readSum 0 = .ok (.aload_n 0, 1) := by decide +kernel
theorem dX4_readSum_1 : decode cX4_readSum 1 = .ok (.iload_n 1, 1) := by decide +kernel
theorem dX4_readSum_2 : decode cX4_readSum 2 = .ok (.invokevirtual 142, 3) := by decide +kernel
theorem dX4_readSum_5 : decode cX4_readSum 5 = .ok (.ifCond .ne 5, 3) := by decide +kernel
theorem dX4_readSum_8 : decode cX4_readSum 8 = .ok (.iconst 0, 1) := by decide +kernel
theorem dX4_readSum_9 : decode cX4_readSum 9 = .ok (.ireturn, 1) := by decide +kernel
theorem dX4_readSum_10 : decode cX4_readSum 10 = .ok (.iconst 0, 1) := by decide +kernel
theorem dX4_readSum_11 : decode cX4_readSum 11 = .ok (.istore_n 2, 1) := by decide +kernel
theorem dX4_readSum_12 : decode cX4_readSum 12 = .ok (.iload_n 2, 1) := by decide +kernel
theorem dX4_readSum_13 : decode cX4_readSum 13 = .ok (.sipush 400, 3) := by decide +kernel
theorem dX4_readSum_16 : decode cX4_readSum 16 = .ok (.if_icmp .ge 69, 3) := by decide +kernel
theorem dX4_readSum_19 : decode cX4_readSum 19 = .ok (.aload_n 0, 1) := by decide +kernel
theorem dX4_readSum_20 : decode cX4_readSum 20 = .ok (.bipush 43, 2) := by decide +kernel
theorem dX4_readSum_22 : decode cX4_readSum 22 = .ok (.invokevirtual 38, 3) := by decide +kernel
theorem dX4_readSum_25 : decode cX4_readSum 25 = .ok (.ifCond .ne 12, 3) := by decide +kernel
theorem dX4_readSum_28 : decode cX4_readSum 28 = .ok (.aload_n 0, 1) := by decide +kernel
theorem dX4_readSum_29 : decode cX4_readSum 29 = .ok (.bipush 45, 2) := by decide +kernel
theorem dX4_readSum_31 : decode cX4_readSum 31 = .ok (.invokevirtual 38, 3) := by decide +kernel
theorem dX4_readSum_34 : decode cX4_readSum 34 = .ok (.ifCond .eq 51, 3) := by decide +kernel
theorem dX4_readSum_37 : decode cX4_readSum 37 = .ok (.aload_n 0, 1) := by decide +kernel
theorem dX4_readSum_38 : decode cX4_readSum 38 = .ok (.getfield 18, 3) := by decide +kernel
theorem dX4_readSum_41 : decode cX4_readSum 41 = .ok (.aload_n 0, 1) := by decide +kernel
theorem dX4_readSum_42 : decode cX4_readSum 42 = .ok (.getfield 26, 3) := by decide +kernel
theorem dX4_readSum_45 : decode cX4_readSum 45 = .ok (.invokevirtual 58, 3) := by decide +kernel
theorem dX4_readSum_48 : decode cX4_readSum 48 = .ok (.istore_n 3, 1) := by decide +kernel
theorem dX4_readSum_49 : decode cX4_readSum 49 = .ok (.aload_n 0, 1) := by decide +kernel
theorem dX4_readSum_50 : decode cX4_readSum 50 = .ok (.dup, 1) := by decide +kernel
theorem dX4_readSum_51 : decode cX4_readSum 51 = .ok (.getfield 26, 3) := by decide +kernel
theorem dX4_readSum_54 : decode cX4_readSum 54 = .ok (.iconst 1, 1) := by decide +kernel
theorem dX4_readSum_55 : decode cX4_readSum 55 = .ok (.iadd, 1) := by decide +kernel
theorem dX4_readSum_56 : decode cX4_readSum 56 = .ok (.putfield 26, 3) := by decide +kernel
theorem dX4_readSum_59 : decode cX4_readSum 59 = .ok (.aload_n 0, 1) := by decide +kernel
theorem dX4_readSum_60 : decode cX4_readSum 60 = .ok (.iload_n 1, 1) := by decide +kernel
theorem dX4_readSum_61 : decode cX4_readSum 61 = .ok (.invokevirtual 142, 3) := by decide +kernel
theorem dX4_readSum_64 : decode cX4_readSum 64 = .ok (.ifCond .ne 5, 3) := by decide +kernel
theorem dX4_readSum_67 : decode cX4_readSum 67 = .ok (.iconst 0, 1) := by decide +kernel
theorem dX4_readSum_68 : decode cX4_readSum 68 = .ok (.ireturn, 1) := by decide +kernel
theorem dX4_readSum_69 : decode cX4_readSum 69 = .ok (.aload_n 0, 1) := by decide +kernel
theorem dX4_readSum_70 : decode cX4_readSum 70 = .ok (.getfield 22, 3) := by decide +kernel
theorem dX4_readSum_73 : decode cX4_readSum 73 = .ok (.iload_n 3, 1) := by decide +kernel
theorem dX4_readSum_74 : decode cX4_readSum 74 = .ok (.iconst 0, 1) := by decide +kernel
theorem dX4_readSum_75 : decode cX4_readSum 75 = .ok (.iconst 0, 1) := by decide +kernel
theorem dX4_readSum_76 : decode cX4_readSum 76 = .ok (.invokevirtual 126, 3) := by decide +kernel
theorem dX4_readSum_79 : decode cX4_readSum 79 = .ok (.iinc 2 1, 3) := by decide +kernel
theorem dX4_readSum_82 : decode cX4_readSum 82 = .ok (.goto (-70), 3) := by decide +kernel
theorem dX4_readSum_85 : decode cX4_readSum 85 = .ok (.iconst 1, 1) := by decide +kernel
theorem dX4_readSum_86 : decode cX4_readSum 86 = .ok (.ireturn, 1) := by decide +kernel
theorem dX4_readProduct_0 : decode cX4_readProduct 0 = .ok (.aload_n 0, 1) := by decide +kernel
theorem dX4_readProduct_1 : decode cX4_readProduct 1 = .ok (.iload_n 1, 1) := by decide +kernel
theorem dX4_readProduct_2 : decode cX4_readProduct 2 = .ok (.invokevirtual 145, 3) := by decide +kernel
theorem dX4_readProduct_5 : decode cX4_readProduct 5 = .ok (.ifCond .ne 5, 3) := by decide +kernel
theorem dX4_readProduct_8 : decode cX4_readProduct 8 = .ok (.iconst 0, 1) := by decide +kernel
theorem dX4_readProduct_9 : decode cX4_readProduct 9 = .ok (.ireturn, 1) := by decide +kernel
theorem dX4_readProduct_10 : decode cX4_readProduct 10 = .ok (.iconst 0, 1) := by decide +kernel
theorem dX4_readProduct_11 : decode cX4_readProduct 11 = .ok (.istore_n 2, 1) := by decide +kernel
theorem dX4_readProduct_12 : decode cX4_readProduct 12 = .ok (.iload_n 2, 1) := by decide +kernel
theorem dX4_readProduct_13 : decode cX4_readProduct 13 = .ok (.sipush 400, 3) := by decide +kernel
theorem dX4_readProduct_16 : decode cX4_readProduct 16 = .ok (.if_icmp .ge 69, 3) := by decide +kernel
theorem dX4_readProduct_19 : decode cX4_readProduct 19 = .ok (.aload_n 0, 1) := by decide +kernel
theorem dX4_readProduct_20 : decode cX4_readProduct 20 = .ok (.bipush 42, 2) := by decide +kernel
theorem dX4_readProduct_22 : decode cX4_readProduct 22 = .ok (.invokevirtual 38, 3) := by decide +kernel
theorem dX4_readProduct_25 : decode cX4_readProduct 25 = .ok (.ifCond .ne 12, 3) := by decide +kernel
theorem dX4_readProduct_28 : decode cX4_readProduct 28 = .ok (.aload_n 0, 1) := by decide +kernel
theorem dX4_readProduct_29 : decode cX4_readProduct 29 = .ok (.bipush 47, 2) := by decide +kernel
theorem dX4_readProduct_31 : decode cX4_readProduct 31 = .ok (.invokevirtual 38, 3) := by decide +kernel
theorem dX4_readProduct_34 : decode cX4_readProduct 34 = .ok (.ifCond .eq 51, 3) := by decide +kernel
theorem dX4_readProduct_37 : decode cX4_readProduct 37 = .ok (.aload_n 0, 1) := by decide +kernel
theorem dX4_readProduct_38 : decode cX4_readProduct 38 = .ok (.getfield 18, 3) := by decide +kernel
theorem dX4_readProduct_41 : decode cX4_readProduct 41 = .ok (.aload_n 0, 1) := by decide +kernel
theorem dX4_readProduct_42 : decode cX4_readProduct 42 = .ok (.getfield 26, 3) := by decide +kernel
theorem dX4_readProduct_45 : decode cX4_readProduct 45 = .ok (.invokevirtual 58, 3) := by decide +kernel
theorem dX4_readProduct_48 : decode cX4_readProduct 48 = .ok (.istore_n 3, 1) := by decide +kernel
theorem dX4_readProduct_49 : decode cX4_readProduct 49 = .ok (.aload_n 0, 1) := by decide +kernel
theorem dX4_readProduct_50 : decode cX4_readProduct 50 = .ok (.dup, 1) := by decide +kernel
theorem dX4_readProduct_51 : decode cX4_readProduct 51 = .ok (.getfield 26, 3) := by decide +kernel
theorem dX4_readProduct_54 : decode cX4_readProduct 54 = .ok (.iconst 1, 1) := by decide +kernel
theorem dX4_readProduct_55 : decode cX4_readProduct 55 = .ok (.iadd, 1) := by decide +kernel
theorem dX4_readProduct_56 : decode cX4_readProduct 56 = .ok (.putfield 26, 3) := by decide +kernel
theorem dX4_readProduct_59 : decode cX4_readProduct 59 = .ok (.aload_n 0, 1) := by decide +kernel
theorem dX4_readProduct_60 : decode cX4_readProduct 60 = .ok (.iload_n 1, 1) := by decide +kernel
theorem dX4_readProduct_61 : decode cX4_readProduct 61 = .ok (.invokevirtual 145, 3) := by decide +kernel
theorem dX4_readProduct_64 : decode cX4_readProduct 64 = .ok (.ifCond .ne 5, 3) := by decide +kernel
theorem dX4_readProduct_67 : decode cX4_readProduct 67 = .ok (.iconst 0, 1) := by decide +kernel
theorem dX4_readProduct_68 : decode cX4_readProduct 68 = .ok (.ireturn, 1) := by decide +kernel
theorem dX4_readProduct_69 : decode cX4_readProduct 69 = .ok (.aload_n 0, 1) := by decide +kernel
theorem dX4_readProduct_70 : decode cX4_readProduct 70 = .ok (.getfield 22, 3) := by decide +kernel
theorem dX4_readProduct_73 : decode cX4_readProduct 73 = .ok (.iload_n 3, 1) := by decide +kernel
theorem dX4_readProduct_74 : decode cX4_readProduct 74 = .ok (.iconst 0, 1) := by decide +kernel
theorem dX4_readProduct_75 : decode cX4_readProduct 75 = .ok (.iconst 0, 1) := by decide +kernel
theorem dX4_readProduct_76 : decode cX4_readProduct 76 = .ok (.invokevirtual 126, 3) := by decide +kernel
theorem dX4_readProduct_79 : decode cX4_readProduct 79 = .ok (.iinc 2 1, 3) := by decide +kernel
theorem dX4_readProduct_82 : decode cX4_readProduct 82 = .ok (.goto (-70), 3) := by decide +kernel
theorem dX4_readProduct_85 : decode cX4_readProduct 85 = .ok (.iconst 1, 1) := by decide +kernel
theorem dX4_readProduct_86 : decode cX4_readProduct 86 = .ok (.ireturn, 1) := by decide +kernel
theorem dX4_readValue_0 : decode cX4_readValue 0 = .ok (.aload_n 0, 1) := by decide +kernel
theorem dX4_readValue_1 : decode cX4_readValue 1 = .ok (.getfield 18, 3) := by decide +kernel
theorem dX4_readValue_4 : decode cX4_readValue 4 = .ok (.aload_n 0, 1) := by decide +kernel
theorem dX4_readValue_5 : decode cX4_readValue 5 = .ok (.getfield 26, 3) := by decide +kernel
theorem dX4_readValue_8 : decode cX4_readValue 8 = .ok (.invokevirtual 58, 3) := by decide +kernel
theorem dX4_readValue_11 : decode cX4_readValue 11 = .ok (.istore_n 2, 1) := by decide +kernel
theorem dX4_readValue_12 : decode cX4_readValue 12 = .ok (.iload_n 2, 1) := by decide +kernel
theorem dX4_readValue_13 : decode cX4_readValue 13 = .ok (.lookupswitch 259 #[(40, 152), (45, 116), (259, 83), (315, 83), (316, 83), (317, 83), (318, 83), (325, 187), (326, 187)], 83) := by decide +kernel
theorem dX4_readValue_96 : decode cX4_readValue 96 = .ok (.aload_n 0, 1) := by decide +kernel
theorem dX4_readValue_97 : decode cX4_readValue 97 = .ok (.getfield 22, 3) := by decide +kernel
theorem dX4_readValue_100 : decode cX4_readValue 100 = .ok (.iload_n 2, 1) := by decide +kernel
theorem dX4_readValue_101 : decode cX4_readValue 101 = .ok (.aload_n 0, 1) := by decide +kernel
theorem dX4_readValue_102 : decode cX4_readValue 102 = .ok (.getfield 18, 3) := by decide +kernel
theorem dX4_readValue_105 : decode cX4_readValue 105 = .ok (.aload_n 0, 1) := by decide +kernel
theorem dX4_readValue_106 : decode cX4_readValue 106 = .ok (.getfield 26, 3) := by decide +kernel
theorem dX4_readValue_109 : decode cX4_readValue 109 = .ok (.invokevirtual 71, 3) := by decide +kernel
theorem dX4_readValue_112 : decode cX4_readValue 112 = .ok (.l2i, 1) := by decide +kernel
theorem dX4_readValue_113 : decode cX4_readValue 113 = .ok (.iconst 0, 1) := by decide +kernel
theorem dX4_readValue_114 : decode cX4_readValue 114 = .ok (.invokevirtual 126, 3) := by decide +kernel
theorem dX4_readValue_117 : decode cX4_readValue 117 = .ok (.aload_n 0, 1) := by decide +kernel
theorem dX4_readValue_118 : decode cX4_readValue 118 = .ok (.dup, 1) := by decide +kernel
theorem dX4_readValue_119 : decode cX4_readValue 119 = .ok (.getfield 26, 3) := by decide +kernel
theorem dX4_readValue_122 : decode cX4_readValue 122 = .ok (.iconst 1, 1) := by decide +kernel
theorem dX4_readValue_123 : decode cX4_readValue 123 = .ok (.iadd, 1) := by decide +kernel
theorem dX4_readValue_124 : decode cX4_readValue 124 = .ok (.putfield 26, 3) := by decide +kernel
theorem dX4_readValue_127 : decode cX4_readValue 127 = .ok (.iconst 1, 1) := by decide +kernel
theorem dX4_readValue_128 : decode cX4_readValue 128 = .ok (.ireturn, 1) := by decide +kernel
theorem dX4_readValue_129 : decode cX4_readValue 129 = .ok (.aload_n 0, 1) := by decide +kernel
theorem dX4_readValue_130 : decode cX4_readValue 130 = .ok (.bipush 45, 2) := by decide +kernel
theorem dX4_readValue_132 : decode cX4_readValue 132 = .ok (.iload_n 1, 1) := by decide +kernel
theorem dX4_readValue_133 : decode cX4_readValue 133 = .ok (.invokevirtual 132, 3) := by decide +kernel
theorem dX4_readValue_136 : decode cX4_readValue 136 = .ok (.ifCond .eq 13, 3) := by decide +kernel
theorem dX4_readValue_139 : decode cX4_readValue 139 = .ok (.aload_n 0, 1) := by decide +kernel
theorem dX4_readValue_140 : decode cX4_readValue 140 = .ok (.iload_n 1, 1) := by decide +kernel
theorem dX4_readValue_141 : decode cX4_readValue 141 = .ok (.iconst 1, 1) := by decide +kernel
theorem dX4_readValue_142 : decode cX4_readValue 142 = .ok (.iadd, 1) := by decide +kernel
theorem dX4_readValue_143 : decode cX4_readValue 143 = .ok (.invokevirtual 145, 3) := by decide +kernel
theorem dX4_readValue_146 : decode cX4_readValue 146 = .ok (.ifCond .ne 5, 3) := by decide +kernel
theorem dX4_readValue_149 : decode cX4_readValue 149 = .ok (.iconst 0, 1) := by decide +kernel
theorem dX4_readValue_150 : decode cX4_readValue 150 = .ok (.ireturn, 1) := by decide +kernel
theorem dX4_readValue_151 : decode cX4_readValue 151 = .ok (.aload_n 0, 1) := by decide +kernel
theorem dX4_readValue_152 : decode cX4_readValue 152 = .ok (.getfield 22, 3) := by decide +kernel
theorem dX4_readValue_155 : decode cX4_readValue 155 = .ok (.sipush 262, 3) := by decide +kernel
theorem dX4_readValue_158 : decode cX4_readValue 158 = .ok (.iconst 0, 1) := by decide +kernel
theorem dX4_readValue_159 : decode cX4_readValue 159 = .ok (.iconst 0, 1) := by decide +kernel
theorem dX4_readValue_160 : decode cX4_readValue 160 = .ok (.invokevirtual 126, 3) := by decide +kernel
theorem dX4_readValue_163 : decode cX4_readValue 163 = .ok (.iconst 1, 1) := by decide +kernel
theorem dX4_readValue_164 : decode cX4_readValue 164 = .ok (.ireturn, 1) := by decide +kernel
theorem dX4_readValue_165 : decode cX4_readValue 165 = .ok (.aload_n 0, 1) := by decide +kernel
theorem dX4_readValue_166 : decode cX4_readValue 166 = .ok (.bipush 40, 2) := by decide +kernel
theorem dX4_readValue_168 : decode cX4_readValue 168 = .ok (.iload_n 1, 1) := by decide +kernel
theorem dX4_readValue_169 : decode cX4_readValue 169 = .ok (.invokevirtual 132, 3) := by decide +kernel
theorem dX4_readValue_172 : decode cX4_readValue 172 = .ok (.ifCond .eq 26, 3) := by decide +kernel
theorem dX4_readValue_175 : decode cX4_readValue 175 = .ok (.aload_n 0, 1) := by decide +kernel
theorem dX4_readValue_176 : decode cX4_readValue 176 = .ok (.iload_n 1, 1) := by decide +kernel
theorem dX4_readValue_177 : decode cX4_readValue 177 = .ok (.iconst 1, 1) := by decide +kernel
theorem dX4_readValue_178 : decode cX4_readValue 178 = .ok (.iadd, 1) := by decide +kernel
theorem dX4_readValue_179 : decode cX4_readValue 179 = .ok (.invokevirtual 136, 3) := by decide +kernel
theorem dX4_readValue_182 : decode cX4_readValue 182 = .ok (.ifCond .eq 16, 3) := by decide +kernel
theorem dX4_readValue_185 : decode cX4_readValue 185 = .ok (.aload_n 0, 1) := by decide +kernel
theorem dX4_readValue_186 : decode cX4_readValue 186 = .ok (.bipush 41, 2) := by decide +kernel
theorem dX4_readValue_188 : decode cX4_readValue 188 = .ok (.invokevirtual 46, 3) := by decide +kernel
theorem dX4_readValue_191 : decode cX4_readValue 191 = .ok (.ifCond .eq 7, 3) := by decide +kernel
theorem dX4_readValue_194 : decode cX4_readValue 194 = .ok (.iconst 1, 1) := by decide +kernel
theorem dX4_readValue_195 : decode cX4_readValue 195 = .ok (.goto 4, 3) := by decide +kernel
theorem dX4_readValue_198 : decode cX4_readValue 198 = .ok (.iconst 0, 1) := by decide +kernel
theorem dX4_readValue_199 : decode cX4_readValue 199 = .ok (.ireturn, 1) := by decide +kernel
theorem dX4_readValue_200 : decode cX4_readValue 200 = .ok (.aload_n 0, 1) := by decide +kernel
theorem dX4_readValue_201 : decode cX4_readValue 201 = .ok (.dup, 1) := by decide +kernel
theorem dX4_readValue_202 : decode cX4_readValue 202 = .ok (.getfield 26, 3) := by decide +kernel
theorem dX4_readValue_205 : decode cX4_readValue 205 = .ok (.iconst 1, 1) := by decide +kernel
theorem dX4_readValue_206 : decode cX4_readValue 206 = .ok (.iadd, 1) := by decide +kernel
theorem dX4_readValue_207 : decode cX4_readValue 207 = .ok (.putfield 26, 3) := by decide +kernel
theorem dX4_readValue_210 : decode cX4_readValue 210 = .ok (.aload_n 0, 1) := by decide +kernel
theorem dX4_readValue_211 : decode cX4_readValue 211 = .ok (.bipush 40, 2) := by decide +kernel
theorem dX4_readValue_213 : decode cX4_readValue 213 = .ok (.iload_n 1, 1) := by decide +kernel
theorem dX4_readValue_214 : decode cX4_readValue 214 = .ok (.invokevirtual 132, 3) := by decide +kernel
theorem dX4_readValue_217 : decode cX4_readValue 217 = .ok (.ifCond .eq 41, 3) := by decide +kernel
theorem dX4_readValue_220 : decode cX4_readValue 220 = .ok (.aload_n 0, 1) := by decide +kernel
theorem dX4_readValue_221 : decode cX4_readValue 221 = .ok (.iload_n 1, 1) := by decide +kernel
theorem dX4_readValue_222 : decode cX4_readValue 222 = .ok (.iconst 1, 1) := by decide +kernel
theorem dX4_readValue_223 : decode cX4_readValue 223 = .ok (.iadd, 1) := by decide +kernel
theorem dX4_readValue_224 : decode cX4_readValue 224 = .ok (.invokevirtual 136, 3) := by decide +kernel
theorem dX4_readValue_227 : decode cX4_readValue 227 = .ok (.ifCond .eq 31, 3) := by decide +kernel
theorem dX4_readValue_230 : decode cX4_readValue 230 = .ok (.aload_n 0, 1) := by decide +kernel
theorem dX4_readValue_231 : decode cX4_readValue 231 = .ok (.bipush 44, 2) := by decide +kernel
theorem dX4_readValue_233 : decode cX4_readValue 233 = .ok (.invokevirtual 46, 3) := by decide +kernel
theorem dX4_readValue_236 : decode cX4_readValue 236 = .ok (.ifCond .eq 22, 3) := by decide +kernel
theorem dX4_readValue_239 : decode cX4_readValue 239 = .ok (.aload_n 0, 1) := by decide +kernel
theorem dX4_readValue_240 : decode cX4_readValue 240 = .ok (.iload_n 1, 1) := by decide +kernel
theorem dX4_readValue_241 : decode cX4_readValue 241 = .ok (.iconst 1, 1) := by decide +kernel
theorem dX4_readValue_242 : decode cX4_readValue 242 = .ok (.iadd, 1) := by decide +kernel
theorem dX4_readValue_243 : decode cX4_readValue 243 = .ok (.invokevirtual 136, 3) := by decide +kernel
theorem dX4_readValue_246 : decode cX4_readValue 246 = .ok (.ifCond .eq 12, 3) := by decide +kernel
theorem dX4_readValue_249 : decode cX4_readValue 249 = .ok (.aload_n 0, 1) := by decide +kernel
theorem dX4_readValue_250 : decode cX4_readValue 250 = .ok (.bipush 41, 2) := by decide +kernel
theorem dX4_readValue_252 : decode cX4_readValue 252 = .ok (.invokevirtual 46, 3) := by decide +kernel
theorem dX4_readValue_255 : decode cX4_readValue 255 = .ok (.ifCond .ne 5, 3) := by decide +kernel
theorem dX4_readValue_258 : decode cX4_readValue 258 = .ok (.iconst 0, 1) := by decide +kernel
theorem dX4_readValue_259 : decode cX4_readValue 259 = .ok (.ireturn, 1) := by decide +kernel
theorem dX4_readValue_260 : decode cX4_readValue 260 = .ok (.aload_n 0, 1) := by decide +kernel
theorem dX4_readValue_261 : decode cX4_readValue 261 = .ok (.getfield 22, 3) := by decide +kernel
theorem dX4_readValue_264 : decode cX4_readValue 264 = .ok (.iload_n 2, 1) := by decide +kernel
theorem dX4_readValue_265 : decode cX4_readValue 265 = .ok (.iconst 0, 1) := by decide +kernel
theorem dX4_readValue_266 : decode cX4_readValue 266 = .ok (.iconst 0, 1) := by decide +kernel
theorem dX4_readValue_267 : decode cX4_readValue 267 = .ok (.invokevirtual 126, 3) := by decide +kernel
theorem dX4_readValue_270 : decode cX4_readValue 270 = .ok (.iconst 1, 1) := by decide +kernel
theorem dX4_readValue_271 : decode cX4_readValue 271 = .ok (.ireturn, 1) := by decide +kernel
theorem dX4_readValue_272 : decode cX4_readValue 272 = .ok (.iconst 0, 1) := by decide +kernel
theorem dX4_readValue_273 : decode cX4_readValue 273 = .ok (.ireturn, 1) := by decide +kernel
theorem dX5_init_0 : decode cX5_init 0 = .ok (.aload_n 0, 1) := by decide +kernel
theorem dX5_init_1 : decode cX5_init 1 = .ok (.invokespecial 3, 3) := by decide +kernel
theorem dX5_init_4 : decode cX5_init 4 = .ok (.aload_n 0, 1) := by decide +kernel
theorem dX5_init_5 : decode cX5_init 5 = .ok (.sipush 2000, 3) := by decide +kernel
theorem dX5_init_8 : decode cX5_init 8 = .ok (.newarray .byte, 2) := by decide +kernel
theorem dX5_init_10 : decode cX5_init 10 = .ok (.putfield 9, 3) := by decide +kernel
theorem dX5_init_13 : decode cX5_init 13 = .ok (.return_, 1) := by decide +kernel
theorem dX5_append_0 : decode cX5_append 0 = .ok (.bipush 24, 2) := by decide +kernel
theorem dX5_append_2 : decode cX5_append 2 = .ok (.istore_n 2, 1) := by decide +kernel
theorem dX5_append_3 : decode cX5_append 3 = .ok (.iload_n 2, 1) := by decide +kernel
theorem dX5_append_4 : decode cX5_append 4 = .ok (.ifCond .lt 51, 3) := by decide +kernel
theorem dX5_append_7 : decode cX5_append 7 = .ok (.aload_n 0, 1) := by decide +kernel
theorem dX5_append_8 : decode cX5_append 8 = .ok (.getfield 15, 3) := by decide +kernel
theorem dX5_append_11 : decode cX5_append 11 = .ok (.ifCond .lt 38, 3) := by decide +kernel
theorem dX5_append_14 : decode cX5_append 14 = .ok (.aload_n 0, 1) := by decide +kernel
theorem dX5_append_15 : decode cX5_append 15 = .ok (.getfield 15, 3) := by decide +kernel
theorem dX5_append_18 : decode cX5_append 18 = .ok (.aload_n 0, 1) := by decide +kernel
theorem dX5_append_19 : decode cX5_append 19 = .ok (.getfield 9, 3) := by decide +kernel
theorem dX5_append_22 : decode cX5_append 22 = .ok (.arraylength, 1) := by decide +kernel
theorem dX5_append_23 : decode cX5_append 23 = .ok (.if_icmp .ge 26, 3) := by decide +kernel
theorem dX5_append_26 : decode cX5_append 26 = .ok (.aload_n 0, 1) := by decide +kernel
theorem dX5_append_27 : decode cX5_append 27 = .ok (.getfield 9, 3) := by decide +kernel
theorem dX5_append_30 : decode cX5_append 30 = .ok (.aload_n 0, 1) := by decide +kernel
theorem dX5_append_31 : decode cX5_append 31 = .ok (.getfield 15, 3) := by decide +kernel
theorem dX5_append_34 : decode cX5_append 34 = .ok (.iload_n 1, 1) := by decide +kernel
theorem dX5_append_35 : decode cX5_append 35 = .ok (.iload_n 2, 1) := by decide +kernel
theorem dX5_append_36 : decode cX5_append 36 = .ok (.ishr, 1) := by decide +kernel
theorem dX5_append_37 : decode cX5_append 37 = .ok (.i2b, 1) := by decide +kernel
theorem dX5_append_38 : decode cX5_append 38 = .ok (.bastore, 1) := by decide +kernel
theorem dX5_append_39 : decode cX5_append 39 = .ok (.aload_n 0, 1) := by decide +kernel
theorem dX5_append_40 : decode cX5_append 40 = .ok (.dup, 1) := by decide +kernel
theorem dX5_append_41 : decode cX5_append 41 = .ok (.getfield 15, 3) := by decide +kernel
theorem dX5_append_44 : decode cX5_append 44 = .ok (.iconst 1, 1) := by decide +kernel
theorem dX5_append_45 : decode cX5_append 45 = .ok (.iadd, 1) := by decide +kernel
theorem dX5_append_46 : decode cX5_append 46 = .ok (.putfield 15, 3) := by decide +kernel
theorem dX5_append_49 : decode cX5_append 49 = .ok (.iinc 2 (-8), 3) := by decide +kernel
theorem dX5_append_52 : decode cX5_append 52 = .ok (.goto (-49), 3) := by decide +kernel
theorem dX5_append_55 : decode cX5_append 55 = .ok (.return_, 1) := by decide +kernel
theorem dX5_at_0 : decode cX5_at 0 = .ok (.iload_n 1, 1) := by decide +kernel
theorem dX5_at_1 : decode cX5_at 1 = .ok (.ifCond .lt 20, 3) := by decide +kernel
theorem dX5_at_4 : decode cX5_at 4 = .ok (.iload_n 1, 1) := by decide +kernel
theorem dX5_at_5 : decode cX5_at 5 = .ok (.aload_n 0, 1) := by decide +kernel
theorem dX5_at_6 : decode cX5_at 6 = .ok (.getfield 15, 3) := by decide +kernel
theorem dX5_at_9 : decode cX5_at 9 = .ok (.if_icmp .ge 12, 3) := by decide +kernel
theorem dX5_at_12 : decode cX5_at 12 = .ok (.iload_n 1, 1) := by decide +kernel
theorem dX5_at_13 : decode cX5_at 13 = .ok (.aload_n 0, 1) := by decide +kernel
theorem dX5_at_14 : decode cX5_at 14 = .ok (.getfield 9, 3) := by decide +kernel
theorem dX5_at_17 : decode cX5_at 17 = .ok (.arraylength, 1) := by decide +kernel
theorem dX5_at_18 : decode cX5_at 18 = .ok (.if_icmp .lt 5, 3) := by decide +kernel
theorem dX5_at_21 : decode cX5_at 21 = .ok (.iconst (-1), 1) := by decide +kernel
theorem dX5_at_22 : decode cX5_at 22 = .ok (.ireturn, 1) := by decide +kernel
theorem dX5_at_23 : decode cX5_at 23 = .ok (.aload_n 0, 1) := by decide +kernel
theorem dX5_at_24 : decode cX5_at 24 = .ok (.getfield 9, 3) := by decide +kernel
theorem dX5_at_27 : decode cX5_at 27 = .ok (.iload_n 1, 1) := by decide +kernel
theorem dX5_at_28 : decode cX5_at 28 = .ok (.baload, 1) := by decide +kernel
theorem dX5_at_29 : decode cX5_at 29 = .ok (.sipush 255, 3) := by decide +kernel
theorem dX5_at_32 : decode cX5_at 32 = .ok (.iand, 1) := by decide +kernel
theorem dX5_at_33 : decode cX5_at 33 = .ok (.ireturn, 1) := by decide +kernel
theorem dX6_init_0 : decode cX6_init 0 = .ok (.aload_n 0, 1) := by decide +kernel
theorem dX6_init_1 : decode cX6_init 1 = .ok (.invokespecial 3, 3) := by decide +kernel
theorem dX6_init_4 : decode cX6_init 4 = .ok (.aload_n 0, 1) := by decide +kernel
theorem dX6_init_5 : decode cX6_init 5 = .ok (.invokestatic 9, 3) := by decide +kernel
theorem dX6_init_8 : decode cX6_init 8 = .ok (.putfield 15, 3) := by decide +kernel
theorem dX6_init_11 : decode cX6_init 11 = .ok (.aload_n 0, 1) := by decide +kernel
theorem dX6_init_12 : decode cX6_init 12 = .ok (.sipush 401, 3) := by decide +kernel
theorem dX6_init_15 : decode cX6_init 15 = .ok (.newarray .int, 2) := by decide +kernel
theorem dX6_init_17 : decode cX6_init 17 = .ok (.putfield 19, 3) := by decide +kernel
theorem dX6_init_20 : decode cX6_init 20 = .ok (.aload_n 0, 1) := by decide +kernel
theorem dX6_init_21 : decode cX6_init 21 = .ok (.sipush 401, 3) := by decide +kernel
theorem dX6_init_24 : decode cX6_init 24 = .ok (.newarray .int, 2) := by decide +kernel
theorem dX6_init_26 : decode cX6_init 26 = .ok (.putfield 23, 3) := by decide +kernel
theorem dX6_init_29 : decode cX6_init 29 = .ok (.aload_n 0, 1) := by decide +kernel
theorem dX6_init_30 : decode cX6_init 30 = .ok (.sipush 401, 3) := by decide +kernel
theorem dX6_init_33 : decode cX6_init 33 = .ok (.newarray .long, 2) := by decide +kernel
theorem dX6_init_35 : decode cX6_init 35 = .ok (.putfield 26, 3) := by decide +kernel
theorem dX6_init_38 : decode cX6_init 38 = .ok (.return_, 1) := by decide +kernel
theorem dX6_packKeywords_0 : decode cX6_packKeywords 0 = .ok (.bipush 27, 2) := by decide +kernel
theorem dX6_packKeywords_2 : decode cX6_packKeywords 2 = .ok (.newarray .long, 2) := by decide +kernel
theorem dX6_packKeywords_4 : decode cX6_packKeywords 4 = .ok (.astore_n 0, 1) := by decide +kernel
theorem dX6_packKeywords_5 : decode cX6_packKeywords 5 = .ok (.iconst 0, 1) := by decide +kernel
theorem dX6_packKeywords_6 : decode cX6_packKeywords 6 = .ok (.istore_n 1, 1) := by decide +kernel
theorem dX6_packKeywords_7 : decode cX6_packKeywords 7 = .ok (.iconst 0, 1) := by decide +kernel
theorem dX6_packKeywords_8 : decode cX6_packKeywords 8 = .ok (.istore_n 2, 1) := by decide +kernel
theorem dX6_packKeywords_9 : decode cX6_packKeywords 9 = .ok (.iload_n 2, 1) := by decide +kernel
theorem dX6_packKeywords_10 : decode cX6_packKeywords 10 = .ok (.ldc 29, 2) := by decide +kernel
theorem dX6_packKeywords_12 : decode cX6_packKeywords 12 = .ok (.invokevirtual 31, 3) := by decide +kernel
theorem dX6_packKeywords_15 : decode cX6_packKeywords 15 = .ok (.if_icmp .ge 44, 3) := by decide +kernel
theorem dX6_packKeywords_18 : decode cX6_packKeywords 18 = .ok (.ldc 29, 2) := by decide +kernel
theorem dX6_packKeywords_20 : decode cX6_packKeywords 20 = .ok (.iload_n 2, 1) := by decide +kernel
theorem dX6_packKeywords_21 : decode cX6_packKeywords 21 = .ok (.invokevirtual 37, 3) := by decide +kernel
theorem dX6_packKeywords_24 : decode cX6_packKeywords 24 = .ok (.istore_n 3, 1) := by decide +kernel
theorem dX6_packKeywords_25 : decode cX6_packKeywords 25 = .ok (.iload_n 3, 1) := by decide +kernel
theorem dX6_packKeywords_26 : decode cX6_packKeywords 26 = .ok (.bipush 32, 2) := by decide +kernel
theorem dX6_packKeywords_28 : decode cX6_packKeywords 28 = .ok (.if_icmp .ne 9, 3) := by decide +kernel
theorem dX6_packKeywords_31 : decode cX6_packKeywords 31 = .ok (.iinc 1 1, 3) := by decide +kernel
theorem dX6_packKeywords_34 : decode cX6_packKeywords 34 = .ok (.goto 19, 3) := by decide +kernel
theorem dX6_packKeywords_37 : decode cX6_packKeywords 37 = .ok (.iload_n 1, 1) := by decide +kernel
theorem dX6_packKeywords_38 : decode cX6_packKeywords 38 = .ok (.aload_n 0, 1) := by decide +kernel
theorem dX6_packKeywords_39 : decode cX6_packKeywords 39 = .ok (.arraylength, 1) := by decide +kernel
theorem dX6_packKeywords_40 : decode cX6_packKeywords 40 = .ok (.if_icmp .ge 13, 3) := by decide +kernel
theorem dX6_packKeywords_43 : decode cX6_packKeywords 43 = .ok (.aload_n 0, 1) := by decide +kernel
theorem dX6_packKeywords_44 : decode cX6_packKeywords 44 = .ok (.iload_n 1, 1) := by decide +kernel
theorem dX6_packKeywords_45 : decode cX6_packKeywords 45 = .ok (.aload_n 0, 1) := by decide +kernel
theorem dX6_packKeywords_46 : decode cX6_packKeywords 46 = .ok (.iload_n 1, 1) := by decide +kernel
theorem dX6_packKeywords_47 : decode cX6_packKeywords 47 = .ok (.laload, 1) := by decide +kernel
theorem dX6_packKeywords_48 : decode cX6_packKeywords 48 = .ok (.iload_n 3, 1) := by decide +kernel
theorem dX6_packKeywords_49 : decode cX6_packKeywords 49 = .ok (.invokestatic 41, 3) := by decide +kernel
theorem dX6_packKeywords_52 : decode cX6_packKeywords 52 = .ok (.lastore, 1) := by decide +kernel
theorem dX6_packKeywords_53 : decode cX6_packKeywords 53 = .ok (.iinc 2 1, 3) := by decide +kernel
theorem dX6_packKeywords_56 : decode cX6_packKeywords 56 = .ok (.goto (-47), 3) := by decide +kernel
theorem dX6_packKeywords_59 : decode cX6_packKeywords 59 = .ok (.aload_n 0, 1) := by decide +kernel
theorem dX6_packKeywords_60 : decode cX6_packKeywords 60 = .ok (.areturn, 1) := by decide +kernel
theorem dX6_pack_0 : decode cX6_pack 0 = .ok (.iload_n 2, 1) := by decide +kernel
theorem dX6_pack_1 : decode cX6_pack 1 = .ok (.invokestatic 45, 3) := by decide +kernel
theorem dX6_pack_4 : decode cX6_pack 4 = .ok (.ifCond .eq 13, 3) := by decide +kernel
theorem dX6_pack_7 : decode cX6_pack 7 = .ok (.iload_n 2, 1) := by decide +kernel
theorem dX6_pack_8 : decode cX6_pack 8 = .ok (.bipush 48, 2) := by decide +kernel
theorem dX6_pack_10 : decode cX6_pack 10 = .ok (.isub, 1) := by decide +kernel
theorem dX6_pack_11 : decode cX6_pack 11 = .ok (.bipush 27, 2) := by decide +kernel
theorem dX6_pack_13 : decode cX6_pack 13 = .ok (.iadd, 1) := by decide +kernel
theorem dX6_pack_14 : decode cX6_pack 14 = .ok (.goto 9, 3) := by decide +kernel
theorem dX6_pack_17 : decode cX6_pack 17 = .ok (.iload_n 2, 1) := by decide +kernel
theorem dX6_pack_18 : decode cX6_pack 18 = .ok (.bipush 97, 2) := by decide +kernel
theorem dX6_pack_20 : decode cX6_pack 20 = .ok (.isub, 1) := by decide +kernel
theorem dX6_pack_21 : decode cX6_pack 21 = .ok (.iconst 1, 1) := by decide +kernel
theorem dX6_pack_22 : decode cX6_pack 22 = .ok (.iadd, 1) := by decide +kernel
theorem dX6_pack_23 : decode cX6_pack 23 = .ok (.istore_n 3, 1) := by decide +kernel
theorem dX6_pack_24 : decode cX6_pack 24 = .ok (.lload_n 0, 1) := by decide +kernel
theorem dX6_pack_25 : decode cX6_pack 25 = .ok (.bipush 6, 2) := by decide +kernel
theorem dX6_pack_27 : decode cX6_pack 27 = .ok (.lshl, 1) := by decide +kernel
theorem dX6_pack_28 : decode cX6_pack 28 = .ok (.iload_n 3, 1) := by decide +kernel
theorem dX6_pack_29 : decode cX6_pack 29 = .ok (.i2l, 1) := by decide +kernel
theorem dX6_pack_30 : decode cX6_pack 30 = .ok (.lor, 1) := by decide +kernel
theorem dX6_pack_31 : decode cX6_pack 31 = .ok (.lreturn, 1) := by decide +kernel
theorem dX6_isLetter_0 : decode cX6_isLetter 0 = .ok (.iload_n 0, 1) := by decide +kernel
theorem dX6_isLetter_1 : decode cX6_isLetter 1 = .ok (.bipush 97, 2) := by decide +kernel
theorem dX6_isLetter_3 : decode cX6_isLetter 3 = .ok (.if_icmp .lt 13, 3) := by decide +kernel
theorem dX6_isLetter_6 : decode cX6_isLetter 6 = .ok (.iload_n 0, 1) := by decide +kernel
theorem dX6_isLetter_7 : decode cX6_isLetter 7 = .ok (.bipush 122, 2) := by decide +kernel
theorem dX6_isLetter_9 : decode cX6_isLetter 9 = .ok (.if_icmp .gt 7, 3) := by decide +kernel
theorem dX6_isLetter_12 : decode cX6_isLetter 12 = .ok (.iconst 1, 1) := by decide +kernel
theorem dX6_isLetter_13 : decode cX6_isLetter 13 = .ok (.goto 4, 3) := by decide +kernel
theorem dX6_isLetter_16 : decode cX6_isLetter 16 = .ok (.iconst 0, 1) := by decide +kernel
theorem dX6_isLetter_17 : decode cX6_isLetter 17 = .ok (.ireturn, 1) := by decide +kernel
theorem dX6_isDigit_0 : decode cX6_isDigit 0 = .ok (.iload_n 0, 1) := by decide +kernel
theorem dX6_isDigit_1 : decode cX6_isDigit 1 = .ok (.bipush 48, 2) := by decide +kernel
theorem dX6_isDigit_3 : decode cX6_isDigit 3 = .ok (.if_icmp .lt 13, 3) := by decide +kernel
theorem dX6_isDigit_6 : decode cX6_isDigit 6 = .ok (.iload_n 0, 1) := by decide +kernel
theorem dX6_isDigit_7 : decode cX6_isDigit 7 = .ok (.bipush 57, 2) := by decide +kernel
theorem dX6_isDigit_9 : decode cX6_isDigit 9 = .ok (.if_icmp .gt 7, 3) := by decide +kernel
theorem dX6_isDigit_12 : decode cX6_isDigit 12 = .ok (.iconst 1, 1) := by decide +kernel
theorem dX6_isDigit_13 : decode cX6_isDigit 13 = .ok (.goto 4, 3) := by decide +kernel
theorem dX6_isDigit_16 : decode cX6_isDigit 16 = .ok (.iconst 0, 1) := by decide +kernel
theorem dX6_isDigit_17 : decode cX6_isDigit 17 = .ok (.ireturn, 1) := by decide +kernel
theorem dX6_scan_0 : decode cX6_scan 0 = .ok (.aload_n 0, 1) := by decide +kernel
theorem dX6_scan_1 : decode cX6_scan 1 = .ok (.iconst 0, 1) := by decide +kernel
theorem dX6_scan_2 : decode cX6_scan 2 = .ok (.putfield 49, 3) := by decide +kernel
theorem dX6_scan_5 : decode cX6_scan 5 = .ok (.aload_n 0, 1) := by decide +kernel
theorem dX6_scan_6 : decode cX6_scan 6 = .ok (.iconst 0, 1) := by decide +kernel
theorem dX6_scan_7 : decode cX6_scan 7 = .ok (.putfield 53, 3) := by decide +kernel
theorem dX6_scan_10 : decode cX6_scan 10 = .ok (.sipush 263, 3) := by decide +kernel
theorem dX6_scan_13 : decode cX6_scan 13 = .ok (.istore_n 2, 1) := by decide +kernel
theorem dX6_scan_14 : decode cX6_scan 14 = .ok (.aload_n 0, 1) := by decide +kernel
theorem dX6_scan_15 : decode cX6_scan 15 = .ok (.getfield 49, 3) := by decide +kernel
theorem dX6_scan_18 : decode cX6_scan 18 = .ok (.aload_n 0, 1) := by decide +kernel
theorem dX6_scan_19 : decode cX6_scan 19 = .ok (.getfield 19, 3) := by decide +kernel
theorem dX6_scan_22 : decode cX6_scan 22 = .ok (.arraylength, 1) := by decide +kernel
theorem dX6_scan_23 : decode cX6_scan 23 = .ok (.if_icmp .ge 82, 3) := by decide +kernel
theorem dX6_scan_26 : decode cX6_scan 26 = .ok (.iload_n 2, 1) := by decide +kernel
theorem dX6_scan_27 : decode cX6_scan 27 = .ok (.sipush 260, 3) := by decide +kernel
theorem dX6_scan_30 : decode cX6_scan 30 = .ok (.if_icmp .eq 75, 3) := by decide +kernel
theorem dX6_scan_33 : decode cX6_scan 33 = .ok (.iload_n 2, 1) := by decide +kernel
theorem dX6_scan_34 : decode cX6_scan 34 = .ok (.sipush 261, 3) := by decide +kernel
theorem dX6_scan_37 : decode cX6_scan 37 = .ok (.if_icmp .eq 68, 3) := by decide +kernel
theorem dX6_scan_40 : decode cX6_scan 40 = .ok (.aload_n 0, 1) := by decide +kernel
theorem dX6_scan_41 : decode cX6_scan 41 = .ok (.aload_n 1, 1) := by decide +kernel
theorem dX6_scan_42 : decode cX6_scan 42 = .ok (.invokevirtual 56, 3) := by decide +kernel
theorem dX6_scan_45 : decode cX6_scan 45 = .ok (.aload_n 0, 1) := by decide +kernel
theorem dX6_scan_46 : decode cX6_scan 46 = .ok (.getfield 23, 3) := by decide +kernel
theorem dX6_scan_49 : decode cX6_scan 49 = .ok (.aload_n 0, 1) := by decide +kernel
theorem dX6_scan_50 : decode cX6_scan 50 = .ok (.getfield 49, 3) := by decide +kernel
theorem dX6_scan_53 : decode cX6_scan 53 = .ok (.aload_n 0, 1) := by decide +kernel
theorem dX6_scan_54 : decode cX6_scan 54 = .ok (.getfield 53, 3) := by decide +kernel
theorem dX6_scan_57 : decode cX6_scan 57 = .ok (.iastore, 1) := by decide +kernel
theorem dX6_scan_58 : decode cX6_scan 58 = .ok (.aload_n 0, 1) := by decide +kernel
theorem dX6_scan_59 : decode cX6_scan 59 = .ok (.lconst 0, 1) := by decide +kernel
theorem dX6_scan_60 : decode cX6_scan 60 = .ok (.putfield 60, 3) := by decide +kernel
theorem dX6_scan_63 : decode cX6_scan 63 = .ok (.aload_n 0, 1) := by decide +kernel
theorem dX6_scan_64 : decode cX6_scan 64 = .ok (.aload_n 1, 1) := by decide +kernel
theorem dX6_scan_65 : decode cX6_scan 65 = .ok (.invokevirtual 64, 3) := by decide +kernel
theorem dX6_scan_68 : decode cX6_scan 68 = .ok (.istore_n 2, 1) := by decide +kernel
theorem dX6_scan_69 : decode cX6_scan 69 = .ok (.aload_n 0, 1) := by decide +kernel
theorem dX6_scan_70 : decode cX6_scan 70 = .ok (.getfield 19, 3) := by decide +kernel
theorem dX6_scan_73 : decode cX6_scan 73 = .ok (.aload_n 0, 1) := by decide +kernel
theorem dX6_scan_74 : decode cX6_scan 74 = .ok (.getfield 49, 3) := by decide +kernel
theorem dX6_scan_77 : decode cX6_scan 77 = .ok (.iload_n 2, 1) := by decide +kernel
theorem dX6_scan_78 : decode cX6_scan 78 = .ok (.iastore, 1) := by decide +kernel
theorem dX6_scan_79 : decode cX6_scan 79 = .ok (.aload_n 0, 1) := by decide +kernel
theorem dX6_scan_80 : decode cX6_scan 80 = .ok (.getfield 26, 3) := by decide +kernel
theorem dX6_scan_83 : decode cX6_scan 83 = .ok (.aload_n 0, 1) := by decide +kernel
theorem dX6_scan_84 : decode cX6_scan 84 = .ok (.getfield 49, 3) := by decide +kernel
theorem dX6_scan_87 : decode cX6_scan 87 = .ok (.aload_n 0, 1) := by decide +kernel
theorem dX6_scan_88 : decode cX6_scan 88 = .ok (.getfield 60, 3) := by decide +kernel
theorem dX6_scan_91 : decode cX6_scan 91 = .ok (.lastore, 1) := by decide +kernel
theorem dX6_scan_92 : decode cX6_scan 92 = .ok (.aload_n 0, 1) := by decide +kernel
theorem dX6_scan_93 : decode cX6_scan 93 = .ok (.dup, 1) := by decide +kernel
theorem dX6_scan_94 : decode cX6_scan 94 = .ok (.getfield 49, 3) := by decide +kernel
theorem dX6_scan_97 : decode cX6_scan 97 = .ok (.iconst 1, 1) := by decide +kernel
theorem dX6_scan_98 : decode cX6_scan 98 = .ok (.iadd, 1) := by decide +kernel
theorem dX6_scan_99 : decode cX6_scan 99 = .ok (.putfield 49, 3) := by decide +kernel
theorem dX6_scan_102 : decode cX6_scan 102 = .ok (.goto (-88), 3) := by decide +kernel
theorem dX6_scan_105 : decode cX6_scan 105 = .ok (.return_, 1) := by decide +kernel
theorem dX6_kindAt_0 : decode cX6_kindAt 0 = .ok (.iload_n 1, 1) := by decide +kernel
theorem dX6_kindAt_1 : decode cX6_kindAt 1 = .ok (.ifCond .lt 29, 3) := by decide +kernel
theorem dX6_kindAt_4 : decode cX6_kindAt 4 = .ok (.iload_n 1, 1) := by decide +kernel
theorem dX6_kindAt_5 : decode cX6_kindAt 5 = .ok (.aload_n 0, 1) := by decide +kernel
theorem dX6_kindAt_6 : decode cX6_kindAt 6 = .ok (.getfield 49, 3) := by decide +kernel
theorem dX6_kindAt_9 : decode cX6_kindAt 9 = .ok (.if_icmp .ge 21, 3) := by decide +kernel
theorem dX6_kindAt_12 : decode cX6_kindAt 12 = .ok (.iload_n 1, 1) := by decide +kernel
theorem dX6_kindAt_13 : decode cX6_kindAt 13 = .ok (.aload_n 0, 1) := by decide +kernel
theorem dX6_kindAt_14 : decode cX6_kindAt 14 = .ok (.getfield 19, 3) := by decide +kernel
theorem dX6_kindAt_17 : decode cX6_kindAt 17 = .ok (.arraylength, 1) := by decide +kernel
theorem dX6_kindAt_18 : decode cX6_kindAt 18 = .ok (.if_icmp .ge 12, 3) := by decide +kernel
theorem dX6_kindAt_21 : decode cX6_kindAt 21 = .ok (.aload_n 0, 1) := by decide +kernel
theorem dX6_kindAt_22 : decode cX6_kindAt 22 = .ok (.getfield 19, 3) := by decide +kernel
theorem dX6_kindAt_25 : decode cX6_kindAt 25 = .ok (.iload_n 1, 1) := by decide +kernel
theorem dX6_kindAt_26 : decode cX6_kindAt 26 = .ok (.iaload, 1) := by decide +kernel
theorem dX6_kindAt_27 : decode cX6_kindAt 27 = .ok (.goto 6, 3) := by decide +kernel
theorem dX6_kindAt_30 : decode cX6_kindAt 30 = .ok (.sipush 261, 3) := by decide +kernel
theorem dX6_kindAt_33 : decode cX6_kindAt 33 = .ok (.ireturn, 1) := by decide +kernel
theorem dX6_startAt_0 : decode cX6_startAt 0 = .ok (.iload_n 1, 1) := by decide +kernel
theorem dX6_startAt_1 : decode cX6_startAt 1 = .ok (.ifCond .lt 29, 3) := by decide +kernel
theorem dX6_startAt_4 : decode cX6_startAt 4 = .ok (.iload_n 1, 1) := by decide +kernel
theorem dX6_startAt_5 : decode cX6_startAt 5 = .ok (.aload_n 0, 1) := by decide +kernel
theorem dX6_startAt_6 : decode cX6_startAt 6 = .ok (.getfield 49, 3) := by decide +kernel
theorem dX6_startAt_9 : decode cX6_startAt 9 = .ok (.if_icmp .ge 21, 3) := by decide +kernel
theorem dX6_startAt_12 : decode cX6_startAt 12 = .ok (.iload_n 1, 1) := by decide +kernel
theorem dX6_startAt_13 : decode cX6_startAt 13 = .ok (.aload_n 0, 1) := by decide +kernel
theorem dX6_startAt_14 : decode cX6_startAt 14 = .ok (.getfield 23, 3) := by decide +kernel
theorem dX6_startAt_17 : decode cX6_startAt 17 = .ok (.arraylength, 1) := by decide +kernel
theorem dX6_startAt_18 : decode cX6_startAt 18 = .ok (.if_icmp .ge 12, 3) := by decide +kernel
theorem dX6_startAt_21 : decode cX6_startAt 21 = .ok (.aload_n 0, 1) := by decide +kernel
theorem dX6_startAt_22 : decode cX6_startAt 22 = .ok (.getfield 23, 3) := by decide +kernel
theorem dX6_startAt_25 : decode cX6_startAt 25 = .ok (.iload_n 1, 1) := by decide +kernel
theorem dX6_startAt_26 : decode cX6_startAt 26 = .ok (.iaload, 1) := by decide +kernel
theorem dX6_startAt_27 : decode cX6_startAt 27 = .ok (.goto 4, 3) := by decide +kernel
theorem dX6_startAt_30 : decode cX6_startAt 30 = .ok (.iconst 0, 1) := by decide +kernel
theorem dX6_startAt_31 : decode cX6_startAt 31 = .ok (.ireturn, 1) := by decide +kernel
theorem dX6_valueAt_0 : decode cX6_valueAt 0 = .ok (.iload_n 1, 1) := by decide +kernel
theorem dX6_valueAt_1 : decode cX6_valueAt 1 = .ok (.ifCond .lt 29, 3) := by decide +kernel
theorem dX6_valueAt_4 : decode cX6_valueAt 4 = .ok (.iload_n 1, 1) := by decide +kernel
theorem dX6_valueAt_5 : decode cX6_valueAt 5 = .ok (.aload_n 0, 1) := by decide +kernel
theorem dX6_valueAt_6 : decode cX6_valueAt 6 = .ok (.getfield 49, 3) := by decide +kernel
theorem dX6_valueAt_9 : decode cX6_valueAt 9 = .ok (.if_icmp .ge 21, 3) := by decide +kernel
theorem dX6_valueAt_12 : decode cX6_valueAt 12 = .ok (.iload_n 1, 1) := by decide +kernel
theorem dX6_valueAt_13 : decode cX6_valueAt 13 = .ok (.aload_n 0, 1) := by decide +kernel
theorem dX6_valueAt_14 : decode cX6_valueAt 14 = .ok (.getfield 26, 3) := by decide +kernel
theorem dX6_valueAt_17 : decode cX6_valueAt 17 = .ok (.arraylength, 1) := by decide +kernel
theorem dX6_valueAt_18 : decode cX6_valueAt 18 = .ok (.if_icmp .ge 12, 3) := by decide +kernel
theorem dX6_valueAt_21 : decode cX6_valueAt 21 = .ok (.aload_n 0, 1) := by decide +kernel
theorem dX6_valueAt_22 : decode cX6_valueAt 22 = .ok (.getfield 26, 3) := by decide +kernel
theorem dX6_valueAt_25 : decode cX6_valueAt 25 = .ok (.iload_n 1, 1) := by decide +kernel
theorem dX6_valueAt_26 : decode cX6_valueAt 26 = .ok (.laload, 1) := by decide +kernel
theorem dX6_valueAt_27 : decode cX6_valueAt 27 = .ok (.goto 4, 3) := by decide +kernel
theorem dX6_valueAt_30 : decode cX6_valueAt 30 = .ok (.lconst 0, 1) := by decide +kernel
theorem dX6_valueAt_31 : decode cX6_valueAt 31 = .ok (.lreturn, 1) := by decide +kernel
theorem dX6_skipBlanks_0 : decode cX6_skipBlanks 0 = .ok (.aload_n 0, 1) := by decide +kernel
theorem dX6_skipBlanks_1 : decode cX6_skipBlanks 1 = .ok (.getfield 53, 3) := by decide +kernel
theorem dX6_skipBlanks_4 : decode cX6_skipBlanks 4 = .ok (.aload_n 1, 1) := by decide +kernel
theorem dX6_skipBlanks_5 : decode cX6_skipBlanks 5 = .ok (.getfield 68, 3) := by decide +kernel
theorem dX6_skipBlanks_8 : decode cX6_skipBlanks 8 = .ok (.if_icmp .ge 42, 3) := by decide +kernel
theorem dX6_skipBlanks_11 : decode cX6_skipBlanks 11 = .ok (.aload_n 1, 1) := by decide +kernel
theorem dX6_skipBlanks_12 : decode cX6_skipBlanks 12 = .ok (.aload_n 0, 1) := by decide +kernel
theorem dX6_skipBlanks_13 : decode cX6_skipBlanks 13 = .ok (.getfield 53, 3) := by decide +kernel
theorem dX6_skipBlanks_16 : decode cX6_skipBlanks 16 = .ok (.invokevirtual 72, 3) := by decide +kernel
theorem dX6_skipBlanks_19 : decode cX6_skipBlanks 19 = .ok (.bipush 32, 2) := by decide +kernel
theorem dX6_skipBlanks_21 : decode cX6_skipBlanks 21 = .ok (.if_icmp .eq 16, 3) := by decide +kernel
theorem dX6_skipBlanks_24 : decode cX6_skipBlanks 24 = .ok (.aload_n 1, 1) := by decide +kernel
theorem dX6_skipBlanks_25 : decode cX6_skipBlanks 25 = .ok (.aload_n 0, 1) := by decide +kernel
theorem dX6_skipBlanks_26 : decode cX6_skipBlanks 26 = .ok (.getfield 53, 3) := by decide +kernel
theorem dX6_skipBlanks_29 : decode cX6_skipBlanks 29 = .ok (.invokevirtual 72, 3) := by decide +kernel
theorem dX6_skipBlanks_32 : decode cX6_skipBlanks 32 = .ok (.bipush 10, 2) := by decide +kernel
theorem dX6_skipBlanks_34 : decode cX6_skipBlanks 34 = .ok (.if_icmp .ne 16, 3) := by decide +kernel
theorem dX6_skipBlanks_37 : decode cX6_skipBlanks 37 = .ok (.aload_n 0, 1) := by decide +kernel
theorem dX6_skipBlanks_38 : decode cX6_skipBlanks 38 = .ok (.dup, 1) := by decide +kernel
theorem dX6_skipBlanks_39 : decode cX6_skipBlanks 39 = .ok (.getfield 53, 3) := by decide +kernel
theorem dX6_skipBlanks_42 : decode cX6_skipBlanks 42 = .ok (.iconst 1, 1) := by decide +kernel
theorem dX6_skipBlanks_43 : decode cX6_skipBlanks 43 = .ok (.iadd, 1) := by decide +kernel
theorem dX6_skipBlanks_44 : decode cX6_skipBlanks 44 = .ok (.putfield 53, 3) := by decide +kernel
theorem dX6_skipBlanks_47 : decode cX6_skipBlanks 47 = .ok (.goto (-47), 3) := by decide +kernel
theorem dX6_skipBlanks_50 : decode cX6_skipBlanks 50 = .ok (.return_, 1) := by decide +kernel
theorem dX6_readToken_0 : decode cX6_readToken 0 = .ok (.aload_n 1, 1) := by decide +kernel
theorem dX6_readToken_1 : decode cX6_readToken 1 = .ok (.aload_n 0, 1) := by decide +kernel
theorem dX6_readToken_2 : decode cX6_readToken 2 = .ok (.getfield 53, 3) := by decide +kernel
theorem dX6_readToken_5 : decode cX6_readToken 5 = .ok (.invokevirtual 72, 3) := by decide +kernel
theorem dX6_readToken_8 : decode cX6_readToken 8 = .ok (.istore_n 2, 1) := by decide +kernel
theorem dX6_readToken_9 : decode cX6_readToken 9 = .ok (.iload_n 2, 1) := by decide +kernel
theorem dX6_readToken_10 : decode cX6_readToken 10 = .ok (.ifCond .ge 7, 3) := by decide +kernel
theorem dX6_readToken_13 : decode cX6_readToken 13 = .ok (.sipush 260, 3) := by decide +kernel
theorem dX6_readToken_16 : decode cX6_readToken 16 = .ok (.ireturn, 1) := by decide +kernel
theorem dX6_readToken_17 : decode cX6_readToken 17 = .ok (.aload_n 0, 1) := by decide +kernel
theorem dX6_readToken_18 : decode cX6_readToken 18 = .ok (.getfield 49, 3) := by decide +kernel
theorem dX6_readToken_21 : decode cX6_readToken 21 = .ok (.sipush 400, 3) := by decide +kernel
theorem dX6_readToken_24 : decode cX6_readToken 24 = .ok (.if_icmp .lt 7, 3) := by decide +kernel
theorem dX6_readToken_27 : decode cX6_readToken 27 = .ok (.sipush 261, 3) := by decide +kernel
theorem dX6_readToken_30 : decode cX6_readToken 30 = .ok (.ireturn, 1) := by decide +kernel
theorem dX6_readToken_31 : decode cX6_readToken 31 = .ok (.iload_n 2, 1) := by decide +kernel
theorem dX6_readToken_32 : decode cX6_readToken 32 = .ok (.invokestatic 76, 3) := by decide +kernel
theorem dX6_readToken_35 : decode cX6_readToken 35 = .ok (.ifCond .eq 9, 3) := by decide +kernel
theorem dX6_readToken_38 : decode cX6_readToken 38 = .ok (.aload_n 0, 1) := by decide +kernel
theorem dX6_readToken_39 : decode cX6_readToken 39 = .ok (.aload_n 1, 1) := by decide +kernel
theorem dX6_readToken_40 : decode cX6_readToken 40 = .ok (.invokevirtual 79, 3) := by decide +kernel
theorem dX6_readToken_43 : decode cX6_readToken 43 = .ok (.ireturn, 1) := by decide +kernel
theorem dX6_readToken_44 : decode cX6_readToken 44 = .ok (.iload_n 2, 1) := by decide +kernel
theorem dX6_readToken_45 : decode cX6_readToken 45 = .ok (.invokestatic 45, 3) := by decide +kernel
theorem dX6_readToken_48 : decode cX6_readToken 48 = .ok (.ifCond .eq 9, 3) := by decide +kernel
theorem dX6_readToken_51 : decode cX6_readToken 51 = .ok (.aload_n 0, 1) := by decide +kernel
theorem dX6_readToken_52 : decode cX6_readToken 52 = .ok (.aload_n 1, 1) := by decide +kernel
theorem dX6_readToken_53 : decode cX6_readToken 53 = .ok (.invokevirtual 82, 3) := by decide +kernel
theorem dX6_readToken_56 : decode cX6_readToken 56 = .ok (.ireturn, 1) := by decide +kernel
theorem dX6_readToken_57 : decode cX6_readToken 57 = .ok (.aload_n 0, 1) := by decide +kernel
theorem dX6_readToken_58 : decode cX6_readToken 58 = .ok (.aload_n 1, 1) := by decide +kernel
theorem dX6_readToken_59 : decode cX6_readToken 59 = .ok (.iload_n 2, 1) := by decide +kernel
theorem dX6_readToken_60 : decode cX6_readToken 60 = .ok (.invokevirtual 85, 3) := by decide +kernel
theorem dX6_readToken_63 : decode cX6_readToken 63 = .ok (.ireturn, 1) := by decide +kernel
theorem dX6_readWord_0 : decode cX6_readWord 0 = .ok (.aload_n 0, 1) := by decide +kernel
theorem dX6_readWord_1 : decode cX6_readWord 1 = .ok (.getfield 53, 3) := by decide +kernel
theorem dX6_readWord_4 : decode cX6_readWord 4 = .ok (.istore_n 2, 1) := by decide +kernel
theorem dX6_readWord_5 : decode cX6_readWord 5 = .ok (.aload_n 0, 1) := by decide +kernel
theorem dX6_readWord_6 : decode cX6_readWord 6 = .ok (.getfield 53, 3) := by decide +kernel
theorem dX6_readWord_9 : decode cX6_readWord 9 = .ok (.aload_n 1, 1) := by decide +kernel
theorem dX6_readWord_10 : decode cX6_readWord 10 = .ok (.getfield 68, 3) := by decide +kernel
theorem dX6_readWord_13 : decode cX6_readWord 13 = .ok (.if_icmp .ge 63, 3) := by decide +kernel
theorem dX6_readWord_16 : decode cX6_readWord 16 = .ok (.aload_n 1, 1) := by decide +kernel
theorem dX6_readWord_17 : decode cX6_readWord 17 = .ok (.aload_n 0, 1) := by decide +kernel
theorem dX6_readWord_18 : decode cX6_readWord 18 = .ok (.getfield 53, 3) := by decide +kernel
theorem dX6_readWord_21 : decode cX6_readWord 21 = .ok (.invokevirtual 72, 3) := by decide +kernel
theorem dX6_readWord_24 : decode cX6_readWord 24 = .ok (.invokestatic 76, 3) := by decide +kernel
theorem dX6_readWord_27 : decode cX6_readWord 27 = .ok (.ifCond .ne 17, 3) := by decide +kernel
theorem dX6_readWord_30 : decode cX6_readWord 30 = .ok (.aload_n 1, 1) := by decide +kernel
theorem dX6_readWord_31 : decode cX6_readWord 31 = .ok (.aload_n 0, 1) := by decide +kernel
theorem dX6_readWord_32 : decode cX6_readWord 32 = .ok (.getfield 53, 3) := by decide +kernel
theorem dX6_readWord_35 : decode cX6_readWord 35 = .ok (.invokevirtual 72, 3) := by decide +kernel
theorem dX6_readWord_38 : decode cX6_readWord 38 = .ok (.invokestatic 45, 3) := by decide +kernel
theorem dX6_readWord_41 : decode cX6_readWord 41 = .ok (.ifCond .eq 35, 3) := by decide +kernel
theorem dX6_readWord_44 : decode cX6_readWord 44 = .ok (.aload_n 0, 1) := by decide +kernel
theorem dX6_readWord_45 : decode cX6_readWord 45 = .ok (.aload_n 0, 1) := by decide +kernel
theorem dX6_readWord_46 : decode cX6_readWord 46 = .ok (.getfield 60, 3) := by decide +kernel
theorem dX6_readWord_49 : decode cX6_readWord 49 = .ok (.aload_n 1, 1) := by decide +kernel
theorem dX6_readWord_50 : decode cX6_readWord 50 = .ok (.aload_n 0, 1) := by decide +kernel
theorem dX6_readWord_51 : decode cX6_readWord 51 = .ok (.getfield 53, 3) := by decide +kernel
theorem dX6_readWord_54 : decode cX6_readWord 54 = .ok (.invokevirtual 72, 3) := by decide +kernel
theorem dX6_readWord_57 : decode cX6_readWord 57 = .ok (.invokestatic 41, 3) := by decide +kernel
theorem dX6_readWord_60 : decode cX6_readWord 60 = .ok (.putfield 60, 3) := by decide +kernel
theorem dX6_readWord_63 : decode cX6_readWord 63 = .ok (.aload_n 0, 1) := by decide +kernel
theorem dX6_readWord_64 : decode cX6_readWord 64 = .ok (.dup, 1) := by decide +kernel
theorem dX6_readWord_65 : decode cX6_readWord 65 = .ok (.getfield 53, 3) := by decide +kernel
theorem dX6_readWord_68 : decode cX6_readWord 68 = .ok (.iconst 1, 1) := by decide +kernel
theorem dX6_readWord_69 : decode cX6_readWord 69 = .ok (.iadd, 1) := by decide +kernel
theorem dX6_readWord_70 : decode cX6_readWord 70 = .ok (.putfield 53, 3) := by decide +kernel
theorem dX6_readWord_73 : decode cX6_readWord 73 = .ok (.goto (-68), 3) := by decide +kernel
theorem dX6_readWord_76 : decode cX6_readWord 76 = .ok (.aload_n 0, 1) := by decide +kernel
theorem dX6_readWord_77 : decode cX6_readWord 77 = .ok (.getfield 53, 3) := by decide +kernel
theorem dX6_readWord_80 : decode cX6_readWord 80 = .ok (.iload_n 2, 1) := by decide +kernel
theorem dX6_readWord_81 : decode cX6_readWord 81 = .ok (.isub, 1) := by decide +kernel
theorem dX6_readWord_82 : decode cX6_readWord 82 = .ok (.bipush 10, 2) := by decide +kernel
theorem dX6_readWord_84 : decode cX6_readWord 84 = .ok (.if_icmp .le 7, 3) := by decide +kernel
theorem dX6_readWord_87 : decode cX6_readWord 87 = .ok (.sipush 261, 3) := by decide +kernel
theorem dX6_readWord_90 : decode cX6_readWord 90 = .ok (.ireturn, 1) := by decide +kernel
theorem dX6_readWord_91 : decode cX6_readWord 91 = .ok (.iconst 0, 1) := by decide +kernel
theorem dX6_readWord_92 : decode cX6_readWord 92 = .ok (.istore_n 3, 1) := by decide +kernel
theorem dX6_readWord_93 : decode cX6_readWord 93 = .ok (.iload_n 3, 1) := by decide +kernel
theorem dX6_readWord_94 : decode cX6_readWord 94 = .ok (.aload_n 0, 1) := by decide +kernel
theorem dX6_readWord_95 : decode cX6_readWord 95 = .ok (.getfield 15, 3) := by decide +kernel
theorem dX6_readWord_98 : decode cX6_readWord 98 = .ok (.arraylength, 1) := by decide +kernel
theorem dX6_readWord_99 : decode cX6_readWord 99 = .ok (.if_icmp .ge 29, 3) := by decide +kernel
theorem dX6_readWord_102 : decode cX6_readWord 102 = .ok (.aload_n 0, 1) := by decide +kernel
theorem dX6_readWord_103 : decode cX6_readWord 103 = .ok (.getfield 15, 3) := by decide +kernel
theorem dX6_readWord_106 : decode cX6_readWord 106 = .ok (.iload_n 3, 1) := by decide +kernel
theorem dX6_readWord_107 : decode cX6_readWord 107 = .ok (.laload, 1) := by decide +kernel
theorem dX6_readWord_108 : decode cX6_readWord 108 = .ok (.aload_n 0, 1) := by decide +kernel
theorem dX6_readWord_109 : decode cX6_readWord 109 = .ok (.getfield 60, 3) := by decide +kernel
theorem dX6_readWord_112 : decode cX6_readWord 112 = .ok (.lcmp, 1) := by decide +kernel
theorem dX6_readWord_113 : decode cX6_readWord 113 = .ok (.ifCond .ne 9, 3) := by decide +kernel
theorem dX6_readWord_116 : decode cX6_readWord 116 = .ok (.sipush 300, 3) := by decide +kernel
theorem dX6_readWord_119 : decode cX6_readWord 119 = .ok (.iload_n 3, 1) := by decide +kernel
theorem dX6_readWord_120 : decode cX6_readWord 120 = .ok (.iadd, 1) := by decide +kernel
theorem dX6_readWord_121 : decode cX6_readWord 121 = .ok (.ireturn, 1) := by decide +kernel
theorem dX6_readWord_122 : decode cX6_readWord 122 = .ok (.iinc 3 1, 3) := by decide +kernel
theorem dX6_readWord_125 : decode cX6_readWord 125 = .ok (.goto (-32), 3) := by decide +kernel
theorem dX6_readWord_128 : decode cX6_readWord 128 = .ok (.sipush 258, 3) := by decide +kernel
theorem dX6_readWord_131 : decode cX6_readWord 131 = .ok (.ireturn, 1) := by decide +kernel
theorem dX6_readNumber_0 : decode cX6_readNumber 0 = .ok (.aload_n 0, 1) := by decide +kernel
theorem dX6_readNumber_1 : decode cX6_readNumber 1 = .ok (.getfield 53, 3) := by decide +kernel
theorem dX6_readNumber_4 : decode cX6_readNumber 4 = .ok (.istore_n 2, 1) := by decide +kernel
theorem dX6_readNumber_5 : decode cX6_readNumber 5 = .ok (.aload_n 0, 1) := by decide +kernel
theorem dX6_readNumber_6 : decode cX6_readNumber 6 = .ok (.getfield 53, 3) := by decide +kernel
theorem dX6_readNumber_9 : decode cX6_readNumber 9 = .ok (.aload_n 1, 1) := by decide +kernel
theorem dX6_readNumber_10 : decode cX6_readNumber 10 = .ok (.getfield 68, 3) := by decide +kernel
theorem dX6_readNumber_13 : decode cX6_readNumber 13 = .ok (.if_icmp .ge 55, 3) := by decide +kernel
theorem dX6_readNumber_16 : decode cX6_readNumber 16 = .ok (.aload_n 1, 1) := by decide +kernel
theorem dX6_readNumber_17 : decode cX6_readNumber 17 = .ok (.aload_n 0, 1) := by decide +kernel
theorem dX6_readNumber_18 : decode cX6_readNumber 18 = .ok (.getfield 53, 3) := by decide +kernel
theorem dX6_readNumber_21 : decode cX6_readNumber 21 = .ok (.invokevirtual 72, 3) := by decide +kernel
theorem dX6_readNumber_24 : decode cX6_readNumber 24 = .ok (.invokestatic 45, 3) := by decide +kernel
theorem dX6_readNumber_27 : decode cX6_readNumber 27 = .ok (.ifCond .eq 41, 3) := by decide +kernel
theorem dX6_readNumber_30 : decode cX6_readNumber 30 = .ok (.aload_n 0, 1) := by decide +kernel
theorem dX6_readNumber_31 : decode cX6_readNumber 31 = .ok (.aload_n 0, 1) := by decide +kernel
theorem dX6_readNumber_32 : decode cX6_readNumber 32 = .ok (.getfield 60, 3) := by decide +kernel
theorem dX6_readNumber_35 : decode cX6_readNumber 35 = .ok (.ldc2_w 89, 3) := by decide +kernel
theorem dX6_readNumber_38 : decode cX6_readNumber 38 = .ok (.lmul, 1) := by decide +kernel
theorem dX6_readNumber_39 : decode cX6_readNumber 39 = .ok (.aload_n 1, 1) := by decide +kernel
theorem dX6_readNumber_40 : decode cX6_readNumber 40 = .ok (.aload_n 0, 1) := by decide +kernel
theorem dX6_readNumber_41 : decode cX6_readNumber 41 = .ok (.getfield 53, 3) := by decide +kernel
theorem dX6_readNumber_44 : decode cX6_readNumber 44 = .ok (.invokevirtual 72, 3) := by decide +kernel
theorem dX6_readNumber_47 : decode cX6_readNumber 47 = .ok (.bipush 48, 2) := by decide +kernel
theorem dX6_readNumber_49 : decode cX6_readNumber 49 = .ok (.isub, 1) := by decide +kernel
theorem dX6_readNumber_50 : decode cX6_readNumber 50 = .ok (.i2l, 1) := by decide +kernel
theorem dX6_readNumber_51 : decode cX6_readNumber 51 = .ok (.ladd, 1) := by decide +kernel
theorem dX6_readNumber_52 : decode cX6_readNumber 52 = .ok (.putfield 60, 3) := by decide +kernel
theorem dX6_readNumber_55 : decode cX6_readNumber 55 = .ok (.aload_n 0, 1) := by decide +kernel
theorem dX6_readNumber_56 : decode cX6_readNumber 56 = .ok (.dup, 1) := by decide +kernel
theorem dX6_readNumber_57 : decode cX6_readNumber 57 = .ok (.getfield 53, 3) := by decide +kernel
theorem dX6_readNumber_60 : decode cX6_readNumber 60 = .ok (.iconst 1, 1) := by decide +kernel
theorem dX6_readNumber_61 : decode cX6_readNumber 61 = .ok (.iadd, 1) := by decide +kernel
theorem dX6_readNumber_62 : decode cX6_readNumber 62 = .ok (.putfield 53, 3) := by decide +kernel
theorem dX6_readNumber_65 : decode cX6_readNumber 65 = .ok (.goto (-60), 3) := by decide +kernel
theorem dX6_readNumber_68 : decode cX6_readNumber 68 = .ok (.aload_n 0, 1) := by decide +kernel
theorem dX6_readNumber_69 : decode cX6_readNumber 69 = .ok (.getfield 53, 3) := by decide +kernel
theorem dX6_readNumber_72 : decode cX6_readNumber 72 = .ok (.iload_n 2, 1) := by decide +kernel
theorem dX6_readNumber_73 : decode cX6_readNumber 73 = .ok (.isub, 1) := by decide +kernel
theorem dX6_readNumber_74 : decode cX6_readNumber 74 = .ok (.bipush 6, 2) := by decide +kernel
theorem dX6_readNumber_76 : decode cX6_readNumber 76 = .ok (.if_icmp .le 9, 3) := by decide +kernel
theorem dX6_readNumber_79 : decode cX6_readNumber 79 = .ok (.sipush 261, 3) := by decide +kernel
theorem dX6_readNumber_82 : decode cX6_readNumber 82 = .ok (.goto 6, 3) := by decide +kernel
theorem dX6_readNumber_85 : decode cX6_readNumber 85 = .ok (.sipush 259, 3) := by decide +kernel
theorem dX6_readNumber_88 : decode cX6_readNumber 88 = .ok (.ireturn, 1) := by decide +kernel
theorem dX6_readSymbol_0 : decode cX6_readSymbol 0 = .ok (.aload_n 0, 1) := by decide +kernel
theorem dX6_readSymbol_1 : decode cX6_readSymbol 1 = .ok (.dup, 1) := by decide +kernel
theorem dX6_readSymbol_2 : decode cX6_readSymbol 2 = .ok (.getfield 53, 3) := by decide +kernel
theorem dX6_readSymbol_5 : decode cX6_readSymbol 5 = .ok (.iconst 1, 1) := by decide +kernel
theorem dX6_readSymbol_6 : decode cX6_readSymbol 6 = .ok (.iadd, 1) := by decide +kernel
theorem dX6_readSymbol_7 : decode cX6_readSymbol 7 = .ok (.putfield 53, 3) := by decide +kernel
theorem dX6_readSymbol_10 : decode cX6_readSymbol 10 = .ok (.iload_n 2, 1) := by decide +kernel
theorem dX6_readSymbol_11 : decode cX6_readSymbol 11 = .ok (.tableswitch 272 40 93 #[270, 270, 270, 270, 270, 270, 272, 270, 272, 272, 272, 272, 272, 272, 272, 272, 272, 272, 272, 270, 229, 270, 229, 272, 272, 272, 272, 272, 272, 272, 272, 272, 272, 272, 272, 272, 272, 272, 272, 272, 272, 272, 272, 272, 272, 272, 272, 272, 272, 272, 272, 270, 272, 270], 229) := by decide +kernel
theorem dX6_readSymbol_240 : decode cX6_readSymbol 240 = .ok (.aload_n 1, 1) := by decide +kernel
theorem dX6_readSymbol_241 : decode cX6_readSymbol 241 = .ok (.aload_n 0, 1) := by decide +kernel
theorem dX6_readSymbol_242 : decode cX6_readSymbol 242 = .ok (.getfield 53, 3) := by decide +kernel
theorem dX6_readSymbol_245 : decode cX6_readSymbol 245 = .ok (.invokevirtual 72, 3) := by decide +kernel
theorem dX6_readSymbol_248 : decode cX6_readSymbol 248 = .ok (.bipush 61, 2) := by decide +kernel
theorem dX6_readSymbol_250 : decode cX6_readSymbol 250 = .ok (.if_icmp .eq 5, 3) := by decide +kernel
theorem dX6_readSymbol_253 : decode cX6_readSymbol 253 = .ok (.iload_n 2, 1) := by decide +kernel
theorem dX6_readSymbol_254 : decode cX6_readSymbol 254 = .ok (.ireturn, 1) := by decide +kernel
theorem dX6_readSymbol_255 : decode cX6_readSymbol 255 = .ok (.aload_n 0, 1) := by decide +kernel
theorem dX6_readSymbol_256 : decode cX6_readSymbol 256 = .ok (.dup, 1) := by decide +kernel
theorem dX6_readSymbol_257 : decode cX6_readSymbol 257 = .ok (.getfield 53, 3) := by decide +kernel
theorem dX6_readSymbol_260 : decode cX6_readSymbol 260 = .ok (.iconst 1, 1) := by decide +kernel
theorem dX6_readSymbol_261 : decode cX6_readSymbol 261 = .ok (.iadd, 1) := by decide +kernel
theorem dX6_readSymbol_262 : decode cX6_readSymbol 262 = .ok (.putfield 53, 3) := by decide +kernel
theorem dX6_readSymbol_265 : decode cX6_readSymbol 265 = .ok (.iload_n 2, 1) := by decide +kernel
theorem dX6_readSymbol_266 : decode cX6_readSymbol 266 = .ok (.bipush 60, 2) := by decide +kernel
theorem dX6_readSymbol_268 : decode cX6_readSymbol 268 = .ok (.if_icmp .ne 9, 3) := by decide +kernel
theorem dX6_readSymbol_271 : decode cX6_readSymbol 271 = .ok (.sipush 256, 3) := by decide +kernel
theorem dX6_readSymbol_274 : decode cX6_readSymbol 274 = .ok (.goto 6, 3) := by decide +kernel
theorem dX6_readSymbol_277 : decode cX6_readSymbol 277 = .ok (.sipush 257, 3) := by decide +kernel
theorem dX6_readSymbol_280 : decode cX6_readSymbol 280 = .ok (.ireturn, 1) := by decide +kernel
theorem dX6_readSymbol_281 : decode cX6_readSymbol 281 = .ok (.iload_n 2, 1) := by decide +kernel
theorem dX6_readSymbol_282 : decode cX6_readSymbol 282 = .ok (.ireturn, 1) := by decide +kernel
theorem dX6_readSymbol_283 : decode cX6_readSymbol 283 = .ok (.sipush 261, 3) := by decide +kernel
theorem dX6_readSymbol_286 : decode cX6_readSymbol 286 = .ok (.ireturn, 1) := by decide +kernel
theorem dX7_init_0 : decode cX7_init 0 = .ok (.aload_n 0, 1) := by decide +kernel
theorem dX7_init_1 : decode cX7_init 1 = .ok (.invokespecial 3, 3) := by decide +kernel
theorem dX7_init_4 : decode cX7_init 4 = .ok (.aload_n 0, 1) := by decide +kernel
theorem dX7_init_5 : decode cX7_init 5 = .ok (.bipush 20, 2) := by decide +kernel
theorem dX7_init_7 : decode cX7_init 7 = .ok (.newarray .int, 2) := by decide +kernel
theorem dX7_init_9 : decode cX7_init 9 = .ok (.putfield 9, 3) := by decide +kernel
theorem dX7_init_12 : decode cX7_init 12 = .ok (.aload_n 0, 1) := by decide +kernel
theorem dX7_init_13 : decode cX7_init 13 = .ok (.bipush 20, 2) := by decide +kernel
theorem dX7_init_15 : decode cX7_init 15 = .ok (.newarray .int, 2) := by decide +kernel
theorem dX7_init_17 : decode cX7_init 17 = .ok (.putfield 15, 3) := by decide +kernel
theorem dX7_init_20 : decode cX7_init 20 = .ok (.aload_n 0, 1) := by decide +kernel
theorem dX7_init_21 : decode cX7_init 21 = .ok (.iconst (-1), 1) := by decide +kernel
theorem dX7_init_22 : decode cX7_init 22 = .ok (.putfield 18, 3) := by decide +kernel
theorem dX7_init_25 : decode cX7_init 25 = .ok (.aload_n 0, 1) := by decide +kernel
theorem dX7_init_26 : decode cX7_init 26 = .ok (.aload_n 1, 1) := by decide +kernel
theorem dX7_init_27 : decode cX7_init 27 = .ok (.putfield 22, 3) := by decide +kernel
theorem dX7_init_30 : decode cX7_init 30 = .ok (.return_, 1) := by decide +kernel
theorem dX7_forget_0 : decode cX7_forget 0 = .ok (.aload_n 0, 1) := by decide +kernel
theorem dX7_forget_1 : decode cX7_forget 1 = .ok (.iconst (-1), 1) := by decide +kernel
theorem dX7_forget_2 : decode cX7_forget 2 = .ok (.putfield 18, 3) := by decide +kernel
theorem dX7_forget_5 : decode cX7_forget 5 = .ok (.return_, 1) := by decide +kernel
theorem dX7_reach_0 : decode cX7_reach 0 = .ok (.aload_n 0, 1) := by decide +kernel
theorem dX7_reach_1 : decode cX7_reach 1 = .ok (.iload_n 1, 1) := by decide +kernel
theorem dX7_reach_2 : decode cX7_reach 2 = .ok (.invokevirtual 26, 3) := by decide +kernel
theorem dX7_reach_5 : decode cX7_reach 5 = .ok (.iload_n 2, 1) := by decide +kernel
theorem dX7_reach_6 : decode cX7_reach 6 = .ok (.ifCond .lt 21, 3) := by decide +kernel
theorem dX7_reach_9 : decode cX7_reach 9 = .ok (.iload_n 2, 1) := by decide +kernel
theorem dX7_reach_10 : decode cX7_reach 10 = .ok (.aload_n 0, 1) := by decide +kernel
theorem dX7_reach_11 : decode cX7_reach 11 = .ok (.getfield 15, 3) := by decide +kernel
theorem dX7_reach_14 : decode cX7_reach 14 = .ok (.arraylength, 1) := by decide +kernel
theorem dX7_reach_15 : decode cX7_reach 15 = .ok (.if_icmp .ge 12, 3) := by decide +kernel
theorem dX7_reach_18 : decode cX7_reach 18 = .ok (.aload_n 0, 1) := by decide +kernel
theorem dX7_reach_19 : decode cX7_reach 19 = .ok (.getfield 15, 3) := by decide +kernel
theorem dX7_reach_22 : decode cX7_reach 22 = .ok (.iload_n 2, 1) := by decide +kernel
theorem dX7_reach_23 : decode cX7_reach 23 = .ok (.iaload, 1) := by decide +kernel
theorem dX7_reach_24 : decode cX7_reach 24 = .ok (.goto 4, 3) := by decide +kernel
theorem dX7_reach_27 : decode cX7_reach 27 = .ok (.iconst 0, 1) := by decide +kernel
theorem dX7_reach_28 : decode cX7_reach 28 = .ok (.ireturn, 1) := by decide +kernel
theorem dX7_part_0 : decode cX7_part 0 = .ok (.aload_n 0, 1) := by decide +kernel
theorem dX7_part_1 : decode cX7_part 1 = .ok (.iload_n 1, 1) := by decide +kernel
theorem dX7_part_2 : decode cX7_part 2 = .ok (.invokevirtual 26, 3) := by decide +kernel
theorem dX7_part_5 : decode cX7_part 5 = .ok (.aload_n 0, 1) := by decide +kernel
theorem dX7_part_6 : decode cX7_part 6 = .ok (.iload_n 2, 1) := by decide +kernel
theorem dX7_part_7 : decode cX7_part 7 = .ok (.invokevirtual 30, 3) := by decide +kernel
theorem dX7_part_10 : decode cX7_part 10 = .ok (.ireturn, 1) := by decide +kernel
theorem dX7_countParts_0 : decode cX7_countParts 0 = .ok (.aload_n 0, 1) := by decide +kernel
theorem dX7_countParts_1 : decode cX7_countParts 1 = .ok (.iload_n 1, 1) := by decide +kernel
theorem dX7_countParts_2 : decode cX7_countParts 2 = .ok (.invokevirtual 26, 3) := by decide +kernel
theorem dX7_countParts_5 : decode cX7_countParts 5 = .ok (.aload_n 0, 1) := by decide +kernel
theorem dX7_countParts_6 : decode cX7_countParts 6 = .ok (.getfield 34, 3) := by decide +kernel
theorem dX7_countParts_9 : decode cX7_countParts 9 = .ok (.ireturn, 1) := by decide +kernel
theorem dX7_distance_0 : decode cX7_distance 0 = .ok (.aload_n 0, 1) := by decide +kernel
theorem dX7_distance_1 : decode cX7_distance 1 = .ok (.iload_n 1, 1) := by decide +kernel
theorem dX7_distance_2 : decode cX7_distance 2 = .ok (.invokevirtual 26, 3) := by decide +kernel
theorem dX7_distance_5 : decode cX7_distance 5 = .ok (.iconst 0, 1) := by decide +kernel
theorem dX7_distance_6 : decode cX7_distance 6 = .ok (.iload_n 3, 1) := by decide +kernel
theorem dX7_distance_7 : decode cX7_distance 7 = .ok (.invokestatic 37, 3) := by decide +kernel
theorem dX7_distance_10 : decode cX7_distance 10 = .ok (.istore 4, 2) := by decide +kernel
theorem dX7_distance_12 : decode cX7_distance 12 = .ok (.iconst 0, 1) := by decide +kernel
theorem dX7_distance_13 : decode cX7_distance 13 = .ok (.istore 5, 2) := by decide +kernel
theorem dX7_distance_15 : decode cX7_distance 15 = .ok (.iload 5, 2) := by decide +kernel
theorem dX7_distance_17 : decode cX7_distance 17 = .ok (.bipush 20, 2) := by decide +kernel
theorem dX7_distance_19 : decode cX7_distance 19 = .ok (.if_icmp .gt 32, 3) := by decide +kernel
theorem dX7_distance_22 : decode cX7_distance 22 = .ok (.iload 4, 2) := by decide +kernel
theorem dX7_distance_24 : decode cX7_distance 24 = .ok (.iload_n 2, 1) := by decide +kernel
theorem dX7_distance_25 : decode cX7_distance 25 = .ok (.invokestatic 41, 3) := by decide +kernel
theorem dX7_distance_28 : decode cX7_distance 28 = .ok (.ifCond .eq 6, 3) := by decide +kernel
theorem dX7_distance_31 : decode cX7_distance 31 = .ok (.iload 5, 2) := by decide +kernel
theorem dX7_distance_33 : decode cX7_distance 33 = .ok (.ireturn, 1) := by decide +kernel
theorem dX7_distance_34 : decode cX7_distance 34 = .ok (.iload 4, 2) := by decide +kernel
theorem dX7_distance_36 : decode cX7_distance 36 = .ok (.aload_n 0, 1) := by decide +kernel
theorem dX7_distance_37 : decode cX7_distance 37 = .ok (.iload 4, 2) := by decide +kernel
theorem dX7_distance_39 : decode cX7_distance 39 = .ok (.invokevirtual 45, 3) := by decide +kernel
theorem dX7_distance_42 : decode cX7_distance 42 = .ok (.ior, 1) := by decide +kernel
theorem dX7_distance_43 : decode cX7_distance 43 = .ok (.istore 4, 2) := by decide +kernel
theorem dX7_distance_45 : decode cX7_distance 45 = .ok (.iinc 5 1, 3) := by decide +kernel
theorem dX7_distance_48 : decode cX7_distance 48 = .ok (.goto (-33), 3) := by decide +kernel
theorem dX7_distance_51 : decode cX7_distance 51 = .ok (.iconst (-1), 1) := by decide +kernel
theorem dX7_distance_52 : decode cX7_distance 52 = .ok (.ireturn, 1) := by decide +kernel
theorem dX7_afterOneStep_0 : decode cX7_afterOneStep 0 = .ok (.iconst 0, 1) := by decide +kernel
theorem dX7_afterOneStep_1 : decode cX7_afterOneStep 1 = .ok (.istore_n 2, 1) := by decide +kernel
theorem dX7_afterOneStep_2 : decode cX7_afterOneStep 2 = .ok (.iconst 0, 1) := by decide +kernel
theorem dX7_afterOneStep_3 : decode cX7_afterOneStep 3 = .ok (.istore_n 3, 1) := by decide +kernel
theorem dX7_afterOneStep_4 : decode cX7_afterOneStep 4 = .ok (.iload_n 3, 1) := by decide +kernel
theorem dX7_afterOneStep_5 : decode cX7_afterOneStep 5 = .ok (.aload_n 0, 1) := by decide +kernel
theorem dX7_afterOneStep_6 : decode cX7_afterOneStep 6 = .ok (.getfield 48, 3) := by decide +kernel
theorem dX7_afterOneStep_9 : decode cX7_afterOneStep 9 = .ok (.if_icmp .ge 35, 3) := by decide +kernel
theorem dX7_afterOneStep_12 : decode cX7_afterOneStep 12 = .ok (.iload_n 3, 1) := by decide +kernel
theorem dX7_afterOneStep_13 : decode cX7_afterOneStep 13 = .ok (.aload_n 0, 1) := by decide +kernel
theorem dX7_afterOneStep_14 : decode cX7_afterOneStep 14 = .ok (.getfield 9, 3) := by decide +kernel
theorem dX7_afterOneStep_17 : decode cX7_afterOneStep 17 = .ok (.arraylength, 1) := by decide +kernel
theorem dX7_afterOneStep_18 : decode cX7_afterOneStep 18 = .ok (.if_icmp .ge 26, 3) := by decide +kernel
theorem dX7_afterOneStep_21 : decode cX7_afterOneStep 21 = .ok (.iload_n 1, 1) := by decide +kernel
theorem dX7_afterOneStep_22 : decode cX7_afterOneStep 22 = .ok (.iload_n 3, 1) := by decide +kernel
theorem dX7_afterOneStep_23 : decode cX7_afterOneStep 23 = .ok (.invokestatic 41, 3) := by decide +kernel
theorem dX7_afterOneStep_26 : decode cX7_afterOneStep 26 = .ok (.ifCond .eq 12, 3) := by decide +kernel
theorem dX7_afterOneStep_29 : decode cX7_afterOneStep 29 = .ok (.iload_n 2, 1) := by decide +kernel
theorem dX7_afterOneStep_30 : decode cX7_afterOneStep 30 = .ok (.aload_n 0, 1) := by decide +kernel
theorem dX7_afterOneStep_31 : decode cX7_afterOneStep 31 = .ok (.getfield 9, 3) := by decide +kernel
theorem dX7_afterOneStep_34 : decode cX7_afterOneStep 34 = .ok (.iload_n 3, 1) := by decide +kernel
theorem dX7_afterOneStep_35 : decode cX7_afterOneStep 35 = .ok (.iaload, 1) := by decide +kernel
theorem dX7_afterOneStep_36 : decode cX7_afterOneStep 36 = .ok (.ior, 1) := by decide +kernel
theorem dX7_afterOneStep_37 : decode cX7_afterOneStep 37 = .ok (.istore_n 2, 1) := by decide +kernel
theorem dX7_afterOneStep_38 : decode cX7_afterOneStep 38 = .ok (.iinc 3 1, 3) := by decide +kernel
theorem dX7_afterOneStep_41 : decode cX7_afterOneStep 41 = .ok (.goto (-37), 3) := by decide +kernel
theorem dX7_afterOneStep_44 : decode cX7_afterOneStep 44 = .ok (.iload_n 2, 1) := by decide +kernel
theorem dX7_afterOneStep_45 : decode cX7_afterOneStep 45 = .ok (.ireturn, 1) := by decide +kernel
theorem dX7_look_0 : decode cX7_look 0 = .ok (.iload_n 1, 1) := by decide +kernel
theorem dX7_look_1 : decode cX7_look 1 = .ok (.aload_n 0, 1) := by decide +kernel
theorem dX7_look_2 : decode cX7_look 2 = .ok (.getfield 18, 3) := by decide +kernel
theorem dX7_look_5 : decode cX7_look 5 = .ok (.if_icmp .ne 4, 3) := by decide +kernel
theorem dX7_look_8 : decode cX7_look 8 = .ok (.return_, 1) := by decide +kernel
theorem dX7_look_9 : decode cX7_look 9 = .ok (.aload_n 0, 1) := by decide +kernel
theorem dX7_look_10 : decode cX7_look 10 = .ok (.iload_n 1, 1) := by decide +kernel
theorem dX7_look_11 : decode cX7_look 11 = .ok (.putfield 18, 3) := by decide +kernel
theorem dX7_look_14 : decode cX7_look 14 = .ok (.aload_n 0, 1) := by decide +kernel
theorem dX7_look_15 : decode cX7_look 15 = .ok (.iconst 2, 1) := by decide +kernel
theorem dX7_look_16 : decode cX7_look 16 = .ok (.aload_n 0, 1) := by decide +kernel
theorem dX7_look_17 : decode cX7_look 17 = .ok (.getfield 22, 3) := by decide +kernel
theorem dX7_look_20 : decode cX7_look 20 = .ok (.getfield 51, 3) := by decide +kernel
theorem dX7_look_23 : decode cX7_look 23 = .ok (.imul, 1) := by decide +kernel
theorem dX7_look_24 : decode cX7_look 24 = .ok (.putfield 48, 3) := by decide +kernel
theorem dX7_look_27 : decode cX7_look 27 = .ok (.iconst 0, 1) := by decide +kernel
theorem dX7_look_28 : decode cX7_look 28 = .ok (.istore_n 2, 1) := by decide +kernel
theorem dX7_look_29 : decode cX7_look 29 = .ok (.iload_n 2, 1) := by decide +kernel
theorem dX7_look_30 : decode cX7_look 30 = .ok (.aload_n 0, 1) := by decide +kernel
theorem dX7_look_31 : decode cX7_look 31 = .ok (.getfield 48, 3) := by decide +kernel
theorem dX7_look_34 : decode cX7_look 34 = .ok (.if_icmp .ge 25, 3) := by decide +kernel
theorem dX7_look_37 : decode cX7_look 37 = .ok (.iload_n 2, 1) := by decide +kernel
theorem dX7_look_38 : decode cX7_look 38 = .ok (.aload_n 0, 1) := by decide +kernel
theorem dX7_look_39 : decode cX7_look 39 = .ok (.getfield 9, 3) := by decide +kernel
theorem dX7_look_42 : decode cX7_look 42 = .ok (.arraylength, 1) := by decide +kernel
theorem dX7_look_43 : decode cX7_look 43 = .ok (.if_icmp .ge 16, 3) := by decide +kernel
theorem dX7_look_46 : decode cX7_look 46 = .ok (.aload_n 0, 1) := by decide +kernel
theorem dX7_look_47 : decode cX7_look 47 = .ok (.getfield 9, 3) := by decide +kernel
theorem dX7_look_50 : decode cX7_look 50 = .ok (.iload_n 2, 1) := by decide +kernel
theorem dX7_look_51 : decode cX7_look 51 = .ok (.iconst 0, 1) := by decide +kernel
theorem dX7_look_52 : decode cX7_look 52 = .ok (.iastore, 1) := by decide +kernel
theorem dX7_look_53 : decode cX7_look 53 = .ok (.iinc 2 1, 3) := by decide +kernel
theorem dX7_look_56 : decode cX7_look 56 = .ok (.goto (-27), 3) := by decide +kernel
theorem dX7_look_59 : decode cX7_look 59 = .ok (.iconst 0, 1) := by decide +kernel
theorem dX7_look_60 : decode cX7_look 60 = .ok (.istore_n 2, 1) := by decide +kernel
theorem dX7_look_61 : decode cX7_look 61 = .ok (.iload_n 2, 1) := by decide +kernel
theorem dX7_look_62 : decode cX7_look 62 = .ok (.aload_n 0, 1) := by decide +kernel
theorem dX7_look_63 : decode cX7_look 63 = .ok (.getfield 22, 3) := by decide +kernel
theorem dX7_look_66 : decode cX7_look 66 = .ok (.getfield 56, 3) := by decide +kernel
theorem dX7_look_69 : decode cX7_look 69 = .ok (.if_icmp .ge 61, 3) := by decide +kernel
theorem dX7_look_72 : decode cX7_look 72 = .ok (.iload_n 1, 1) := by decide +kernel
theorem dX7_look_73 : decode cX7_look 73 = .ok (.iload_n 2, 1) := by decide +kernel
theorem dX7_look_74 : decode cX7_look 74 = .ok (.invokestatic 41, 3) := by decide +kernel
theorem dX7_look_77 : decode cX7_look 77 = .ok (.ifCond .eq 47, 3) := by decide +kernel
theorem dX7_look_80 : decode cX7_look 80 = .ok (.aload_n 0, 1) := by decide +kernel
theorem dX7_look_81 : decode cX7_look 81 = .ok (.aload_n 0, 1) := by decide +kernel
theorem dX7_look_82 : decode cX7_look 82 = .ok (.getfield 22, 3) := by decide +kernel
theorem dX7_look_85 : decode cX7_look 85 = .ok (.iload_n 2, 1) := by decide +kernel
theorem dX7_look_86 : decode cX7_look 86 = .ok (.invokevirtual 59, 3) := by decide +kernel
theorem dX7_look_89 : decode cX7_look 89 = .ok (.iconst 1, 1) := by decide +kernel
theorem dX7_look_90 : decode cX7_look 90 = .ok (.ixor, 1) := by decide +kernel
theorem dX7_look_91 : decode cX7_look 91 = .ok (.aload_n 0, 1) := by decide +kernel
theorem dX7_look_92 : decode cX7_look 92 = .ok (.getfield 22, 3) := by decide +kernel
theorem dX7_look_95 : decode cX7_look 95 = .ok (.iload_n 2, 1) := by decide +kernel
theorem dX7_look_96 : decode cX7_look 96 = .ok (.invokevirtual 62, 3) := by decide +kernel
theorem dX7_look_99 : decode cX7_look 99 = .ok (.invokevirtual 65, 3) := by decide +kernel
theorem dX7_look_102 : decode cX7_look 102 = .ok (.aload_n 0, 1) := by decide +kernel
theorem dX7_look_103 : decode cX7_look 103 = .ok (.aload_n 0, 1) := by decide +kernel
theorem dX7_look_104 : decode cX7_look 104 = .ok (.getfield 22, 3) := by decide +kernel
theorem dX7_look_107 : decode cX7_look 107 = .ok (.iload_n 2, 1) := by decide +kernel
theorem dX7_look_108 : decode cX7_look 108 = .ok (.invokevirtual 62, 3) := by decide +kernel
theorem dX7_look_111 : decode cX7_look 111 = .ok (.iconst 1, 1) := by decide +kernel
theorem dX7_look_112 : decode cX7_look 112 = .ok (.ixor, 1) := by decide +kernel
theorem dX7_look_113 : decode cX7_look 113 = .ok (.aload_n 0, 1) := by decide +kernel
theorem dX7_look_114 : decode cX7_look 114 = .ok (.getfield 22, 3) := by decide +kernel
theorem dX7_look_117 : decode cX7_look 117 = .ok (.iload_n 2, 1) := by decide +kernel
theorem dX7_look_118 : decode cX7_look 118 = .ok (.invokevirtual 59, 3) := by decide +kernel
theorem dX7_look_121 : decode cX7_look 121 = .ok (.invokevirtual 65, 3) := by decide +kernel
theorem dX7_look_124 : decode cX7_look 124 = .ok (.iinc 2 1, 3) := by decide +kernel
theorem dX7_look_127 : decode cX7_look 127 = .ok (.goto (-66), 3) := by decide +kernel
theorem dX7_look_130 : decode cX7_look 130 = .ok (.aload_n 0, 1) := by decide +kernel
theorem dX7_look_131 : decode cX7_look 131 = .ok (.invokevirtual 69, 3) := by decide +kernel
theorem dX7_look_134 : decode cX7_look 134 = .ok (.aload_n 0, 1) := by decide +kernel
theorem dX7_look_135 : decode cX7_look 135 = .ok (.iconst 0, 1) := by decide +kernel
theorem dX7_look_136 : decode cX7_look 136 = .ok (.putfield 34, 3) := by decide +kernel
theorem dX7_look_139 : decode cX7_look 139 = .ok (.iconst 0, 1) := by decide +kernel
theorem dX7_look_140 : decode cX7_look 140 = .ok (.istore_n 2, 1) := by decide +kernel
theorem dX7_look_141 : decode cX7_look 141 = .ok (.iload_n 2, 1) := by decide +kernel
theorem dX7_look_142 : decode cX7_look 142 = .ok (.aload_n 0, 1) := by decide +kernel
theorem dX7_look_143 : decode cX7_look 143 = .ok (.getfield 48, 3) := by decide +kernel
theorem dX7_look_146 : decode cX7_look 146 = .ok (.if_icmp .ge 31, 3) := by decide +kernel
theorem dX7_look_149 : decode cX7_look 149 = .ok (.aload_n 0, 1) := by decide +kernel
theorem dX7_look_150 : decode cX7_look 150 = .ok (.iload_n 2, 1) := by decide +kernel
theorem dX7_look_151 : decode cX7_look 151 = .ok (.invokevirtual 30, 3) := by decide +kernel
theorem dX7_look_154 : decode cX7_look 154 = .ok (.invokestatic 72, 3) := by decide +kernel
theorem dX7_look_157 : decode cX7_look 157 = .ok (.iload_n 2, 1) := by decide +kernel
theorem dX7_look_158 : decode cX7_look 158 = .ok (.if_icmp .ne 13, 3) := by decide +kernel
theorem dX7_look_161 : decode cX7_look 161 = .ok (.aload_n 0, 1) := by decide +kernel
theorem dX7_look_162 : decode cX7_look 162 = .ok (.dup, 1) := by decide +kernel
theorem dX7_look_163 : decode cX7_look 163 = .ok (.getfield 34, 3) := by decide +kernel
theorem dX7_look_166 : decode cX7_look 166 = .ok (.iconst 1, 1) := by decide +kernel
theorem dX7_look_167 : decode cX7_look 167 = .ok (.iadd, 1) := by decide +kernel
theorem dX7_look_168 : decode cX7_look 168 = .ok (.putfield 34, 3) := by decide +kernel
theorem dX7_look_171 : decode cX7_look 171 = .ok (.iinc 2 1, 3) := by decide +kernel
theorem dX7_look_174 : decode cX7_look 174 = .ok (.goto (-33), 3) := by decide +kernel
theorem dX7_look_177 : decode cX7_look 177 = .ok (.return_, 1) := by decide +kernel
theorem dX7_together_0 : decode cX7_together 0 = .ok (.iconst 0, 1) := by decide +kernel
theorem dX7_together_1 : decode cX7_together 1 = .ok (.istore_n 2, 1) := by decide +kernel
theorem dX7_together_2 : decode cX7_together 2 = .ok (.iconst 0, 1) := by decide +kernel
theorem dX7_together_3 : decode cX7_together 3 = .ok (.istore_n 3, 1) := by decide +kernel
theorem dX7_together_4 : decode cX7_together 4 = .ok (.iload_n 3, 1) := by decide +kernel
theorem dX7_together_5 : decode cX7_together 5 = .ok (.aload_n 0, 1) := by decide +kernel
theorem dX7_together_6 : decode cX7_together 6 = .ok (.getfield 48, 3) := by decide +kernel
theorem dX7_together_9 : decode cX7_together 9 = .ok (.if_icmp .ge 63, 3) := by decide +kernel
theorem dX7_together_12 : decode cX7_together 12 = .ok (.iload_n 3, 1) := by decide +kernel
theorem dX7_together_13 : decode cX7_together 13 = .ok (.aload_n 0, 1) := by decide +kernel
theorem dX7_together_14 : decode cX7_together 14 = .ok (.getfield 15, 3) := by decide +kernel
theorem dX7_together_17 : decode cX7_together 17 = .ok (.arraylength, 1) := by decide +kernel
theorem dX7_together_18 : decode cX7_together 18 = .ok (.if_icmp .ge 54, 3) := by decide +kernel
theorem dX7_together_21 : decode cX7_together 21 = .ok (.aload_n 0, 1) := by decide +kernel
theorem dX7_together_22 : decode cX7_together 22 = .ok (.getfield 15, 3) := by decide +kernel
theorem dX7_together_25 : decode cX7_together 25 = .ok (.iload_n 3, 1) := by decide +kernel
theorem dX7_together_26 : decode cX7_together 26 = .ok (.iaload, 1) := by decide +kernel
theorem dX7_together_27 : decode cX7_together 27 = .ok (.iload_n 1, 1) := by decide +kernel
theorem dX7_together_28 : decode cX7_together 28 = .ok (.invokestatic 41, 3) := by decide +kernel
theorem dX7_together_31 : decode cX7_together 31 = .ok (.ifCond .eq 35, 3) := by decide +kernel
theorem dX7_together_34 : decode cX7_together 34 = .ok (.iload_n 1, 1) := by decide +kernel
theorem dX7_together_35 : decode cX7_together 35 = .ok (.ifCond .lt 31, 3) := by decide +kernel
theorem dX7_together_38 : decode cX7_together 38 = .ok (.iload_n 1, 1) := by decide +kernel
theorem dX7_together_39 : decode cX7_together 39 = .ok (.aload_n 0, 1) := by decide +kernel
theorem dX7_together_40 : decode cX7_together 40 = .ok (.getfield 15, 3) := by decide +kernel
theorem dX7_together_43 : decode cX7_together 43 = .ok (.arraylength, 1) := by decide +kernel
theorem dX7_together_44 : decode cX7_together 44 = .ok (.if_icmp .ge 22, 3) := by decide +kernel
theorem dX7_together_47 : decode cX7_together 47 = .ok (.aload_n 0, 1) := by decide +kernel
theorem dX7_together_48 : decode cX7_together 48 = .ok (.getfield 15, 3) := by decide +kernel
theorem dX7_together_51 : decode cX7_together 51 = .ok (.iload_n 1, 1) := by decide +kernel
theorem dX7_together_52 : decode cX7_together 52 = .ok (.iaload, 1) := by decide +kernel
theorem dX7_together_53 : decode cX7_together 53 = .ok (.iload_n 3, 1) := by decide +kernel
theorem dX7_together_54 : decode cX7_together 54 = .ok (.invokestatic 41, 3) := by decide +kernel
theorem dX7_together_57 : decode cX7_together 57 = .ok (.ifCond .eq 9, 3) := by decide +kernel
theorem dX7_together_60 : decode cX7_together 60 = .ok (.iload_n 2, 1) := by decide +kernel
theorem dX7_together_61 : decode cX7_together 61 = .ok (.iload_n 3, 1) := by decide +kernel
theorem dX7_together_62 : decode cX7_together 62 = .ok (.invokestatic 37, 3) := by decide +kernel
theorem dX7_together_65 : decode cX7_together 65 = .ok (.istore_n 2, 1) := by decide +kernel
theorem dX7_together_66 : decode cX7_together 66 = .ok (.iinc 3 1, 3) := by decide +kernel
theorem dX7_together_69 : decode cX7_together 69 = .ok (.goto (-65), 3) := by decide +kernel
theorem dX7_together_72 : decode cX7_together 72 = .ok (.iload_n 2, 1) := by decide +kernel
theorem dX7_together_73 : decode cX7_together 73 = .ok (.ireturn, 1) := by decide +kernel
theorem dX7_addStep_0 : decode cX7_addStep 0 = .ok (.iload_n 1, 1) := by decide +kernel
theorem dX7_addStep_1 : decode cX7_addStep 1 = .ok (.ifCond .lt 28, 3) := by decide +kernel
theorem dX7_addStep_4 : decode cX7_addStep 4 = .ok (.iload_n 1, 1) := by decide +kernel
theorem dX7_addStep_5 : decode cX7_addStep 5 = .ok (.aload_n 0, 1) := by decide +kernel
theorem dX7_addStep_6 : decode cX7_addStep 6 = .ok (.getfield 9, 3) := by decide +kernel
theorem dX7_addStep_9 : decode cX7_addStep 9 = .ok (.arraylength, 1) := by decide +kernel
theorem dX7_addStep_10 : decode cX7_addStep 10 = .ok (.if_icmp .ge 19, 3) := by decide +kernel
theorem dX7_addStep_13 : decode cX7_addStep 13 = .ok (.aload_n 0, 1) := by decide +kernel
theorem dX7_addStep_14 : decode cX7_addStep 14 = .ok (.getfield 9, 3) := by decide +kernel
theorem dX7_addStep_17 : decode cX7_addStep 17 = .ok (.iload_n 1, 1) := by decide +kernel
theorem dX7_addStep_18 : decode cX7_addStep 18 = .ok (.aload_n 0, 1) := by decide +kernel
theorem dX7_addStep_19 : decode cX7_addStep 19 = .ok (.getfield 9, 3) := by decide +kernel
theorem dX7_addStep_22 : decode cX7_addStep 22 = .ok (.iload_n 1, 1) := by decide +kernel
theorem dX7_addStep_23 : decode cX7_addStep 23 = .ok (.iaload, 1) := by decide +kernel
theorem dX7_addStep_24 : decode cX7_addStep 24 = .ok (.iload_n 2, 1) := by decide +kernel
theorem dX7_addStep_25 : decode cX7_addStep 25 = .ok (.invokestatic 37, 3) := by decide +kernel
theorem dX7_addStep_28 : decode cX7_addStep 28 = .ok (.iastore, 1) := by decide +kernel
theorem dX7_addStep_29 : decode cX7_addStep 29 = .ok (.return_, 1) := by decide +kernel
theorem dX7_close_0 : decode cX7_close 0 = .ok (.aload_n 0, 1) := by decide +kernel
theorem dX7_close_1 : decode cX7_close 1 = .ok (.getfield 48, 3) := by decide +kernel
theorem dX7_close_4 : decode cX7_close 4 = .ok (.aload_n 0, 1) := by decide +kernel
theorem dX7_close_5 : decode cX7_close 5 = .ok (.getfield 9, 3) := by decide +kernel
theorem dX7_close_8 : decode cX7_close 8 = .ok (.arraylength, 1) := by decide +kernel
theorem dX7_close_9 : decode cX7_close 9 = .ok (.aload_n 0, 1) := by decide +kernel
theorem dX7_close_10 : decode cX7_close 10 = .ok (.getfield 15, 3) := by decide +kernel
theorem dX7_close_13 : decode cX7_close 13 = .ok (.arraylength, 1) := by decide +kernel
theorem dX7_close_14 : decode cX7_close 14 = .ok (.invokestatic 75, 3) := by decide +kernel
theorem dX7_close_17 : decode cX7_close 17 = .ok (.invokestatic 75, 3) := by decide +kernel
theorem dX7_close_20 : decode cX7_close 20 = .ok (.istore_n 1, 1) := by decide +kernel
theorem dX7_close_21 : decode cX7_close 21 = .ok (.iconst 0, 1) := by decide +kernel
theorem dX7_close_22 : decode cX7_close 22 = .ok (.istore_n 2, 1) := by decide +kernel
theorem dX7_close_23 : decode cX7_close 23 = .ok (.iload_n 2, 1) := by decide +kernel
theorem dX7_close_24 : decode cX7_close 24 = .ok (.iload_n 1, 1) := by decide +kernel
theorem dX7_close_25 : decode cX7_close 25 = .ok (.if_icmp .ge 25, 3) := by decide +kernel
theorem dX7_close_28 : decode cX7_close 28 = .ok (.aload_n 0, 1) := by decide +kernel
theorem dX7_close_29 : decode cX7_close 29 = .ok (.getfield 15, 3) := by decide +kernel
theorem dX7_close_32 : decode cX7_close 32 = .ok (.iload_n 2, 1) := by decide +kernel
theorem dX7_close_33 : decode cX7_close 33 = .ok (.aload_n 0, 1) := by decide +kernel
theorem dX7_close_34 : decode cX7_close 34 = .ok (.getfield 9, 3) := by decide +kernel
theorem dX7_close_37 : decode cX7_close 37 = .ok (.iload_n 2, 1) := by decide +kernel
theorem dX7_close_38 : decode cX7_close 38 = .ok (.iaload, 1) := by decide +kernel
theorem dX7_close_39 : decode cX7_close 39 = .ok (.iload_n 2, 1) := by decide +kernel
theorem dX7_close_40 : decode cX7_close 40 = .ok (.invokestatic 37, 3) := by decide +kernel
theorem dX7_close_43 : decode cX7_close 43 = .ok (.iastore, 1) := by decide +kernel
theorem dX7_close_44 : decode cX7_close 44 = .ok (.iinc 2 1, 3) := by decide +kernel
theorem dX7_close_47 : decode cX7_close 47 = .ok (.goto (-24), 3) := by decide +kernel
theorem dX7_close_50 : decode cX7_close 50 = .ok (.iconst 0, 1) := by decide +kernel
theorem dX7_close_51 : decode cX7_close 51 = .ok (.istore_n 2, 1) := by decide +kernel
theorem dX7_close_52 : decode cX7_close 52 = .ok (.iload_n 2, 1) := by decide +kernel
theorem dX7_close_53 : decode cX7_close 53 = .ok (.iload_n 1, 1) := by decide +kernel
theorem dX7_close_54 : decode cX7_close 54 = .ok (.if_icmp .ge 50, 3) := by decide +kernel
theorem dX7_close_57 : decode cX7_close 57 = .ok (.iconst 0, 1) := by decide +kernel
theorem dX7_close_58 : decode cX7_close 58 = .ok (.istore_n 3, 1) := by decide +kernel
theorem dX7_close_59 : decode cX7_close 59 = .ok (.iload_n 3, 1) := by decide +kernel
theorem dX7_close_60 : decode cX7_close 60 = .ok (.iload_n 1, 1) := by decide +kernel
theorem dX7_close_61 : decode cX7_close 61 = .ok (.if_icmp .ge 37, 3) := by decide +kernel
theorem dX7_close_64 : decode cX7_close 64 = .ok (.aload_n 0, 1) := by decide +kernel
theorem dX7_close_65 : decode cX7_close 65 = .ok (.getfield 15, 3) := by decide +kernel
theorem dX7_close_68 : decode cX7_close 68 = .ok (.iload_n 3, 1) := by decide +kernel
theorem dX7_close_69 : decode cX7_close 69 = .ok (.iaload, 1) := by decide +kernel
theorem dX7_close_70 : decode cX7_close 70 = .ok (.iload_n 2, 1) := by decide +kernel
theorem dX7_close_71 : decode cX7_close 71 = .ok (.invokestatic 41, 3) := by decide +kernel
theorem dX7_close_74 : decode cX7_close 74 = .ok (.ifCond .eq 18, 3) := by decide +kernel
theorem dX7_close_77 : decode cX7_close 77 = .ok (.aload_n 0, 1) := by decide +kernel
theorem dX7_close_78 : decode cX7_close 78 = .ok (.getfield 15, 3) := by decide +kernel
theorem dX7_close_81 : decode cX7_close 81 = .ok (.iload_n 3, 1) := by decide +kernel
theorem dX7_close_82 : decode cX7_close 82 = .ok (.dup2, 1) := by decide +kernel
theorem dX7_close_83 : decode cX7_close 83 = .ok (.iaload, 1) := by decide +kernel
theorem dX7_close_84 : decode cX7_close 84 = .ok (.aload_n 0, 1) := by decide +kernel
theorem dX7_close_85 : decode cX7_close 85 = .ok (.getfield 15, 3) := by decide +kernel
theorem dX7_close_88 : decode cX7_close 88 = .ok (.iload_n 2, 1) := by decide +kernel
theorem dX7_close_89 : decode cX7_close 89 = .ok (.iaload, 1) := by decide +kernel
theorem dX7_close_90 : decode cX7_close 90 = .ok (.ior, 1) := by decide +kernel
theorem dX7_close_91 : decode cX7_close 91 = .ok (.iastore, 1) := by decide +kernel
theorem dX7_close_92 : decode cX7_close 92 = .ok (.iinc 3 1, 3) := by decide +kernel
theorem dX7_close_95 : decode cX7_close 95 = .ok (.goto (-36), 3) := by decide +kernel
theorem dX7_close_98 : decode cX7_close 98 = .ok (.iinc 2 1, 3) := by decide +kernel
theorem dX7_close_101 : decode cX7_close 101 = .ok (.goto (-49), 3) := by decide +kernel
theorem dX7_close_104 : decode cX7_close 104 = .ok (.return_, 1) := by decide +kernel
theorem dX8_init_0 : decode cX8_init 0 = .ok (.aload_n 0, 1) := by decide +kernel
theorem dX8_init_1 : decode cX8_init 1 = .ok (.invokespecial 3, 3) := by decide +kernel
theorem dX8_init_4 : decode cX8_init 4 = .ok (.aload_n 0, 1) := by decide +kernel
theorem dX8_init_5 : decode cX8_init 5 = .ok (.new 9, 3) := by decide +kernel
theorem dX8_init_8 : decode cX8_init 8 = .ok (.dup, 1) := by decide +kernel
theorem dX8_init_9 : decode cX8_init 9 = .ok (.invokespecial 11, 3) := by decide +kernel
theorem dX8_init_12 : decode cX8_init 12 = .ok (.putfield 12, 3) := by decide +kernel
theorem dX8_init_15 : decode cX8_init 15 = .ok (.aload_n 0, 1) := by decide +kernel
theorem dX8_init_16 : decode cX8_init 16 = .ok (.new 16, 3) := by decide +kernel
theorem dX8_init_19 : decode cX8_init 19 = .ok (.dup, 1) := by decide +kernel
theorem dX8_init_20 : decode cX8_init 20 = .ok (.invokespecial 18, 3) := by decide +kernel
theorem dX8_init_23 : decode cX8_init 23 = .ok (.putfield 19, 3) := by decide +kernel
theorem dX8_init_26 : decode cX8_init 26 = .ok (.aload_n 0, 1) := by decide +kernel
theorem dX8_init_27 : decode cX8_init 27 = .ok (.new 23, 3) := by decide +kernel
theorem dX8_init_30 : decode cX8_init 30 = .ok (.dup, 1) := by decide +kernel
theorem dX8_init_31 : decode cX8_init 31 = .ok (.invokespecial 25, 3) := by decide +kernel
theorem dX8_init_34 : decode cX8_init 34 = .ok (.putfield 26, 3) := by decide +kernel
theorem dX8_init_37 : decode cX8_init 37 = .ok (.aload_n 0, 1) := by decide +kernel
theorem dX8_init_38 : decode cX8_init 38 = .ok (.new 23, 3) := by decide +kernel
theorem dX8_init_41 : decode cX8_init 41 = .ok (.dup, 1) := by decide +kernel
theorem dX8_init_42 : decode cX8_init 42 = .ok (.invokespecial 25, 3) := by decide +kernel
theorem dX8_init_45 : decode cX8_init 45 = .ok (.putfield 30, 3) := by decide +kernel
theorem dX8_init_48 : decode cX8_init 48 = .ok (.aload_n 0, 1) := by decide +kernel
theorem dX8_init_49 : decode cX8_init 49 = .ok (.new 33, 3) := by decide +kernel
theorem dX8_init_52 : decode cX8_init 52 = .ok (.dup, 1) := by decide +kernel
theorem dX8_init_53 : decode cX8_init 53 = .ok (.aload_n 0, 1) := by decide +kernel
theorem dX8_init_54 : decode cX8_init 54 = .ok (.getfield 19, 3) := by decide +kernel
theorem dX8_init_57 : decode cX8_init 57 = .ok (.aload_n 0, 1) := by decide +kernel
theorem dX8_init_58 : decode cX8_init 58 = .ok (.getfield 26, 3) := by decide +kernel
theorem dX8_init_61 : decode cX8_init 61 = .ok (.invokespecial 35, 3) := by decide +kernel
theorem dX8_init_64 : decode cX8_init 64 = .ok (.putfield 38, 3) := by decide +kernel
theorem dX8_init_67 : decode cX8_init 67 = .ok (.aload_n 0, 1) := by decide +kernel
theorem dX8_init_68 : decode cX8_init 68 = .ok (.new 42, 3) := by decide +kernel
theorem dX8_init_71 : decode cX8_init 71 = .ok (.dup, 1) := by decide +kernel
theorem dX8_init_72 : decode cX8_init 72 = .ok (.aload_n 0, 1) := by decide +kernel
theorem dX8_init_73 : decode cX8_init 73 = .ok (.getfield 30, 3) := by decide +kernel
theorem dX8_init_76 : decode cX8_init 76 = .ok (.invokespecial 44, 3) := by decide +kernel
theorem dX8_init_79 : decode cX8_init 79 = .ok (.putfield 47, 3) := by decide +kernel
theorem dX8_init_82 : decode cX8_init 82 = .ok (.aload_n 0, 1) := by decide +kernel
theorem dX8_init_83 : decode cX8_init 83 = .ok (.new 51, 3) := by decide +kernel
theorem dX8_init_86 : decode cX8_init 86 = .ok (.dup, 1) := by decide +kernel
theorem dX8_init_87 : decode cX8_init 87 = .ok (.aload_n 0, 1) := by decide +kernel
theorem dX8_init_88 : decode cX8_init 88 = .ok (.getfield 30, 3) := by decide +kernel
theorem dX8_init_91 : decode cX8_init 91 = .ok (.invokespecial 53, 3) := by decide +kernel
theorem dX8_init_94 : decode cX8_init 94 = .ok (.putfield 54, 3) := by decide +kernel
theorem dX8_init_97 : decode cX8_init 97 = .ok (.aload_n 0, 1) := by decide +kernel
theorem dX8_init_98 : decode cX8_init 98 = .ok (.new 58, 3) := by decide +kernel
theorem dX8_init_101 : decode cX8_init 101 = .ok (.dup, 1) := by decide +kernel
theorem dX8_init_102 : decode cX8_init 102 = .ok (.aload_n 0, 1) := by decide +kernel
theorem dX8_init_103 : decode cX8_init 103 = .ok (.getfield 30, 3) := by decide +kernel
theorem dX8_init_106 : decode cX8_init 106 = .ok (.aload_n 0, 1) := by decide +kernel
theorem dX8_init_107 : decode cX8_init 107 = .ok (.getfield 47, 3) := by decide +kernel
theorem dX8_init_110 : decode cX8_init 110 = .ok (.aload_n 0, 1) := by decide +kernel
theorem dX8_init_111 : decode cX8_init 111 = .ok (.getfield 54, 3) := by decide +kernel
theorem dX8_init_114 : decode cX8_init 114 = .ok (.invokespecial 60, 3) := by decide +kernel
theorem dX8_init_117 : decode cX8_init 117 = .ok (.putfield 63, 3) := by decide +kernel
theorem dX8_init_120 : decode cX8_init 120 = .ok (.aload_n 0, 1) := by decide +kernel
theorem dX8_init_121 : decode cX8_init 121 = .ok (.new 67, 3) := by decide +kernel
theorem dX8_init_124 : decode cX8_init 124 = .ok (.dup, 1) := by decide +kernel
theorem dX8_init_125 : decode cX8_init 125 = .ok (.invokespecial 69, 3) := by decide +kernel
theorem dX8_init_128 : decode cX8_init 128 = .ok (.putfield 70, 3) := by decide +kernel
theorem dX8_init_131 : decode cX8_init 131 = .ok (.aload_n 0, 1) := by decide +kernel
theorem dX8_init_132 : decode cX8_init 132 = .ok (.new 67, 3) := by decide +kernel
theorem dX8_init_135 : decode cX8_init 135 = .ok (.dup, 1) := by decide +kernel
theorem dX8_init_136 : decode cX8_init 136 = .ok (.invokespecial 69, 3) := by decide +kernel
theorem dX8_init_139 : decode cX8_init 139 = .ok (.putfield 74, 3) := by decide +kernel
theorem dX8_init_142 : decode cX8_init 142 = .ok (.aload_n 0, 1) := by decide +kernel
theorem dX8_init_143 : decode cX8_init 143 = .ok (.iconst (-1), 1) := by decide +kernel
theorem dX8_init_144 : decode cX8_init 144 = .ok (.putfield 77, 3) := by decide +kernel
theorem dX8_init_147 : decode cX8_init 147 = .ok (.return_, 1) := by decide +kernel
theorem dX8_feed_0 : decode cX8_feed 0 = .ok (.aload_n 0, 1) := by decide +kernel
theorem dX8_feed_1 : decode cX8_feed 1 = .ok (.getfield 12, 3) := by decide +kernel
theorem dX8_feed_4 : decode cX8_feed 4 = .ok (.getfield 81, 3) := by decide +kernel
theorem dX8_feed_7 : decode cX8_feed 7 = .ok (.sipush 1980, 3) := by decide +kernel
theorem dX8_feed_10 : decode cX8_feed 10 = .ok (.if_icmp .le 13, 3) := by decide +kernel
theorem dX8_feed_13 : decode cX8_feed 13 = .ok (.new 84, 3) := by decide +kernel
theorem dX8_feed_16 : decode cX8_feed 16 = .ok (.dup, 1) := by decide +kernel
theorem dX8_feed_17 : decode cX8_feed 17 = .ok (.ldc 86, 2) := by decide +kernel
theorem dX8_feed_19 : decode cX8_feed 19 = .ok (.invokespecial 88, 3) := by decide +kernel
theorem dX8_feed_22 : decode cX8_feed 22 = .ok (.athrow, 1) := by decide +kernel
theorem dX8_feed_23 : decode cX8_feed 23 = .ok (.aload_n 0, 1) := by decide +kernel
theorem dX8_feed_24 : decode cX8_feed 24 = .ok (.getfield 12, 3) := by decide +kernel
theorem dX8_feed_27 : decode cX8_feed 27 = .ok (.iload_n 1, 1) := by decide +kernel
theorem dX8_feed_28 : decode cX8_feed 28 = .ok (.invokevirtual 91, 3) := by decide +kernel
theorem dX8_feed_31 : decode cX8_feed 31 = .ok (.aload_n 0, 1) := by decide +kernel
theorem dX8_feed_32 : decode cX8_feed 32 = .ok (.getfield 12, 3) := by decide +kernel
theorem dX8_feed_35 : decode cX8_feed 35 = .ok (.iload_n 2, 1) := by decide +kernel
theorem dX8_feed_36 : decode cX8_feed 36 = .ok (.invokevirtual 91, 3) := by decide +kernel
theorem dX8_feed_39 : decode cX8_feed 39 = .ok (.aload_n 0, 1) := by decide +kernel
theorem dX8_feed_40 : decode cX8_feed 40 = .ok (.getfield 12, 3) := by decide +kernel
theorem dX8_feed_43 : decode cX8_feed 43 = .ok (.iload_n 3, 1) := by decide +kernel
theorem dX8_feed_44 : decode cX8_feed 44 = .ok (.invokevirtual 91, 3) := by decide +kernel
theorem dX8_feed_47 : decode cX8_feed 47 = .ok (.aload_n 0, 1) := by decide +kernel
theorem dX8_feed_48 : decode cX8_feed 48 = .ok (.getfield 12, 3) := by decide +kernel
theorem dX8_feed_51 : decode cX8_feed 51 = .ok (.iload 4, 2) := by decide +kernel
theorem dX8_feed_53 : decode cX8_feed 53 = .ok (.invokevirtual 91, 3) := by decide +kernel
theorem dX8_feed_56 : decode cX8_feed 56 = .ok (.aload_n 0, 1) := by decide +kernel
theorem dX8_feed_57 : decode cX8_feed 57 = .ok (.getfield 12, 3) := by decide +kernel
theorem dX8_feed_60 : decode cX8_feed 60 = .ok (.iload 5, 2) := by decide +kernel
theorem dX8_feed_62 : decode cX8_feed 62 = .ok (.invokevirtual 91, 3) := by decide +kernel
theorem dX8_feed_65 : decode cX8_feed 65 = .ok (.aload_n 0, 1) := by decide +kernel
theorem dX8_feed_66 : decode cX8_feed 66 = .ok (.getfield 12, 3) := by decide +kernel
theorem dX8_feed_69 : decode cX8_feed 69 = .ok (.getfield 81, 3) := by decide +kernel
theorem dX8_feed_72 : decode cX8_feed 72 = .ok (.ireturn, 1) := by decide +kernel
theorem dX8_trim_0 : decode cX8_trim 0 = .ok (.iload_n 1, 1) := by decide +kernel
theorem dX8_trim_1 : decode cX8_trim 1 = .ok (.ifCond .lt 14, 3) := by decide +kernel
theorem dX8_trim_4 : decode cX8_trim 4 = .ok (.iload_n 1, 1) := by decide +kernel
theorem dX8_trim_5 : decode cX8_trim 5 = .ok (.aload_n 0, 1) := by decide +kernel
theorem dX8_trim_6 : decode cX8_trim 6 = .ok (.getfield 12, 3) := by decide +kernel
theorem dX8_trim_9 : decode cX8_trim 9 = .ok (.getfield 81, 3) := by decide +kernel
theorem dX8_trim_12 : decode cX8_trim 12 = .ok (.if_icmp .le 13, 3) := by decide +kernel
theorem dX8_trim_15 : decode cX8_trim 15 = .ok (.new 95, 3) := by decide +kernel
theorem dX8_trim_18 : decode cX8_trim 18 = .ok (.dup, 1) := by decide +kernel
theorem dX8_trim_19 : decode cX8_trim 19 = .ok (.ldc 97, 2) := by decide +kernel
theorem dX8_trim_21 : decode cX8_trim 21 = .ok (.invokespecial 99, 3) := by decide +kernel
theorem dX8_trim_24 : decode cX8_trim 24 = .ok (.athrow, 1) := by decide +kernel
theorem dX8_trim_25 : decode cX8_trim 25 = .ok (.aload_n 0, 1) := by decide +kernel
theorem dX8_trim_26 : decode cX8_trim 26 = .ok (.getfield 12, 3) := by decide +kernel
theorem dX8_trim_29 : decode cX8_trim 29 = .ok (.iload_n 1, 1) := by decide +kernel
theorem dX8_trim_30 : decode cX8_trim 30 = .ok (.putfield 81, 3) := by decide +kernel
theorem dX8_trim_33 : decode cX8_trim 33 = .ok (.iload_n 1, 1) := by decide +kernel
theorem dX8_trim_34 : decode cX8_trim 34 = .ok (.ireturn, 1) := by decide +kernel
theorem dX8_teach_0 : decode cX8_teach 0 = .ok (.aload_n 0, 1) := by decide +kernel
theorem dX8_teach_1 : decode cX8_teach 1 = .ok (.getfield 19, 3) := by decide +kernel
theorem dX8_teach_4 : decode cX8_teach 4 = .ok (.aload_n 0, 1) := by decide +kernel
theorem dX8_teach_5 : decode cX8_teach 5 = .ok (.getfield 12, 3) := by decide +kernel
theorem dX8_teach_8 : decode cX8_teach 8 = .ok (.invokevirtual 100, 3) := by decide +kernel
theorem dX8_teach_11 : decode cX8_teach 11 = .ok (.aload_n 0, 1) := by decide +kernel
theorem dX8_teach_12 : decode cX8_teach 12 = .ok (.getfield 12, 3) := by decide +kernel
theorem dX8_teach_15 : decode cX8_teach 15 = .ok (.iconst 0, 1) := by decide +kernel
theorem dX8_teach_16 : decode cX8_teach 16 = .ok (.putfield 81, 3) := by decide +kernel
theorem dX8_teach_19 : decode cX8_teach 19 = .ok (.aload_n 0, 1) := by decide +kernel
theorem dX8_teach_20 : decode cX8_teach 20 = .ok (.getfield 38, 3) := by decide +kernel
theorem dX8_teach_23 : decode cX8_teach 23 = .ok (.invokevirtual 104, 3) := by decide +kernel
theorem dX8_teach_26 : decode cX8_teach 26 = .ok (.istore_n 1, 1) := by decide +kernel
theorem dX8_teach_27 : decode cX8_teach 27 = .ok (.aload_n 0, 1) := by decide +kernel
theorem dX8_teach_28 : decode cX8_teach 28 = .ok (.aload_n 0, 1) := by decide +kernel
theorem dX8_teach_29 : decode cX8_teach 29 = .ok (.getfield 38, 3) := by decide +kernel
theorem dX8_teach_32 : decode cX8_teach 32 = .ok (.invokevirtual 108, 3) := by decide +kernel
theorem dX8_teach_35 : decode cX8_teach 35 = .ok (.putfield 77, 3) := by decide +kernel
theorem dX8_teach_38 : decode cX8_teach 38 = .ok (.iload_n 1, 1) := by decide +kernel
theorem dX8_teach_39 : decode cX8_teach 39 = .ok (.ifCond .ne 7, 3) := by decide +kernel
theorem dX8_teach_42 : decode cX8_teach 42 = .ok (.aload_n 0, 1) := by decide +kernel
theorem dX8_teach_43 : decode cX8_teach 43 = .ok (.invokevirtual 110, 3) := by decide +kernel
theorem dX8_teach_46 : decode cX8_teach 46 = .ok (.iload_n 1, 1) := by decide +kernel
theorem dX8_teach_47 : decode cX8_teach 47 = .ok (.ireturn, 1) := by decide +kernel
theorem dX8_families_0 : decode cX8_families 0 = .ok (.aload_n 0, 1) := by decide +kernel
theorem dX8_families_1 : decode cX8_families 1 = .ok (.getfield 30, 3) := by decide +kernel
theorem dX8_families_4 : decode cX8_families 4 = .ok (.getfield 113, 3) := by decide +kernel
theorem dX8_families_7 : decode cX8_families 7 = .ok (.ireturn, 1) := by decide +kernel
theorem dX8_statements_0 : decode cX8_statements 0 = .ok (.aload_n 0, 1) := by decide +kernel
theorem dX8_statements_1 : decode cX8_statements 1 = .ok (.getfield 30, 3) := by decide +kernel
theorem dX8_statements_4 : decode cX8_statements 4 = .ok (.getfield 116, 3) := by decide +kernel
theorem dX8_statements_7 : decode cX8_statements 7 = .ok (.ireturn, 1) := by decide +kernel
theorem dX8_orders_0 : decode cX8_orders 0 = .ok (.aload_n 0, 1) := by decide +kernel
theorem dX8_orders_1 : decode cX8_orders 1 = .ok (.getfield 30, 3) := by decide +kernel
theorem dX8_orders_4 : decode cX8_orders 4 = .ok (.getfield 119, 3) := by decide +kernel
theorem dX8_orders_7 : decode cX8_orders 7 = .ok (.ireturn, 1) := by decide +kernel
theorem dX8_days_0 : decode cX8_days 0 = .ok (.aload_n 0, 1) := by decide +kernel
theorem dX8_days_1 : decode cX8_days 1 = .ok (.getfield 70, 3) := by decide +kernel
theorem dX8_days_4 : decode cX8_days 4 = .ok (.getfield 122, 3) := by decide +kernel
theorem dX8_days_7 : decode cX8_days 7 = .ok (.ireturn, 1) := by decide +kernel
theorem dX8_ordersCarriedOut_0 : decode cX8_ordersCarriedOut 0 = .ok (.aload_n 0, 1) := by decide +kernel
theorem dX8_ordersCarriedOut_1 : decode cX8_ordersCarriedOut 1 = .ok (.getfield 70, 3) := by decide +kernel
theorem dX8_ordersCarriedOut_4 : decode cX8_ordersCarriedOut 4 = .ok (.getfield 125, 3) := by decide +kernel
theorem dX8_ordersCarriedOut_7 : decode cX8_ordersCarriedOut 7 = .ok (.ireturn, 1) := by decide +kernel
theorem dX8_standing_0 : decode cX8_standing 0 = .ok (.aload_n 0, 1) := by decide +kernel
theorem dX8_standing_1 : decode cX8_standing 1 = .ok (.getfield 70, 3) := by decide +kernel
theorem dX8_standing_4 : decode cX8_standing 4 = .ok (.getfield 128, 3) := by decide +kernel
theorem dX8_standing_7 : decode cX8_standing 7 = .ok (.invokestatic 131, 3) := by decide +kernel
theorem dX8_standing_10 : decode cX8_standing 10 = .ok (.ireturn, 1) := by decide +kernel
theorem dX8_kindOf_0 : decode cX8_kindOf 0 = .ok (.aload_n 0, 1) := by decide +kernel
theorem dX8_kindOf_1 : decode cX8_kindOf 1 = .ok (.iload_n 1, 1) := by decide +kernel
theorem dX8_kindOf_2 : decode cX8_kindOf 2 = .ok (.invokevirtual 137, 3) := by decide +kernel
theorem dX8_kindOf_5 : decode cX8_kindOf 5 = .ok (.aload_n 0, 1) := by decide +kernel
theorem dX8_kindOf_6 : decode cX8_kindOf 6 = .ok (.getfield 30, 3) := by decide +kernel
theorem dX8_kindOf_9 : decode cX8_kindOf 9 = .ok (.iload_n 1, 1) := by decide +kernel
theorem dX8_kindOf_10 : decode cX8_kindOf 10 = .ok (.invokevirtual 140, 3) := by decide +kernel
theorem dX8_kindOf_13 : decode cX8_kindOf 13 = .ok (.ireturn, 1) := by decide +kernel
theorem dX8_firstClaimOf_0 : decode cX8_firstClaimOf 0 = .ok (.aload_n 0, 1) := by decide +kernel
theorem dX8_firstClaimOf_1 : decode cX8_firstClaimOf 1 = .ok (.iload_n 1, 1) := by decide +kernel
theorem dX8_firstClaimOf_2 : decode cX8_firstClaimOf 2 = .ok (.invokevirtual 137, 3) := by decide +kernel
theorem dX8_firstClaimOf_5 : decode cX8_firstClaimOf 5 = .ok (.aload_n 0, 1) := by decide +kernel
theorem dX8_firstClaimOf_6 : decode cX8_firstClaimOf 6 = .ok (.getfield 30, 3) := by decide +kernel
theorem dX8_firstClaimOf_9 : decode cX8_firstClaimOf 9 = .ok (.iload_n 1, 1) := by decide +kernel
theorem dX8_firstClaimOf_10 : decode cX8_firstClaimOf 10 = .ok (.invokevirtual 143, 3) := by decide +kernel
theorem dX8_firstClaimOf_13 : decode cX8_firstClaimOf 13 = .ok (.ireturn, 1) := by decide +kernel
theorem dX8_secondClaimOf_0 : decode cX8_secondClaimOf 0 = .ok (.aload_n 0, 1) := by decide +kernel
theorem dX8_secondClaimOf_1 : decode cX8_secondClaimOf 1 = .ok (.iload_n 1, 1) := by decide +kernel
theorem dX8_secondClaimOf_2 : decode cX8_secondClaimOf 2 = .ok (.invokevirtual 137, 3) := by decide +kernel
theorem dX8_secondClaimOf_5 : decode cX8_secondClaimOf 5 = .ok (.aload_n 0, 1) := by decide +kernel
theorem dX8_secondClaimOf_6 : decode cX8_secondClaimOf 6 = .ok (.getfield 30, 3) := by decide +kernel
theorem dX8_secondClaimOf_9 : decode cX8_secondClaimOf 9 = .ok (.iload_n 1, 1) := by decide +kernel
theorem dX8_secondClaimOf_10 : decode cX8_secondClaimOf 10 = .ok (.invokevirtual 146, 3) := by decide +kernel
theorem dX8_secondClaimOf_13 : decode cX8_secondClaimOf 13 = .ok (.ireturn, 1) := by decide +kernel
theorem dX8_stands_0 : decode cX8_stands 0 = .ok (.aload_n 0, 1) := by decide +kernel
theorem dX8_stands_1 : decode cX8_stands 1 = .ok (.iload_n 1, 1) := by decide +kernel
theorem dX8_stands_2 : decode cX8_stands 2 = .ok (.invokevirtual 137, 3) := by decide +kernel
theorem dX8_stands_5 : decode cX8_stands 5 = .ok (.aload_n 0, 1) := by decide +kernel
theorem dX8_stands_6 : decode cX8_stands 6 = .ok (.getfield 70, 3) := by decide +kernel
theorem dX8_stands_9 : decode cX8_stands 9 = .ok (.getfield 128, 3) := by decide +kernel
theorem dX8_stands_12 : decode cX8_stands 12 = .ok (.iload_n 1, 1) := by decide +kernel
theorem dX8_stands_13 : decode cX8_stands 13 = .ok (.invokestatic 149, 3) := by decide +kernel
theorem dX8_stands_16 : decode cX8_stands 16 = .ok (.ireturn, 1) := by decide +kernel
theorem dX8_isNeedless_0 : decode cX8_isNeedless 0 = .ok (.aload_n 0, 1) := by decide +kernel
theorem dX8_isNeedless_1 : decode cX8_isNeedless 1 = .ok (.iload_n 1, 1) := by decide +kernel
theorem dX8_isNeedless_2 : decode cX8_isNeedless 2 = .ok (.invokevirtual 137, 3) := by decide +kernel
theorem dX8_isNeedless_5 : decode cX8_isNeedless 5 = .ok (.aload_n 0, 1) := by decide +kernel
theorem dX8_isNeedless_6 : decode cX8_isNeedless 6 = .ok (.iload_n 1, 1) := by decide +kernel
theorem dX8_isNeedless_7 : decode cX8_isNeedless 7 = .ok (.invokevirtual 153, 3) := by decide +kernel
theorem dX8_isNeedless_10 : decode cX8_isNeedless 10 = .ok (.aload_n 0, 1) := by decide +kernel
theorem dX8_isNeedless_11 : decode cX8_isNeedless 11 = .ok (.getfield 54, 3) := by decide +kernel
theorem dX8_isNeedless_14 : decode cX8_isNeedless 14 = .ok (.aload_n 0, 1) := by decide +kernel
theorem dX8_isNeedless_15 : decode cX8_isNeedless 15 = .ok (.getfield 70, 3) := by decide +kernel
theorem dX8_isNeedless_18 : decode cX8_isNeedless 18 = .ok (.getfield 128, 3) := by decide +kernel
theorem dX8_isNeedless_21 : decode cX8_isNeedless 21 = .ok (.invokevirtual 156, 3) := by decide +kernel
theorem dX8_isNeedless_24 : decode cX8_isNeedless 24 = .ok (.istore_n 2, 1) := by decide +kernel
theorem dX8_isNeedless_25 : decode cX8_isNeedless 25 = .ok (.aload_n 0, 1) := by decide +kernel
theorem dX8_isNeedless_26 : decode cX8_isNeedless 26 = .ok (.getfield 54, 3) := by decide +kernel
theorem dX8_isNeedless_29 : decode cX8_isNeedless 29 = .ok (.aload_n 0, 1) := by decide +kernel
theorem dX8_isNeedless_30 : decode cX8_isNeedless 30 = .ok (.getfield 70, 3) := by decide +kernel
theorem dX8_isNeedless_33 : decode cX8_isNeedless 33 = .ok (.getfield 128, 3) := by decide +kernel
theorem dX8_isNeedless_36 : decode cX8_isNeedless 36 = .ok (.iload_n 1, 1) := by decide +kernel
theorem dX8_isNeedless_37 : decode cX8_isNeedless 37 = .ok (.invokestatic 159, 3) := by decide +kernel
theorem dX8_isNeedless_40 : decode cX8_isNeedless 40 = .ok (.invokevirtual 156, 3) := by decide +kernel
theorem dX8_isNeedless_43 : decode cX8_isNeedless 43 = .ok (.iload_n 2, 1) := by decide +kernel
theorem dX8_isNeedless_44 : decode cX8_isNeedless 44 = .ok (.if_icmp .ne 7, 3) := by decide +kernel
theorem dX8_isNeedless_47 : decode cX8_isNeedless 47 = .ok (.iconst 1, 1) := by decide +kernel
theorem dX8_isNeedless_48 : decode cX8_isNeedless 48 = .ok (.goto 4, 3) := by decide +kernel
theorem dX8_isNeedless_51 : decode cX8_isNeedless 51 = .ok (.iconst 0, 1) := by decide +kernel
theorem dX8_isNeedless_52 : decode cX8_isNeedless 52 = .ok (.ireturn, 1) := by decide +kernel
theorem dX8_follows_0 : decode cX8_follows 0 = .ok (.aload_n 0, 1) := by decide +kernel
theorem dX8_follows_1 : decode cX8_follows 1 = .ok (.iload_n 1, 1) := by decide +kernel
theorem dX8_follows_2 : decode cX8_follows 2 = .ok (.invokevirtual 163, 3) := by decide +kernel
theorem dX8_follows_5 : decode cX8_follows 5 = .ok (.aload_n 0, 1) := by decide +kernel
theorem dX8_follows_6 : decode cX8_follows 6 = .ok (.iload_n 2, 1) := by decide +kernel
theorem dX8_follows_7 : decode cX8_follows 7 = .ok (.invokevirtual 163, 3) := by decide +kernel
theorem dX8_follows_10 : decode cX8_follows 10 = .ok (.aload_n 0, 1) := by decide +kernel
theorem dX8_follows_11 : decode cX8_follows 11 = .ok (.getfield 47, 3) := by decide +kernel
theorem dX8_follows_14 : decode cX8_follows 14 = .ok (.aload_n 0, 1) := by decide +kernel
theorem dX8_follows_15 : decode cX8_follows 15 = .ok (.getfield 70, 3) := by decide +kernel
theorem dX8_follows_18 : decode cX8_follows 18 = .ok (.getfield 128, 3) := by decide +kernel
theorem dX8_follows_21 : decode cX8_follows 21 = .ok (.iload_n 2, 1) := by decide +kernel
theorem dX8_follows_22 : decode cX8_follows 22 = .ok (.invokevirtual 166, 3) := by decide +kernel
theorem dX8_follows_25 : decode cX8_follows 25 = .ok (.iload_n 1, 1) := by decide +kernel
theorem dX8_follows_26 : decode cX8_follows 26 = .ok (.invokestatic 149, 3) := by decide +kernel
theorem dX8_follows_29 : decode cX8_follows 29 = .ok (.ireturn, 1) := by decide +kernel
theorem dX8_whatFollowsFrom_0 : decode cX8_whatFollowsFrom 0 = .ok (.aload_n 0, 1) := by decide +kernel
theorem dX8_whatFollowsFrom_1 : decode cX8_whatFollowsFrom 1 = .ok (.iload_n 1, 1) := by decide +kernel
theorem dX8_whatFollowsFrom_2 : decode cX8_whatFollowsFrom 2 = .ok (.invokevirtual 163, 3) := by decide +kernel
theorem dX8_whatFollowsFrom_5 : decode cX8_whatFollowsFrom 5 = .ok (.aload_n 0, 1) := by decide +kernel
theorem dX8_whatFollowsFrom_6 : decode cX8_whatFollowsFrom 6 = .ok (.getfield 47, 3) := by decide +kernel
theorem dX8_whatFollowsFrom_9 : decode cX8_whatFollowsFrom 9 = .ok (.aload_n 0, 1) := by decide +kernel
theorem dX8_whatFollowsFrom_10 : decode cX8_whatFollowsFrom 10 = .ok (.getfield 70, 3) := by decide +kernel
theorem dX8_whatFollowsFrom_13 : decode cX8_whatFollowsFrom 13 = .ok (.getfield 128, 3) := by decide +kernel
theorem dX8_whatFollowsFrom_16 : decode cX8_whatFollowsFrom 16 = .ok (.iload_n 1, 1) := by decide +kernel
theorem dX8_whatFollowsFrom_17 : decode cX8_whatFollowsFrom 17 = .ok (.invokevirtual 166, 3) := by decide +kernel
theorem dX8_whatFollowsFrom_20 : decode cX8_whatFollowsFrom 20 = .ok (.invokestatic 131, 3) := by decide +kernel
theorem dX8_whatFollowsFrom_23 : decode cX8_whatFollowsFrom 23 = .ok (.ireturn, 1) := by decide +kernel
theorem dX8_fewestStatementsBetween_0 : decode cX8_fewestStatementsBetween 0 = .ok (.aload_n 0, 1) := by decide +kernel
theorem dX8_fewestStatementsBetween_1 : decode cX8_fewestStatementsBetween 1 = .ok (.iload_n 1, 1) := by decide +kernel
theorem dX8_fewestStatementsBetween_2 : decode cX8_fewestStatementsBetween 2 = .ok (.invokevirtual 163, 3) := by decide +kernel
theorem dX8_fewestStatementsBetween_5 : decode cX8_fewestStatementsBetween 5 = .ok (.aload_n 0, 1) := by decide +kernel
theorem dX8_fewestStatementsBetween_6 : decode cX8_fewestStatementsBetween 6 = .ok (.iload_n 2, 1) := by decide +kernel
theorem dX8_fewestStatementsBetween_7 : decode cX8_fewestStatementsBetween 7 = .ok (.invokevirtual 163, 3) := by decide +kernel
theorem dX8_fewestStatementsBetween_10 : decode cX8_fewestStatementsBetween 10 = .ok (.aload_n 0, 1) := by decide +kernel
theorem dX8_fewestStatementsBetween_11 : decode cX8_fewestStatementsBetween 11 = .ok (.getfield 47, 3) := by decide +kernel
theorem dX8_fewestStatementsBetween_14 : decode cX8_fewestStatementsBetween 14 = .ok (.aload_n 0, 1) := by decide +kernel
theorem dX8_fewestStatementsBetween_15 : decode cX8_fewestStatementsBetween 15 = .ok (.getfield 70, 3) := by decide +kernel
theorem dX8_fewestStatementsBetween_18 : decode cX8_fewestStatementsBetween 18 = .ok (.getfield 128, 3) := by decide +kernel
theorem dX8_fewestStatementsBetween_21 : decode cX8_fewestStatementsBetween 21 = .ok (.iload_n 1, 1) := by decide +kernel
theorem dX8_fewestStatementsBetween_22 : decode cX8_fewestStatementsBetween 22 = .ok (.iload_n 2, 1) := by decide +kernel
theorem dX8_fewestStatementsBetween_23 : decode cX8_fewestStatementsBetween 23 = .ok (.invokevirtual 169, 3) := by decide +kernel
theorem dX8_fewestStatementsBetween_26 : decode cX8_fewestStatementsBetween 26 = .ok (.istore_n 3, 1) := by decide +kernel
theorem dX8_fewestStatementsBetween_27 : decode cX8_fewestStatementsBetween 27 = .ok (.iload_n 3, 1) := by decide +kernel
theorem dX8_fewestStatementsBetween_28 : decode cX8_fewestStatementsBetween 28 = .ok (.ifCond .ge 13, 3) := by decide +kernel
theorem dX8_fewestStatementsBetween_31 : decode cX8_fewestStatementsBetween 31 = .ok (.new 84, 3) := by decide +kernel
theorem dX8_fewestStatementsBetween_34 : decode cX8_fewestStatementsBetween 34 = .ok (.dup, 1) := by decide +kernel
theorem dX8_fewestStatementsBetween_35 : decode cX8_fewestStatementsBetween 35 = .ok (.ldc 173, 2) := by decide +kernel
theorem dX8_fewestStatementsBetween_37 : decode cX8_fewestStatementsBetween 37 = .ok (.invokespecial 88, 3) := by decide +kernel
theorem dX8_fewestStatementsBetween_40 : decode cX8_fewestStatementsBetween 40 = .ok (.athrow, 1) := by decide +kernel
theorem dX8_fewestStatementsBetween_41 : decode cX8_fewestStatementsBetween 41 = .ok (.iload_n 3, 1) := by decide +kernel
theorem dX8_fewestStatementsBetween_42 : decode cX8_fewestStatementsBetween 42 = .ok (.ireturn, 1) := by decide +kernel
theorem dX8_parts_0 : decode cX8_parts 0 = .ok (.aload_n 0, 1) := by decide +kernel
theorem dX8_parts_1 : decode cX8_parts 1 = .ok (.getfield 47, 3) := by decide +kernel
theorem dX8_parts_4 : decode cX8_parts 4 = .ok (.aload_n 0, 1) := by decide +kernel
theorem dX8_parts_5 : decode cX8_parts 5 = .ok (.getfield 70, 3) := by decide +kernel
theorem dX8_parts_8 : decode cX8_parts 8 = .ok (.getfield 128, 3) := by decide +kernel
theorem dX8_parts_11 : decode cX8_parts 11 = .ok (.invokevirtual 175, 3) := by decide +kernel
theorem dX8_parts_14 : decode cX8_parts 14 = .ok (.ireturn, 1) := by decide +kernel
theorem dX8_partOf_0 : decode cX8_partOf 0 = .ok (.aload_n 0, 1) := by decide +kernel
theorem dX8_partOf_1 : decode cX8_partOf 1 = .ok (.iload_n 1, 1) := by decide +kernel
theorem dX8_partOf_2 : decode cX8_partOf 2 = .ok (.invokevirtual 163, 3) := by decide +kernel
theorem dX8_partOf_5 : decode cX8_partOf 5 = .ok (.aload_n 0, 1) := by decide +kernel
theorem dX8_partOf_6 : decode cX8_partOf 6 = .ok (.getfield 47, 3) := by decide +kernel
theorem dX8_partOf_9 : decode cX8_partOf 9 = .ok (.aload_n 0, 1) := by decide +kernel
theorem dX8_partOf_10 : decode cX8_partOf 10 = .ok (.getfield 70, 3) := by decide +kernel
theorem dX8_partOf_13 : decode cX8_partOf 13 = .ok (.getfield 128, 3) := by decide +kernel
theorem dX8_partOf_16 : decode cX8_partOf 16 = .ok (.iload_n 1, 1) := by decide +kernel
theorem dX8_partOf_17 : decode cX8_partOf 17 = .ok (.invokevirtual 178, 3) := by decide +kernel
theorem dX8_partOf_20 : decode cX8_partOf 20 = .ok (.invokestatic 181, 3) := by decide +kernel
theorem dX8_partOf_23 : decode cX8_partOf 23 = .ok (.ireturn, 1) := by decide +kernel
theorem dX8_partSize_0 : decode cX8_partSize 0 = .ok (.aload_n 0, 1) := by decide +kernel
theorem dX8_partSize_1 : decode cX8_partSize 1 = .ok (.iload_n 1, 1) := by decide +kernel
theorem dX8_partSize_2 : decode cX8_partSize 2 = .ok (.invokevirtual 163, 3) := by decide +kernel
theorem dX8_partSize_5 : decode cX8_partSize 5 = .ok (.aload_n 0, 1) := by decide +kernel
theorem dX8_partSize_6 : decode cX8_partSize 6 = .ok (.getfield 47, 3) := by decide +kernel
theorem dX8_partSize_9 : decode cX8_partSize 9 = .ok (.aload_n 0, 1) := by decide +kernel
theorem dX8_partSize_10 : decode cX8_partSize 10 = .ok (.getfield 70, 3) := by decide +kernel
theorem dX8_partSize_13 : decode cX8_partSize 13 = .ok (.getfield 128, 3) := by decide +kernel
theorem dX8_partSize_16 : decode cX8_partSize 16 = .ok (.iload_n 1, 1) := by decide +kernel
theorem dX8_partSize_17 : decode cX8_partSize 17 = .ok (.invokevirtual 178, 3) := by decide +kernel
theorem dX8_partSize_20 : decode cX8_partSize 20 = .ok (.invokestatic 131, 3) := by decide +kernel
theorem dX8_partSize_23 : decode cX8_partSize 23 = .ok (.ireturn, 1) := by decide +kernel
theorem dX8_isPeacePossible_0 : decode cX8_isPeacePossible 0 = .ok (.aload_n 0, 1) := by decide +kernel
theorem dX8_isPeacePossible_1 : decode cX8_isPeacePossible 1 = .ok (.getfield 54, 3) := by decide +kernel
theorem dX8_isPeacePossible_4 : decode cX8_isPeacePossible 4 = .ok (.aload_n 0, 1) := by decide +kernel
theorem dX8_isPeacePossible_5 : decode cX8_isPeacePossible 5 = .ok (.getfield 70, 3) := by decide +kernel
theorem dX8_isPeacePossible_8 : decode cX8_isPeacePossible 8 = .ok (.getfield 128, 3) := by decide +kernel
theorem dX8_isPeacePossible_11 : decode cX8_isPeacePossible 11 = .ok (.invokevirtual 156, 3) := by decide +kernel
theorem dX8_isPeacePossible_14 : decode cX8_isPeacePossible 14 = .ok (.ifCond .le 7, 3) := by decide +kernel
theorem dX8_isPeacePossible_17 : decode cX8_isPeacePossible 17 = .ok (.iconst 1, 1) := by decide +kernel
theorem dX8_isPeacePossible_18 : decode cX8_isPeacePossible 18 = .ok (.goto 4, 3) := by decide +kernel
theorem dX8_isPeacePossible_21 : decode cX8_isPeacePossible 21 = .ok (.iconst 0, 1) := by decide +kernel
theorem dX8_isPeacePossible_22 : decode cX8_isPeacePossible 22 = .ok (.ireturn, 1) := by decide +kernel
theorem dX8_peaces_0 : decode cX8_peaces 0 = .ok (.aload_n 0, 1) := by decide +kernel
theorem dX8_peaces_1 : decode cX8_peaces 1 = .ok (.getfield 54, 3) := by decide +kernel
theorem dX8_peaces_4 : decode cX8_peaces 4 = .ok (.aload_n 0, 1) := by decide +kernel
theorem dX8_peaces_5 : decode cX8_peaces 5 = .ok (.getfield 70, 3) := by decide +kernel
theorem dX8_peaces_8 : decode cX8_peaces 8 = .ok (.getfield 128, 3) := by decide +kernel
theorem dX8_peaces_11 : decode cX8_peaces 11 = .ok (.invokevirtual 156, 3) := by decide +kernel
theorem dX8_peaces_14 : decode cX8_peaces 14 = .ok (.ireturn, 1) := by decide +kernel
theorem dX8_peacesWith_0 : decode cX8_peacesWith 0 = .ok (.aload_n 0, 1) := by decide +kernel
theorem dX8_peacesWith_1 : decode cX8_peacesWith 1 = .ok (.iload_n 1, 1) := by decide +kernel
theorem dX8_peacesWith_2 : decode cX8_peacesWith 2 = .ok (.invokevirtual 163, 3) := by decide +kernel
theorem dX8_peacesWith_5 : decode cX8_peacesWith 5 = .ok (.aload_n 0, 1) := by decide +kernel
theorem dX8_peacesWith_6 : decode cX8_peacesWith 6 = .ok (.getfield 54, 3) := by decide +kernel
theorem dX8_peacesWith_9 : decode cX8_peacesWith 9 = .ok (.aload_n 0, 1) := by decide +kernel
theorem dX8_peacesWith_10 : decode cX8_peacesWith 10 = .ok (.getfield 70, 3) := by decide +kernel
theorem dX8_peacesWith_13 : decode cX8_peacesWith 13 = .ok (.getfield 128, 3) := by decide +kernel
theorem dX8_peacesWith_16 : decode cX8_peacesWith 16 = .ok (.iload_n 1, 1) := by decide +kernel
theorem dX8_peacesWith_17 : decode cX8_peacesWith 17 = .ok (.invokevirtual 184, 3) := by decide +kernel
theorem dX8_peacesWith_20 : decode cX8_peacesWith 20 = .ok (.ireturn, 1) := by decide +kernel
theorem dX8_isPossible_0 : decode cX8_isPossible 0 = .ok (.aload_n 0, 1) := by decide +kernel
theorem dX8_isPossible_1 : decode cX8_isPossible 1 = .ok (.iload_n 1, 1) := by decide +kernel
theorem dX8_isPossible_2 : decode cX8_isPossible 2 = .ok (.invokevirtual 163, 3) := by decide +kernel
theorem dX8_isPossible_5 : decode cX8_isPossible 5 = .ok (.aload_n 0, 1) := by decide +kernel
theorem dX8_isPossible_6 : decode cX8_isPossible 6 = .ok (.getfield 54, 3) := by decide +kernel
theorem dX8_isPossible_9 : decode cX8_isPossible 9 = .ok (.aload_n 0, 1) := by decide +kernel
theorem dX8_isPossible_10 : decode cX8_isPossible 10 = .ok (.getfield 70, 3) := by decide +kernel
theorem dX8_isPossible_13 : decode cX8_isPossible 13 = .ok (.getfield 128, 3) := by decide +kernel
theorem dX8_isPossible_16 : decode cX8_isPossible 16 = .ok (.iload_n 1, 1) := by decide +kernel
theorem dX8_isPossible_17 : decode cX8_isPossible 17 = .ok (.invokevirtual 184, 3) := by decide +kernel
theorem dX8_isPossible_20 : decode cX8_isPossible 20 = .ok (.ifCond .le 7, 3) := by decide +kernel
theorem dX8_isPossible_23 : decode cX8_isPossible 23 = .ok (.iconst 1, 1) := by decide +kernel
theorem dX8_isPossible_24 : decode cX8_isPossible 24 = .ok (.goto 4, 3) := by decide +kernel
theorem dX8_isPossible_27 : decode cX8_isPossible 27 = .ok (.iconst 0, 1) := by decide +kernel
theorem dX8_isPossible_28 : decode cX8_isPossible 28 = .ok (.ireturn, 1) := by decide +kernel
theorem dX8_isSettled_0 : decode cX8_isSettled 0 = .ok (.aload_n 0, 1) := by decide +kernel
theorem dX8_isSettled_1 : decode cX8_isSettled 1 = .ok (.iload_n 1, 1) := by decide +kernel
theorem dX8_isSettled_2 : decode cX8_isSettled 2 = .ok (.invokevirtual 163, 3) := by decide +kernel
theorem dX8_isSettled_5 : decode cX8_isSettled 5 = .ok (.aload_n 0, 1) := by decide +kernel
theorem dX8_isSettled_6 : decode cX8_isSettled 6 = .ok (.invokevirtual 187, 3) := by decide +kernel
theorem dX8_isSettled_9 : decode cX8_isSettled 9 = .ok (.aload_n 0, 1) := by decide +kernel
theorem dX8_isSettled_10 : decode cX8_isSettled 10 = .ok (.getfield 54, 3) := by decide +kernel
theorem dX8_isSettled_13 : decode cX8_isSettled 13 = .ok (.aload_n 0, 1) := by decide +kernel
theorem dX8_isSettled_14 : decode cX8_isSettled 14 = .ok (.getfield 70, 3) := by decide +kernel
theorem dX8_isSettled_17 : decode cX8_isSettled 17 = .ok (.getfield 128, 3) := by decide +kernel
theorem dX8_isSettled_20 : decode cX8_isSettled 20 = .ok (.iload_n 1, 1) := by decide +kernel
theorem dX8_isSettled_21 : decode cX8_isSettled 21 = .ok (.invokevirtual 184, 3) := by decide +kernel
theorem dX8_isSettled_24 : decode cX8_isSettled 24 = .ok (.aload_n 0, 1) := by decide +kernel
theorem dX8_isSettled_25 : decode cX8_isSettled 25 = .ok (.getfield 54, 3) := by decide +kernel
theorem dX8_isSettled_28 : decode cX8_isSettled 28 = .ok (.aload_n 0, 1) := by decide +kernel
theorem dX8_isSettled_29 : decode cX8_isSettled 29 = .ok (.getfield 70, 3) := by decide +kernel
theorem dX8_isSettled_32 : decode cX8_isSettled 32 = .ok (.getfield 128, 3) := by decide +kernel
theorem dX8_isSettled_35 : decode cX8_isSettled 35 = .ok (.invokevirtual 156, 3) := by decide +kernel
theorem dX8_isSettled_38 : decode cX8_isSettled 38 = .ok (.if_icmp .ne 7, 3) := by decide +kernel
theorem dX8_isSettled_41 : decode cX8_isSettled 41 = .ok (.iconst 1, 1) := by decide +kernel
theorem dX8_isSettled_42 : decode cX8_isSettled 42 = .ok (.goto 4, 3) := by decide +kernel
theorem dX8_isSettled_45 : decode cX8_isSettled 45 = .ok (.iconst 0, 1) := by decide +kernel
theorem dX8_isSettled_46 : decode cX8_isSettled 46 = .ok (.ireturn, 1) := by decide +kernel
theorem dX8_ridesInPeace_0 : decode cX8_ridesInPeace 0 = .ok (.iload_n 1, 1) := by decide +kernel
theorem dX8_ridesInPeace_1 : decode cX8_ridesInPeace 1 = .ok (.ifCond .lt 14, 3) := by decide +kernel
theorem dX8_ridesInPeace_4 : decode cX8_ridesInPeace 4 = .ok (.iload_n 1, 1) := by decide +kernel
theorem dX8_ridesInPeace_5 : decode cX8_ridesInPeace 5 = .ok (.aload_n 0, 1) := by decide +kernel
theorem dX8_ridesInPeace_6 : decode cX8_ridesInPeace 6 = .ok (.getfield 30, 3) := by decide +kernel
theorem dX8_ridesInPeace_9 : decode cX8_ridesInPeace 9 = .ok (.getfield 113, 3) := by decide +kernel
theorem dX8_ridesInPeace_12 : decode cX8_ridesInPeace 12 = .ok (.if_icmp .lt 13, 3) := by decide +kernel
theorem dX8_ridesInPeace_15 : decode cX8_ridesInPeace 15 = .ok (.new 190, 3) := by decide +kernel
theorem dX8_ridesInPeace_18 : decode cX8_ridesInPeace 18 = .ok (.dup, 1) := by decide +kernel
theorem dX8_ridesInPeace_19 : decode cX8_ridesInPeace 19 = .ok (.ldc 192, 2) := by decide +kernel
theorem dX8_ridesInPeace_21 : decode cX8_ridesInPeace 21 = .ok (.invokespecial 194, 3) := by decide +kernel
theorem dX8_ridesInPeace_24 : decode cX8_ridesInPeace 24 = .ok (.athrow, 1) := by decide +kernel
theorem dX8_ridesInPeace_25 : decode cX8_ridesInPeace 25 = .ok (.aload_n 0, 1) := by decide +kernel
theorem dX8_ridesInPeace_26 : decode cX8_ridesInPeace 26 = .ok (.invokevirtual 187, 3) := by decide +kernel
theorem dX8_ridesInPeace_29 : decode cX8_ridesInPeace 29 = .ok (.aload_n 0, 1) := by decide +kernel
theorem dX8_ridesInPeace_30 : decode cX8_ridesInPeace 30 = .ok (.getfield 54, 3) := by decide +kernel
theorem dX8_ridesInPeace_33 : decode cX8_ridesInPeace 33 = .ok (.aload_n 0, 1) := by decide +kernel
theorem dX8_ridesInPeace_34 : decode cX8_ridesInPeace 34 = .ok (.getfield 70, 3) := by decide +kernel
theorem dX8_ridesInPeace_37 : decode cX8_ridesInPeace 37 = .ok (.getfield 128, 3) := by decide +kernel
theorem dX8_ridesInPeace_40 : decode cX8_ridesInPeace 40 = .ok (.invokevirtual 195, 3) := by decide +kernel
theorem dX8_ridesInPeace_43 : decode cX8_ridesInPeace 43 = .ok (.iload_n 1, 1) := by decide +kernel
theorem dX8_ridesInPeace_44 : decode cX8_ridesInPeace 44 = .ok (.invokestatic 149, 3) := by decide +kernel
theorem dX8_ridesInPeace_47 : decode cX8_ridesInPeace 47 = .ok (.ireturn, 1) := by decide +kernel
theorem dX8_ridersInPeace_0 : decode cX8_ridersInPeace 0 = .ok (.aload_n 0, 1) := by decide +kernel
theorem dX8_ridersInPeace_1 : decode cX8_ridersInPeace 1 = .ok (.invokevirtual 187, 3) := by decide +kernel
theorem dX8_ridersInPeace_4 : decode cX8_ridersInPeace 4 = .ok (.aload_n 0, 1) := by decide +kernel
theorem dX8_ridersInPeace_5 : decode cX8_ridersInPeace 5 = .ok (.getfield 54, 3) := by decide +kernel
theorem dX8_ridersInPeace_8 : decode cX8_ridersInPeace 8 = .ok (.aload_n 0, 1) := by decide +kernel
theorem dX8_ridersInPeace_9 : decode cX8_ridersInPeace 9 = .ok (.getfield 70, 3) := by decide +kernel
theorem dX8_ridersInPeace_12 : decode cX8_ridersInPeace 12 = .ok (.getfield 128, 3) := by decide +kernel
theorem dX8_ridersInPeace_15 : decode cX8_ridersInPeace 15 = .ok (.invokevirtual 195, 3) := by decide +kernel
theorem dX8_ridersInPeace_18 : decode cX8_ridersInPeace 18 = .ok (.invokestatic 131, 3) := by decide +kernel
theorem dX8_ridersInPeace_21 : decode cX8_ridersInPeace 21 = .ok (.ireturn, 1) := by decide +kernel
theorem dX8_blamedFamily_0 : decode cX8_blamedFamily 0 = .ok (.aload_n 0, 1) := by decide +kernel
theorem dX8_blamedFamily_1 : decode cX8_blamedFamily 1 = .ok (.getfield 54, 3) := by decide +kernel
theorem dX8_blamedFamily_4 : decode cX8_blamedFamily 4 = .ok (.aload_n 0, 1) := by decide +kernel
theorem dX8_blamedFamily_5 : decode cX8_blamedFamily 5 = .ok (.getfield 70, 3) := by decide +kernel
theorem dX8_blamedFamily_8 : decode cX8_blamedFamily 8 = .ok (.getfield 128, 3) := by decide +kernel
theorem dX8_blamedFamily_11 : decode cX8_blamedFamily 11 = .ok (.invokevirtual 156, 3) := by decide +kernel
theorem dX8_blamedFamily_14 : decode cX8_blamedFamily 14 = .ok (.ifCond .le 13, 3) := by decide +kernel
theorem dX8_blamedFamily_17 : decode cX8_blamedFamily 17 = .ok (.new 84, 3) := by decide +kernel
theorem dX8_blamedFamily_20 : decode cX8_blamedFamily 20 = .ok (.dup, 1) := by decide +kernel
theorem dX8_blamedFamily_21 : decode cX8_blamedFamily 21 = .ok (.ldc 198, 2) := by decide +kernel
theorem dX8_blamedFamily_23 : decode cX8_blamedFamily 23 = .ok (.invokespecial 88, 3) := by decide +kernel
theorem dX8_blamedFamily_26 : decode cX8_blamedFamily 26 = .ok (.athrow, 1) := by decide +kernel
theorem dX8_blamedFamily_27 : decode cX8_blamedFamily 27 = .ok (.iconst 0, 1) := by decide +kernel
theorem dX8_blamedFamily_28 : decode cX8_blamedFamily 28 = .ok (.istore_n 1, 1) := by decide +kernel
theorem dX8_blamedFamily_29 : decode cX8_blamedFamily 29 = .ok (.iload_n 1, 1) := by decide +kernel
theorem dX8_blamedFamily_30 : decode cX8_blamedFamily 30 = .ok (.aload_n 0, 1) := by decide +kernel
theorem dX8_blamedFamily_31 : decode cX8_blamedFamily 31 = .ok (.getfield 30, 3) := by decide +kernel
theorem dX8_blamedFamily_34 : decode cX8_blamedFamily 34 = .ok (.getfield 113, 3) := by decide +kernel
theorem dX8_blamedFamily_37 : decode cX8_blamedFamily 37 = .ok (.if_icmp .ge 39, 3) := by decide +kernel
theorem dX8_blamedFamily_40 : decode cX8_blamedFamily 40 = .ok (.aload_n 0, 1) := by decide +kernel
theorem dX8_blamedFamily_41 : decode cX8_blamedFamily 41 = .ok (.getfield 47, 3) := by decide +kernel
theorem dX8_blamedFamily_44 : decode cX8_blamedFamily 44 = .ok (.aload_n 0, 1) := by decide +kernel
theorem dX8_blamedFamily_45 : decode cX8_blamedFamily 45 = .ok (.getfield 70, 3) := by decide +kernel
theorem dX8_blamedFamily_48 : decode cX8_blamedFamily 48 = .ok (.getfield 128, 3) := by decide +kernel
theorem dX8_blamedFamily_51 : decode cX8_blamedFamily 51 = .ok (.iconst 2, 1) := by decide +kernel
theorem dX8_blamedFamily_52 : decode cX8_blamedFamily 52 = .ok (.iload_n 1, 1) := by decide +kernel
theorem dX8_blamedFamily_53 : decode cX8_blamedFamily 53 = .ok (.imul, 1) := by decide +kernel
theorem dX8_blamedFamily_54 : decode cX8_blamedFamily 54 = .ok (.invokevirtual 178, 3) := by decide +kernel
theorem dX8_blamedFamily_57 : decode cX8_blamedFamily 57 = .ok (.iconst 2, 1) := by decide +kernel
theorem dX8_blamedFamily_58 : decode cX8_blamedFamily 58 = .ok (.iload_n 1, 1) := by decide +kernel
theorem dX8_blamedFamily_59 : decode cX8_blamedFamily 59 = .ok (.imul, 1) := by decide +kernel
theorem dX8_blamedFamily_60 : decode cX8_blamedFamily 60 = .ok (.iconst 1, 1) := by decide +kernel
theorem dX8_blamedFamily_61 : decode cX8_blamedFamily 61 = .ok (.iadd, 1) := by decide +kernel
theorem dX8_blamedFamily_62 : decode cX8_blamedFamily 62 = .ok (.invokestatic 149, 3) := by decide +kernel
theorem dX8_blamedFamily_65 : decode cX8_blamedFamily 65 = .ok (.ifCond .eq 5, 3) := by decide +kernel
theorem dX8_blamedFamily_68 : decode cX8_blamedFamily 68 = .ok (.iload_n 1, 1) := by decide +kernel
theorem dX8_blamedFamily_69 : decode cX8_blamedFamily 69 = .ok (.ireturn, 1) := by decide +kernel
theorem dX8_blamedFamily_70 : decode cX8_blamedFamily 70 = .ok (.iinc 1 1, 3) := by decide +kernel
theorem dX8_blamedFamily_73 : decode cX8_blamedFamily 73 = .ok (.goto (-44), 3) := by decide +kernel
theorem dX8_blamedFamily_76 : decode cX8_blamedFamily 76 = .ok (.iconst (-1), 1) := by decide +kernel
theorem dX8_blamedFamily_77 : decode cX8_blamedFamily 77 = .ok (.ireturn, 1) := by decide +kernel
theorem dX8_breakStatement_0 : decode cX8_breakStatement 0 = .ok (.aload_n 0, 1) := by decide +kernel
theorem dX8_breakStatement_1 : decode cX8_breakStatement 1 = .ok (.iload_n 1, 1) := by decide +kernel
theorem dX8_breakStatement_2 : decode cX8_breakStatement 2 = .ok (.invokevirtual 137, 3) := by decide +kernel
theorem dX8_breakStatement_5 : decode cX8_breakStatement 5 = .ok (.aload_n 0, 1) := by decide +kernel
theorem dX8_breakStatement_6 : decode cX8_breakStatement 6 = .ok (.iload_n 1, 1) := by decide +kernel
theorem dX8_breakStatement_7 : decode cX8_breakStatement 7 = .ok (.invokevirtual 153, 3) := by decide +kernel
theorem dX8_breakStatement_10 : decode cX8_breakStatement 10 = .ok (.aload_n 0, 1) := by decide +kernel
theorem dX8_breakStatement_11 : decode cX8_breakStatement 11 = .ok (.getfield 70, 3) := by decide +kernel
theorem dX8_breakStatement_14 : decode cX8_breakStatement 14 = .ok (.aload_n 0, 1) := by decide +kernel
theorem dX8_breakStatement_15 : decode cX8_breakStatement 15 = .ok (.getfield 70, 3) := by decide +kernel
theorem dX8_breakStatement_18 : decode cX8_breakStatement 18 = .ok (.getfield 128, 3) := by decide +kernel
theorem dX8_breakStatement_21 : decode cX8_breakStatement 21 = .ok (.iload_n 1, 1) := by decide +kernel
theorem dX8_breakStatement_22 : decode cX8_breakStatement 22 = .ok (.invokestatic 159, 3) := by decide +kernel
theorem dX8_breakStatement_25 : decode cX8_breakStatement 25 = .ok (.putfield 128, 3) := by decide +kernel
theorem dX8_breakStatement_28 : decode cX8_breakStatement 28 = .ok (.aload_n 0, 1) := by decide +kernel
theorem dX8_breakStatement_29 : decode cX8_breakStatement 29 = .ok (.getfield 70, 3) := by decide +kernel
theorem dX8_breakStatement_32 : decode cX8_breakStatement 32 = .ok (.getfield 128, 3) := by decide +kernel
theorem dX8_breakStatement_35 : decode cX8_breakStatement 35 = .ok (.invokestatic 131, 3) := by decide +kernel
theorem dX8_breakStatement_38 : decode cX8_breakStatement 38 = .ok (.ireturn, 1) := by decide +kernel
theorem dX8_renewStatement_0 : decode cX8_renewStatement 0 = .ok (.aload_n 0, 1) := by decide +kernel
theorem dX8_renewStatement_1 : decode cX8_renewStatement 1 = .ok (.iload_n 1, 1) := by decide +kernel
theorem dX8_renewStatement_2 : decode cX8_renewStatement 2 = .ok (.invokevirtual 137, 3) := by decide +kernel
theorem dX8_renewStatement_5 : decode cX8_renewStatement 5 = .ok (.aload_n 0, 1) := by decide +kernel
theorem dX8_renewStatement_6 : decode cX8_renewStatement 6 = .ok (.getfield 70, 3) := by decide +kernel
theorem dX8_renewStatement_9 : decode cX8_renewStatement 9 = .ok (.getfield 128, 3) := by decide +kernel
theorem dX8_renewStatement_12 : decode cX8_renewStatement 12 = .ok (.iload_n 1, 1) := by decide +kernel
theorem dX8_renewStatement_13 : decode cX8_renewStatement 13 = .ok (.invokestatic 149, 3) := by decide +kernel
theorem dX8_renewStatement_16 : decode cX8_renewStatement 16 = .ok (.ifCond .eq 13, 3) := by decide +kernel
theorem dX8_renewStatement_19 : decode cX8_renewStatement 19 = .ok (.new 84, 3) := by decide +kernel
theorem dX8_renewStatement_22 : decode cX8_renewStatement 22 = .ok (.dup, 1) := by decide +kernel
theorem dX8_renewStatement_23 : decode cX8_renewStatement 23 = .ok (.ldc 200, 2) := by decide +kernel
theorem dX8_renewStatement_25 : decode cX8_renewStatement 25 = .ok (.invokespecial 88, 3) := by decide +kernel
theorem dX8_renewStatement_28 : decode cX8_renewStatement 28 = .ok (.athrow, 1) := by decide +kernel
theorem dX8_renewStatement_29 : decode cX8_renewStatement 29 = .ok (.aload_n 0, 1) := by decide +kernel
theorem dX8_renewStatement_30 : decode cX8_renewStatement 30 = .ok (.getfield 70, 3) := by decide +kernel
theorem dX8_renewStatement_33 : decode cX8_renewStatement 33 = .ok (.aload_n 0, 1) := by decide +kernel
theorem dX8_renewStatement_34 : decode cX8_renewStatement 34 = .ok (.getfield 70, 3) := by decide +kernel
theorem dX8_renewStatement_37 : decode cX8_renewStatement 37 = .ok (.getfield 128, 3) := by decide +kernel
theorem dX8_renewStatement_40 : decode cX8_renewStatement 40 = .ok (.iload_n 1, 1) := by decide +kernel
theorem dX8_renewStatement_41 : decode cX8_renewStatement 41 = .ok (.invokestatic 202, 3) := by decide +kernel
theorem dX8_renewStatement_44 : decode cX8_renewStatement 44 = .ok (.putfield 128, 3) := by decide +kernel
theorem dX8_renewStatement_47 : decode cX8_renewStatement 47 = .ok (.aload_n 0, 1) := by decide +kernel
theorem dX8_renewStatement_48 : decode cX8_renewStatement 48 = .ok (.getfield 70, 3) := by decide +kernel
theorem dX8_renewStatement_51 : decode cX8_renewStatement 51 = .ok (.getfield 128, 3) := by decide +kernel
theorem dX8_renewStatement_54 : decode cX8_renewStatement 54 = .ok (.invokestatic 131, 3) := by decide +kernel
theorem dX8_renewStatement_57 : decode cX8_renewStatement 57 = .ok (.ireturn, 1) := by decide +kernel
theorem dX8_passDays_0 : decode cX8_passDays 0 = .ok (.aload_n 0, 1) := by decide +kernel
theorem dX8_passDays_1 : decode cX8_passDays 1 = .ok (.iload_n 1, 1) := by decide +kernel
theorem dX8_passDays_2 : decode cX8_passDays 2 = .ok (.invokevirtual 205, 3) := by decide +kernel
theorem dX8_passDays_5 : decode cX8_passDays 5 = .ok (.aload_n 0, 1) := by decide +kernel
theorem dX8_passDays_6 : decode cX8_passDays 6 = .ok (.getfield 70, 3) := by decide +kernel
theorem dX8_passDays_9 : decode cX8_passDays 9 = .ok (.getfield 125, 3) := by decide +kernel
theorem dX8_passDays_12 : decode cX8_passDays 12 = .ok (.istore_n 2, 1) := by decide +kernel
theorem dX8_passDays_13 : decode cX8_passDays 13 = .ok (.aload_n 0, 1) := by decide +kernel
theorem dX8_passDays_14 : decode cX8_passDays 14 = .ok (.getfield 63, 3) := by decide +kernel
theorem dX8_passDays_17 : decode cX8_passDays 17 = .ok (.aload_n 0, 1) := by decide +kernel
theorem dX8_passDays_18 : decode cX8_passDays 18 = .ok (.getfield 70, 3) := by decide +kernel
theorem dX8_passDays_21 : decode cX8_passDays 21 = .ok (.iload_n 1, 1) := by decide +kernel
theorem dX8_passDays_22 : decode cX8_passDays 22 = .ok (.invokevirtual 208, 3) := by decide +kernel
theorem dX8_passDays_25 : decode cX8_passDays 25 = .ok (.aload_n 0, 1) := by decide +kernel
theorem dX8_passDays_26 : decode cX8_passDays 26 = .ok (.getfield 70, 3) := by decide +kernel
theorem dX8_passDays_29 : decode cX8_passDays 29 = .ok (.getfield 125, 3) := by decide +kernel
theorem dX8_passDays_32 : decode cX8_passDays 32 = .ok (.iload_n 2, 1) := by decide +kernel
theorem dX8_passDays_33 : decode cX8_passDays 33 = .ok (.isub, 1) := by decide +kernel
theorem dX8_passDays_34 : decode cX8_passDays 34 = .ok (.ireturn, 1) := by decide +kernel
theorem dX8_standingAfter_0 : decode cX8_standingAfter 0 = .ok (.aload_n 0, 1) := by decide +kernel
theorem dX8_standingAfter_1 : decode cX8_standingAfter 1 = .ok (.iload_n 1, 1) := by decide +kernel
theorem dX8_standingAfter_2 : decode cX8_standingAfter 2 = .ok (.invokevirtual 205, 3) := by decide +kernel
theorem dX8_standingAfter_5 : decode cX8_standingAfter 5 = .ok (.aload_n 0, 1) := by decide +kernel
theorem dX8_standingAfter_6 : decode cX8_standingAfter 6 = .ok (.getfield 74, 3) := by decide +kernel
theorem dX8_standingAfter_9 : decode cX8_standingAfter 9 = .ok (.aload_n 0, 1) := by decide +kernel
theorem dX8_standingAfter_10 : decode cX8_standingAfter 10 = .ok (.getfield 70, 3) := by decide +kernel
theorem dX8_standingAfter_13 : decode cX8_standingAfter 13 = .ok (.invokevirtual 212, 3) := by decide +kernel
theorem dX8_standingAfter_16 : decode cX8_standingAfter 16 = .ok (.aload_n 0, 1) := by decide +kernel
theorem dX8_standingAfter_17 : decode cX8_standingAfter 17 = .ok (.getfield 63, 3) := by decide +kernel
theorem dX8_standingAfter_20 : decode cX8_standingAfter 20 = .ok (.aload_n 0, 1) := by decide +kernel
theorem dX8_standingAfter_21 : decode cX8_standingAfter 21 = .ok (.getfield 74, 3) := by decide +kernel
theorem dX8_standingAfter_24 : decode cX8_standingAfter 24 = .ok (.iload_n 1, 1) := by decide +kernel
theorem dX8_standingAfter_25 : decode cX8_standingAfter 25 = .ok (.invokevirtual 208, 3) := by decide +kernel
theorem dX8_standingAfter_28 : decode cX8_standingAfter 28 = .ok (.aload_n 0, 1) := by decide +kernel
theorem dX8_standingAfter_29 : decode cX8_standingAfter 29 = .ok (.getfield 74, 3) := by decide +kernel
theorem dX8_standingAfter_32 : decode cX8_standingAfter 32 = .ok (.getfield 128, 3) := by decide +kernel
theorem dX8_standingAfter_35 : decode cX8_standingAfter 35 = .ok (.invokestatic 131, 3) := by decide +kernel
theorem dX8_standingAfter_38 : decode cX8_standingAfter 38 = .ok (.ireturn, 1) := by decide +kernel
theorem dX8_peacesAfter_0 : decode cX8_peacesAfter 0 = .ok (.aload_n 0, 1) := by decide +kernel
theorem dX8_peacesAfter_1 : decode cX8_peacesAfter 1 = .ok (.iload_n 1, 1) := by decide +kernel
theorem dX8_peacesAfter_2 : decode cX8_peacesAfter 2 = .ok (.invokevirtual 205, 3) := by decide +kernel
theorem dX8_peacesAfter_5 : decode cX8_peacesAfter 5 = .ok (.aload_n 0, 1) := by decide +kernel
theorem dX8_peacesAfter_6 : decode cX8_peacesAfter 6 = .ok (.getfield 74, 3) := by decide +kernel
theorem dX8_peacesAfter_9 : decode cX8_peacesAfter 9 = .ok (.aload_n 0, 1) := by decide +kernel
theorem dX8_peacesAfter_10 : decode cX8_peacesAfter 10 = .ok (.getfield 70, 3) := by decide +kernel
theorem dX8_peacesAfter_13 : decode cX8_peacesAfter 13 = .ok (.invokevirtual 212, 3) := by decide +kernel
theorem dX8_peacesAfter_16 : decode cX8_peacesAfter 16 = .ok (.aload_n 0, 1) := by decide +kernel
theorem dX8_peacesAfter_17 : decode cX8_peacesAfter 17 = .ok (.getfield 63, 3) := by decide +kernel
theorem dX8_peacesAfter_20 : decode cX8_peacesAfter 20 = .ok (.aload_n 0, 1) := by decide +kernel
theorem dX8_peacesAfter_21 : decode cX8_peacesAfter 21 = .ok (.getfield 74, 3) := by decide +kernel
theorem dX8_peacesAfter_24 : decode cX8_peacesAfter 24 = .ok (.iload_n 1, 1) := by decide +kernel
theorem dX8_peacesAfter_25 : decode cX8_peacesAfter 25 = .ok (.invokevirtual 208, 3) := by decide +kernel
theorem dX8_peacesAfter_28 : decode cX8_peacesAfter 28 = .ok (.aload_n 0, 1) := by decide +kernel
theorem dX8_peacesAfter_29 : decode cX8_peacesAfter 29 = .ok (.getfield 54, 3) := by decide +kernel
theorem dX8_peacesAfter_32 : decode cX8_peacesAfter 32 = .ok (.aload_n 0, 1) := by decide +kernel
theorem dX8_peacesAfter_33 : decode cX8_peacesAfter 33 = .ok (.getfield 74, 3) := by decide +kernel
theorem dX8_peacesAfter_36 : decode cX8_peacesAfter 36 = .ok (.getfield 128, 3) := by decide +kernel
theorem dX8_peacesAfter_39 : decode cX8_peacesAfter 39 = .ok (.invokevirtual 156, 3) := by decide +kernel
theorem dX8_peacesAfter_42 : decode cX8_peacesAfter 42 = .ok (.ireturn, 1) := by decide +kernel
theorem dX8_daysUntilPeace_0 : decode cX8_daysUntilPeace 0 = .ok (.aload_n 0, 1) := by decide +kernel
theorem dX8_daysUntilPeace_1 : decode cX8_daysUntilPeace 1 = .ok (.getfield 74, 3) := by decide +kernel
theorem dX8_daysUntilPeace_4 : decode cX8_daysUntilPeace 4 = .ok (.aload_n 0, 1) := by decide +kernel
theorem dX8_daysUntilPeace_5 : decode cX8_daysUntilPeace 5 = .ok (.getfield 70, 3) := by decide +kernel
theorem dX8_daysUntilPeace_8 : decode cX8_daysUntilPeace 8 = .ok (.invokevirtual 212, 3) := by decide +kernel
theorem dX8_daysUntilPeace_11 : decode cX8_daysUntilPeace 11 = .ok (.iconst 0, 1) := by decide +kernel
theorem dX8_daysUntilPeace_12 : decode cX8_daysUntilPeace 12 = .ok (.istore_n 1, 1) := by decide +kernel
theorem dX8_daysUntilPeace_13 : decode cX8_daysUntilPeace 13 = .ok (.iload_n 1, 1) := by decide +kernel
theorem dX8_daysUntilPeace_14 : decode cX8_daysUntilPeace 14 = .ok (.bipush 30, 2) := by decide +kernel
theorem dX8_daysUntilPeace_16 : decode cX8_daysUntilPeace 16 = .ok (.if_icmp .ge 40, 3) := by decide +kernel
theorem dX8_daysUntilPeace_19 : decode cX8_daysUntilPeace 19 = .ok (.aload_n 0, 1) := by decide +kernel
theorem dX8_daysUntilPeace_20 : decode cX8_daysUntilPeace 20 = .ok (.getfield 54, 3) := by decide +kernel
theorem dX8_daysUntilPeace_23 : decode cX8_daysUntilPeace 23 = .ok (.aload_n 0, 1) := by decide +kernel
theorem dX8_daysUntilPeace_24 : decode cX8_daysUntilPeace 24 = .ok (.getfield 74, 3) := by decide +kernel
theorem dX8_daysUntilPeace_27 : decode cX8_daysUntilPeace 27 = .ok (.getfield 128, 3) := by decide +kernel
theorem dX8_daysUntilPeace_30 : decode cX8_daysUntilPeace 30 = .ok (.invokevirtual 156, 3) := by decide +kernel
theorem dX8_daysUntilPeace_33 : decode cX8_daysUntilPeace 33 = .ok (.ifCond .le 5, 3) := by decide +kernel
theorem dX8_daysUntilPeace_36 : decode cX8_daysUntilPeace 36 = .ok (.iload_n 1, 1) := by decide +kernel
theorem dX8_daysUntilPeace_37 : decode cX8_daysUntilPeace 37 = .ok (.ireturn, 1) := by decide +kernel
theorem dX8_daysUntilPeace_38 : decode cX8_daysUntilPeace 38 = .ok (.aload_n 0, 1) := by decide +kernel
theorem dX8_daysUntilPeace_39 : decode cX8_daysUntilPeace 39 = .ok (.getfield 63, 3) := by decide +kernel
theorem dX8_daysUntilPeace_42 : decode cX8_daysUntilPeace 42 = .ok (.aload_n 0, 1) := by decide +kernel
theorem dX8_daysUntilPeace_43 : decode cX8_daysUntilPeace 43 = .ok (.getfield 74, 3) := by decide +kernel
theorem dX8_daysUntilPeace_46 : decode cX8_daysUntilPeace 46 = .ok (.iconst 1, 1) := by decide +kernel
theorem dX8_daysUntilPeace_47 : decode cX8_daysUntilPeace 47 = .ok (.invokevirtual 208, 3) := by decide +kernel
theorem dX8_daysUntilPeace_50 : decode cX8_daysUntilPeace 50 = .ok (.iinc 1 1, 3) := by decide +kernel
theorem dX8_daysUntilPeace_53 : decode cX8_daysUntilPeace 53 = .ok (.goto (-40), 3) := by decide +kernel
theorem dX8_daysUntilPeace_56 : decode cX8_daysUntilPeace 56 = .ok (.aload_n 0, 1) := by decide +kernel
theorem dX8_daysUntilPeace_57 : decode cX8_daysUntilPeace 57 = .ok (.getfield 54, 3) := by decide +kernel
theorem dX8_daysUntilPeace_60 : decode cX8_daysUntilPeace 60 = .ok (.aload_n 0, 1) := by decide +kernel
theorem dX8_daysUntilPeace_61 : decode cX8_daysUntilPeace 61 = .ok (.getfield 74, 3) := by decide +kernel
theorem dX8_daysUntilPeace_64 : decode cX8_daysUntilPeace 64 = .ok (.getfield 128, 3) := by decide +kernel
theorem dX8_daysUntilPeace_67 : decode cX8_daysUntilPeace 67 = .ok (.invokevirtual 156, 3) := by decide +kernel
theorem dX8_daysUntilPeace_70 : decode cX8_daysUntilPeace 70 = .ok (.ifCond .le 8, 3) := by decide +kernel
theorem dX8_daysUntilPeace_73 : decode cX8_daysUntilPeace 73 = .ok (.bipush 30, 2) := by decide +kernel
theorem dX8_daysUntilPeace_75 : decode cX8_daysUntilPeace 75 = .ok (.goto 4, 3) := by decide +kernel
theorem dX8_daysUntilPeace_78 : decode cX8_daysUntilPeace 78 = .ok (.iconst (-1), 1) := by decide +kernel
theorem dX8_daysUntilPeace_79 : decode cX8_daysUntilPeace 79 = .ok (.ireturn, 1) := by decide +kernel
theorem dX8_fewestToBreak_0 : decode cX8_fewestToBreak 0 = .ok (.aload_n 0, 1) := by decide +kernel
theorem dX8_fewestToBreak_1 : decode cX8_fewestToBreak 1 = .ok (.getfield 54, 3) := by decide +kernel
theorem dX8_fewestToBreak_4 : decode cX8_fewestToBreak 4 = .ok (.aload_n 0, 1) := by decide +kernel
theorem dX8_fewestToBreak_5 : decode cX8_fewestToBreak 5 = .ok (.getfield 70, 3) := by decide +kernel
theorem dX8_fewestToBreak_8 : decode cX8_fewestToBreak 8 = .ok (.getfield 128, 3) := by decide +kernel
theorem dX8_fewestToBreak_11 : decode cX8_fewestToBreak 11 = .ok (.invokevirtual 216, 3) := by decide +kernel
theorem dX8_fewestToBreak_14 : decode cX8_fewestToBreak 14 = .ok (.ireturn, 1) := by decide +kernel
theorem dX8_mostTellingOath_0 : decode cX8_mostTellingOath 0 = .ok (.aload_n 0, 1) := by decide +kernel
theorem dX8_mostTellingOath_1 : decode cX8_mostTellingOath 1 = .ok (.invokevirtual 187, 3) := by decide +kernel
theorem dX8_mostTellingOath_4 : decode cX8_mostTellingOath 4 = .ok (.aload_n 0, 1) := by decide +kernel
theorem dX8_mostTellingOath_5 : decode cX8_mostTellingOath 5 = .ok (.getfield 30, 3) := by decide +kernel
theorem dX8_mostTellingOath_8 : decode cX8_mostTellingOath 8 = .ok (.getfield 113, 3) := by decide +kernel
theorem dX8_mostTellingOath_11 : decode cX8_mostTellingOath 11 = .ok (.ifCond .ne 13, 3) := by decide +kernel
theorem dX8_mostTellingOath_14 : decode cX8_mostTellingOath 14 = .ok (.new 84, 3) := by decide +kernel
theorem dX8_mostTellingOath_17 : decode cX8_mostTellingOath 17 = .ok (.dup, 1) := by decide +kernel
theorem dX8_mostTellingOath_18 : decode cX8_mostTellingOath 18 = .ok (.ldc 219, 2) := by decide +kernel
theorem dX8_mostTellingOath_20 : decode cX8_mostTellingOath 20 = .ok (.invokespecial 88, 3) := by decide +kernel
theorem dX8_mostTellingOath_23 : decode cX8_mostTellingOath 23 = .ok (.athrow, 1) := by decide +kernel
theorem dX8_mostTellingOath_24 : decode cX8_mostTellingOath 24 = .ok (.iconst 0, 1) := by decide +kernel
theorem dX8_mostTellingOath_25 : decode cX8_mostTellingOath 25 = .ok (.istore_n 1, 1) := by decide +kernel
theorem dX8_mostTellingOath_26 : decode cX8_mostTellingOath 26 = .ok (.iconst 0, 1) := by decide +kernel
theorem dX8_mostTellingOath_27 : decode cX8_mostTellingOath 27 = .ok (.istore_n 2, 1) := by decide +kernel
theorem dX8_mostTellingOath_28 : decode cX8_mostTellingOath 28 = .ok (.iconst 0, 1) := by decide +kernel
theorem dX8_mostTellingOath_29 : decode cX8_mostTellingOath 29 = .ok (.istore_n 3, 1) := by decide +kernel
theorem dX8_mostTellingOath_30 : decode cX8_mostTellingOath 30 = .ok (.iload_n 3, 1) := by decide +kernel
theorem dX8_mostTellingOath_31 : decode cX8_mostTellingOath 31 = .ok (.iconst 2, 1) := by decide +kernel
theorem dX8_mostTellingOath_32 : decode cX8_mostTellingOath 32 = .ok (.aload_n 0, 1) := by decide +kernel
theorem dX8_mostTellingOath_33 : decode cX8_mostTellingOath 33 = .ok (.getfield 30, 3) := by decide +kernel
theorem dX8_mostTellingOath_36 : decode cX8_mostTellingOath 36 = .ok (.getfield 113, 3) := by decide +kernel
theorem dX8_mostTellingOath_39 : decode cX8_mostTellingOath 39 = .ok (.imul, 1) := by decide +kernel
theorem dX8_mostTellingOath_40 : decode cX8_mostTellingOath 40 = .ok (.if_icmp .ge 46, 3) := by decide +kernel
theorem dX8_mostTellingOath_43 : decode cX8_mostTellingOath 43 = .ok (.aload_n 0, 1) := by decide +kernel
theorem dX8_mostTellingOath_44 : decode cX8_mostTellingOath 44 = .ok (.getfield 54, 3) := by decide +kernel
theorem dX8_mostTellingOath_47 : decode cX8_mostTellingOath 47 = .ok (.aload_n 0, 1) := by decide +kernel
theorem dX8_mostTellingOath_48 : decode cX8_mostTellingOath 48 = .ok (.getfield 70, 3) := by decide +kernel
theorem dX8_mostTellingOath_51 : decode cX8_mostTellingOath 51 = .ok (.getfield 128, 3) := by decide +kernel
theorem dX8_mostTellingOath_54 : decode cX8_mostTellingOath 54 = .ok (.iload_n 3, 1) := by decide +kernel
theorem dX8_mostTellingOath_55 : decode cX8_mostTellingOath 55 = .ok (.invokevirtual 184, 3) := by decide +kernel
theorem dX8_mostTellingOath_58 : decode cX8_mostTellingOath 58 = .ok (.istore 4, 2) := by decide +kernel
theorem dX8_mostTellingOath_60 : decode cX8_mostTellingOath 60 = .ok (.iload 4, 2) := by decide +kernel
theorem dX8_mostTellingOath_62 : decode cX8_mostTellingOath 62 = .ok (.ifCond .le 18, 3) := by decide +kernel
theorem dX8_mostTellingOath_65 : decode cX8_mostTellingOath 65 = .ok (.iload_n 2, 1) := by decide +kernel
theorem dX8_mostTellingOath_66 : decode cX8_mostTellingOath 66 = .ok (.ifCond .eq 9, 3) := by decide +kernel
theorem dX8_mostTellingOath_69 : decode cX8_mostTellingOath 69 = .ok (.iload 4, 2) := by decide +kernel
theorem dX8_mostTellingOath_71 : decode cX8_mostTellingOath 71 = .ok (.iload_n 2, 1) := by decide +kernel
theorem dX8_mostTellingOath_72 : decode cX8_mostTellingOath 72 = .ok (.if_icmp .ge 8, 3) := by decide +kernel
theorem dX8_mostTellingOath_75 : decode cX8_mostTellingOath 75 = .ok (.iload_n 3, 1) := by decide +kernel
theorem dX8_mostTellingOath_76 : decode cX8_mostTellingOath 76 = .ok (.istore_n 1, 1) := by decide +kernel
theorem dX8_mostTellingOath_77 : decode cX8_mostTellingOath 77 = .ok (.iload 4, 2) := by decide +kernel
theorem dX8_mostTellingOath_79 : decode cX8_mostTellingOath 79 = .ok (.istore_n 2, 1) := by decide +kernel
theorem dX8_mostTellingOath_80 : decode cX8_mostTellingOath 80 = .ok (.iinc 3 1, 3) := by decide +kernel
theorem dX8_mostTellingOath_83 : decode cX8_mostTellingOath 83 = .ok (.goto (-53), 3) := by decide +kernel
theorem dX8_mostTellingOath_86 : decode cX8_mostTellingOath 86 = .ok (.iload_n 1, 1) := by decide +kernel
theorem dX8_mostTellingOath_87 : decode cX8_mostTellingOath 87 = .ok (.ireturn, 1) := by decide +kernel
theorem dX8_meanRiders_0 : decode cX8_meanRiders 0 = .ok (.aload_n 0, 1) := by decide +kernel
theorem dX8_meanRiders_1 : decode cX8_meanRiders 1 = .ok (.getfield 54, 3) := by decide +kernel
theorem dX8_meanRiders_4 : decode cX8_meanRiders 4 = .ok (.aload_n 0, 1) := by decide +kernel
theorem dX8_meanRiders_5 : decode cX8_meanRiders 5 = .ok (.getfield 70, 3) := by decide +kernel
theorem dX8_meanRiders_8 : decode cX8_meanRiders 8 = .ok (.getfield 128, 3) := by decide +kernel
theorem dX8_meanRiders_11 : decode cX8_meanRiders 11 = .ok (.invokevirtual 156, 3) := by decide +kernel
theorem dX8_meanRiders_14 : decode cX8_meanRiders 14 = .ok (.istore_n 1, 1) := by decide +kernel
theorem dX8_meanRiders_15 : decode cX8_meanRiders 15 = .ok (.iload_n 1, 1) := by decide +kernel
theorem dX8_meanRiders_16 : decode cX8_meanRiders 16 = .ok (.ifCond .ne 5, 3) := by decide +kernel
theorem dX8_meanRiders_19 : decode cX8_meanRiders 19 = .ok (.dconst 0, 1) := by decide +kernel
theorem dX8_meanRiders_20 : decode cX8_meanRiders 20 = .ok (.dreturn, 1) := by decide +kernel
theorem dX8_meanRiders_21 : decode cX8_meanRiders 21 = .ok (.iconst 0, 1) := by decide +kernel
theorem dX8_meanRiders_22 : decode cX8_meanRiders 22 = .ok (.istore_n 2, 1) := by decide +kernel
theorem dX8_meanRiders_23 : decode cX8_meanRiders 23 = .ok (.iconst 0, 1) := by decide +kernel
theorem dX8_meanRiders_24 : decode cX8_meanRiders 24 = .ok (.istore_n 3, 1) := by decide +kernel
theorem dX8_meanRiders_25 : decode cX8_meanRiders 25 = .ok (.iload_n 3, 1) := by decide +kernel
theorem dX8_meanRiders_26 : decode cX8_meanRiders 26 = .ok (.aload_n 0, 1) := by decide +kernel
theorem dX8_meanRiders_27 : decode cX8_meanRiders 27 = .ok (.getfield 30, 3) := by decide +kernel
theorem dX8_meanRiders_30 : decode cX8_meanRiders 30 = .ok (.getfield 113, 3) := by decide +kernel
theorem dX8_meanRiders_33 : decode cX8_meanRiders 33 = .ok (.if_icmp .ge 29, 3) := by decide +kernel
theorem dX8_meanRiders_36 : decode cX8_meanRiders 36 = .ok (.iload_n 2, 1) := by decide +kernel
theorem dX8_meanRiders_37 : decode cX8_meanRiders 37 = .ok (.aload_n 0, 1) := by decide +kernel
theorem dX8_meanRiders_38 : decode cX8_meanRiders 38 = .ok (.getfield 54, 3) := by decide +kernel
theorem dX8_meanRiders_41 : decode cX8_meanRiders 41 = .ok (.aload_n 0, 1) := by decide +kernel
theorem dX8_meanRiders_42 : decode cX8_meanRiders 42 = .ok (.getfield 70, 3) := by decide +kernel
theorem dX8_meanRiders_45 : decode cX8_meanRiders 45 = .ok (.getfield 128, 3) := by decide +kernel
theorem dX8_meanRiders_48 : decode cX8_meanRiders 48 = .ok (.iconst 2, 1) := by decide +kernel
theorem dX8_meanRiders_49 : decode cX8_meanRiders 49 = .ok (.iload_n 3, 1) := by decide +kernel
theorem dX8_meanRiders_50 : decode cX8_meanRiders 50 = .ok (.imul, 1) := by decide +kernel
theorem dX8_meanRiders_51 : decode cX8_meanRiders 51 = .ok (.invokevirtual 184, 3) := by decide +kernel
theorem dX8_meanRiders_54 : decode cX8_meanRiders 54 = .ok (.iadd, 1) := by decide +kernel
theorem dX8_meanRiders_55 : decode cX8_meanRiders 55 = .ok (.istore_n 2, 1) := by decide +kernel
theorem dX8_meanRiders_56 : decode cX8_meanRiders 56 = .ok (.iinc 3 1, 3) := by decide +kernel
theorem dX8_meanRiders_59 : decode cX8_meanRiders 59 = .ok (.goto (-34), 3) := by decide +kernel
theorem dX8_meanRiders_62 : decode cX8_meanRiders 62 = .ok (.iload_n 2, 1) := by decide +kernel
theorem dX8_meanRiders_63 : decode cX8_meanRiders 63 = .ok (.i2d, 1) := by decide +kernel
theorem dX8_meanRiders_64 : decode cX8_meanRiders 64 = .ok (.iload_n 1, 1) := by decide +kernel
theorem dX8_meanRiders_65 : decode cX8_meanRiders 65 = .ok (.i2d, 1) := by decide +kernel
theorem dX8_meanRiders_66 : decode cX8_meanRiders 66 = .ok (.ddiv, 1) := by decide +kernel
theorem dX8_meanRiders_67 : decode cX8_meanRiders 67 = .ok (.dreturn, 1) := by decide +kernel
theorem dX8_digest_0 : decode cX8_digest 0 = .ok (.ldc2_w 221, 3) := by decide +kernel
theorem dX8_digest_3 : decode cX8_digest 3 = .ok (.lstore_n 1, 1) := by decide +kernel
theorem dX8_digest_4 : decode cX8_digest 4 = .ok (.lload_n 1, 1) := by decide +kernel
theorem dX8_digest_5 : decode cX8_digest 5 = .ok (.ldc2_w 223, 3) := by decide +kernel
theorem dX8_digest_8 : decode cX8_digest 8 = .ok (.lmul, 1) := by decide +kernel
theorem dX8_digest_9 : decode cX8_digest 9 = .ok (.aload_n 0, 1) := by decide +kernel
theorem dX8_digest_10 : decode cX8_digest 10 = .ok (.getfield 30, 3) := by decide +kernel
theorem dX8_digest_13 : decode cX8_digest 13 = .ok (.getfield 113, 3) := by decide +kernel
theorem dX8_digest_16 : decode cX8_digest 16 = .ok (.i2l, 1) := by decide +kernel
theorem dX8_digest_17 : decode cX8_digest 17 = .ok (.ladd, 1) := by decide +kernel
theorem dX8_digest_18 : decode cX8_digest 18 = .ok (.lstore_n 1, 1) := by decide +kernel
theorem dX8_digest_19 : decode cX8_digest 19 = .ok (.lload_n 1, 1) := by decide +kernel
theorem dX8_digest_20 : decode cX8_digest 20 = .ok (.ldc2_w 223, 3) := by decide +kernel
theorem dX8_digest_23 : decode cX8_digest 23 = .ok (.lmul, 1) := by decide +kernel
theorem dX8_digest_24 : decode cX8_digest 24 = .ok (.aload_n 0, 1) := by decide +kernel
theorem dX8_digest_25 : decode cX8_digest 25 = .ok (.getfield 30, 3) := by decide +kernel
theorem dX8_digest_28 : decode cX8_digest 28 = .ok (.getfield 116, 3) := by decide +kernel
theorem dX8_digest_31 : decode cX8_digest 31 = .ok (.i2l, 1) := by decide +kernel
theorem dX8_digest_32 : decode cX8_digest 32 = .ok (.ladd, 1) := by decide +kernel
theorem dX8_digest_33 : decode cX8_digest 33 = .ok (.lstore_n 1, 1) := by decide +kernel
theorem dX8_digest_34 : decode cX8_digest 34 = .ok (.lload_n 1, 1) := by decide +kernel
theorem dX8_digest_35 : decode cX8_digest 35 = .ok (.ldc2_w 223, 3) := by decide +kernel
theorem dX8_digest_38 : decode cX8_digest 38 = .ok (.lmul, 1) := by decide +kernel
theorem dX8_digest_39 : decode cX8_digest 39 = .ok (.aload_n 0, 1) := by decide +kernel
theorem dX8_digest_40 : decode cX8_digest 40 = .ok (.getfield 30, 3) := by decide +kernel
theorem dX8_digest_43 : decode cX8_digest 43 = .ok (.getfield 119, 3) := by decide +kernel
theorem dX8_digest_46 : decode cX8_digest 46 = .ok (.i2l, 1) := by decide +kernel
theorem dX8_digest_47 : decode cX8_digest 47 = .ok (.ladd, 1) := by decide +kernel
theorem dX8_digest_48 : decode cX8_digest 48 = .ok (.lstore_n 1, 1) := by decide +kernel
theorem dX8_digest_49 : decode cX8_digest 49 = .ok (.lload_n 1, 1) := by decide +kernel
theorem dX8_digest_50 : decode cX8_digest 50 = .ok (.ldc2_w 223, 3) := by decide +kernel
theorem dX8_digest_53 : decode cX8_digest 53 = .ok (.lmul, 1) := by decide +kernel
theorem dX8_digest_54 : decode cX8_digest 54 = .ok (.aload_n 0, 1) := by decide +kernel
theorem dX8_digest_55 : decode cX8_digest 55 = .ok (.getfield 70, 3) := by decide +kernel
theorem dX8_digest_58 : decode cX8_digest 58 = .ok (.getfield 122, 3) := by decide +kernel
theorem dX8_digest_61 : decode cX8_digest 61 = .ok (.i2l, 1) := by decide +kernel
theorem dX8_digest_62 : decode cX8_digest 62 = .ok (.ladd, 1) := by decide +kernel
theorem dX8_digest_63 : decode cX8_digest 63 = .ok (.lstore_n 1, 1) := by decide +kernel
theorem dX8_digest_64 : decode cX8_digest 64 = .ok (.lload_n 1, 1) := by decide +kernel
theorem dX8_digest_65 : decode cX8_digest 65 = .ok (.ldc2_w 223, 3) := by decide +kernel
theorem dX8_digest_68 : decode cX8_digest 68 = .ok (.lmul, 1) := by decide +kernel
theorem dX8_digest_69 : decode cX8_digest 69 = .ok (.aload_n 0, 1) := by decide +kernel
theorem dX8_digest_70 : decode cX8_digest 70 = .ok (.getfield 70, 3) := by decide +kernel
theorem dX8_digest_73 : decode cX8_digest 73 = .ok (.getfield 125, 3) := by decide +kernel
theorem dX8_digest_76 : decode cX8_digest 76 = .ok (.i2l, 1) := by decide +kernel
theorem dX8_digest_77 : decode cX8_digest 77 = .ok (.ladd, 1) := by decide +kernel
theorem dX8_digest_78 : decode cX8_digest 78 = .ok (.lstore_n 1, 1) := by decide +kernel
theorem dX8_digest_79 : decode cX8_digest 79 = .ok (.lload_n 1, 1) := by decide +kernel
theorem dX8_digest_80 : decode cX8_digest 80 = .ok (.ldc2_w 223, 3) := by decide +kernel
theorem dX8_digest_83 : decode cX8_digest 83 = .ok (.lmul, 1) := by decide +kernel
theorem dX8_digest_84 : decode cX8_digest 84 = .ok (.aload_n 0, 1) := by decide +kernel
theorem dX8_digest_85 : decode cX8_digest 85 = .ok (.getfield 12, 3) := by decide +kernel
theorem dX8_digest_88 : decode cX8_digest 88 = .ok (.getfield 81, 3) := by decide +kernel
theorem dX8_digest_91 : decode cX8_digest 91 = .ok (.i2l, 1) := by decide +kernel
theorem dX8_digest_92 : decode cX8_digest 92 = .ok (.ladd, 1) := by decide +kernel
theorem dX8_digest_93 : decode cX8_digest 93 = .ok (.lstore_n 1, 1) := by decide +kernel
theorem dX8_digest_94 : decode cX8_digest 94 = .ok (.lload_n 1, 1) := by decide +kernel
theorem dX8_digest_95 : decode cX8_digest 95 = .ok (.ldc2_w 223, 3) := by decide +kernel
theorem dX8_digest_98 : decode cX8_digest 98 = .ok (.lmul, 1) := by decide +kernel
theorem dX8_digest_99 : decode cX8_digest 99 = .ok (.aload_n 0, 1) := by decide +kernel
theorem dX8_digest_100 : decode cX8_digest 100 = .ok (.getfield 70, 3) := by decide +kernel
theorem dX8_digest_103 : decode cX8_digest 103 = .ok (.getfield 128, 3) := by decide +kernel
theorem dX8_digest_106 : decode cX8_digest 106 = .ok (.invokestatic 131, 3) := by decide +kernel
theorem dX8_digest_109 : decode cX8_digest 109 = .ok (.i2l, 1) := by decide +kernel
theorem dX8_digest_110 : decode cX8_digest 110 = .ok (.ladd, 1) := by decide +kernel
theorem dX8_digest_111 : decode cX8_digest 111 = .ok (.lstore_n 1, 1) := by decide +kernel
theorem dX8_digest_112 : decode cX8_digest 112 = .ok (.lload_n 1, 1) := by decide +kernel
theorem dX8_digest_113 : decode cX8_digest 113 = .ok (.ldc2_w 223, 3) := by decide +kernel
theorem dX8_digest_116 : decode cX8_digest 116 = .ok (.lmul, 1) := by decide +kernel
theorem dX8_digest_117 : decode cX8_digest 117 = .ok (.aload_n 0, 1) := by decide +kernel
theorem dX8_digest_118 : decode cX8_digest 118 = .ok (.getfield 47, 3) := by decide +kernel
theorem dX8_digest_121 : decode cX8_digest 121 = .ok (.aload_n 0, 1) := by decide +kernel
theorem dX8_digest_122 : decode cX8_digest 122 = .ok (.getfield 70, 3) := by decide +kernel
theorem dX8_digest_125 : decode cX8_digest 125 = .ok (.getfield 128, 3) := by decide +kernel
theorem dX8_digest_128 : decode cX8_digest 128 = .ok (.invokevirtual 175, 3) := by decide +kernel
theorem dX8_digest_131 : decode cX8_digest 131 = .ok (.i2l, 1) := by decide +kernel
theorem dX8_digest_132 : decode cX8_digest 132 = .ok (.ladd, 1) := by decide +kernel
theorem dX8_digest_133 : decode cX8_digest 133 = .ok (.lstore_n 1, 1) := by decide +kernel
theorem dX8_digest_134 : decode cX8_digest 134 = .ok (.lload_n 1, 1) := by decide +kernel
theorem dX8_digest_135 : decode cX8_digest 135 = .ok (.ldc2_w 223, 3) := by decide +kernel
theorem dX8_digest_138 : decode cX8_digest 138 = .ok (.lmul, 1) := by decide +kernel
theorem dX8_digest_139 : decode cX8_digest 139 = .ok (.aload_n 0, 1) := by decide +kernel
theorem dX8_digest_140 : decode cX8_digest 140 = .ok (.getfield 54, 3) := by decide +kernel
theorem dX8_digest_143 : decode cX8_digest 143 = .ok (.aload_n 0, 1) := by decide +kernel
theorem dX8_digest_144 : decode cX8_digest 144 = .ok (.getfield 70, 3) := by decide +kernel
theorem dX8_digest_147 : decode cX8_digest 147 = .ok (.getfield 128, 3) := by decide +kernel
theorem dX8_digest_150 : decode cX8_digest 150 = .ok (.invokevirtual 156, 3) := by decide +kernel
theorem dX8_digest_153 : decode cX8_digest 153 = .ok (.i2l, 1) := by decide +kernel
theorem dX8_digest_154 : decode cX8_digest 154 = .ok (.ladd, 1) := by decide +kernel
theorem dX8_digest_155 : decode cX8_digest 155 = .ok (.lstore_n 1, 1) := by decide +kernel
theorem dX8_digest_156 : decode cX8_digest 156 = .ok (.aload_n 0, 1) := by decide +kernel
theorem dX8_digest_157 : decode cX8_digest 157 = .ok (.lload_n 1, 1) := by decide +kernel
theorem dX8_digest_158 : decode cX8_digest 158 = .ok (.invokevirtual 225, 3) := by decide +kernel
theorem dX8_digest_161 : decode cX8_digest 161 = .ok (.lstore_n 1, 1) := by decide +kernel
theorem dX8_digest_162 : decode cX8_digest 162 = .ok (.aload_n 0, 1) := by decide +kernel
theorem dX8_digest_163 : decode cX8_digest 163 = .ok (.lload_n 1, 1) := by decide +kernel
theorem dX8_digest_164 : decode cX8_digest 164 = .ok (.invokevirtual 229, 3) := by decide +kernel
theorem dX8_digest_167 : decode cX8_digest 167 = .ok (.lstore_n 1, 1) := by decide +kernel
theorem dX8_digest_168 : decode cX8_digest 168 = .ok (.aload_n 0, 1) := by decide +kernel
theorem dX8_digest_169 : decode cX8_digest 169 = .ok (.lload_n 1, 1) := by decide +kernel
theorem dX8_digest_170 : decode cX8_digest 170 = .ok (.invokevirtual 232, 3) := by decide +kernel
theorem dX8_digest_173 : decode cX8_digest 173 = .ok (.lreturn, 1) := by decide +kernel
theorem dX8_digestStatements_0 : decode cX8_digestStatements 0 = .ok (.lload_n 1, 1) := by decide +kernel
theorem dX8_digestStatements_1 : decode cX8_digestStatements 1 = .ok (.lstore_n 3, 1) := by decide +kernel
theorem dX8_digestStatements_2 : decode cX8_digestStatements 2 = .ok (.iconst 0, 1) := by decide +kernel
theorem dX8_digestStatements_3 : decode cX8_digestStatements 3 = .ok (.istore 5, 2) := by decide +kernel
theorem dX8_digestStatements_5 : decode cX8_digestStatements 5 = .ok (.iload 5, 2) := by decide +kernel
theorem dX8_digestStatements_7 : decode cX8_digestStatements 7 = .ok (.aload_n 0, 1) := by decide +kernel
theorem dX8_digestStatements_8 : decode cX8_digestStatements 8 = .ok (.getfield 30, 3) := by decide +kernel
theorem dX8_digestStatements_11 : decode cX8_digestStatements 11 = .ok (.getfield 116, 3) := by decide +kernel
theorem dX8_digestStatements_14 : decode cX8_digestStatements 14 = .ok (.if_icmp .ge 88, 3) := by decide +kernel
theorem dX8_digestStatements_17 : decode cX8_digestStatements 17 = .ok (.lload_n 3, 1) := by decide +kernel
theorem dX8_digestStatements_18 : decode cX8_digestStatements 18 = .ok (.ldc2_w 223, 3) := by decide +kernel
theorem dX8_digestStatements_21 : decode cX8_digestStatements 21 = .ok (.lmul, 1) := by decide +kernel
theorem dX8_digestStatements_22 : decode cX8_digestStatements 22 = .ok (.aload_n 0, 1) := by decide +kernel
theorem dX8_digestStatements_23 : decode cX8_digestStatements 23 = .ok (.getfield 30, 3) := by decide +kernel
theorem dX8_digestStatements_26 : decode cX8_digestStatements 26 = .ok (.iload 5, 2) := by decide +kernel
theorem dX8_digestStatements_28 : decode cX8_digestStatements 28 = .ok (.invokevirtual 140, 3) := by decide +kernel
theorem dX8_digestStatements_31 : decode cX8_digestStatements 31 = .ok (.i2l, 1) := by decide +kernel
theorem dX8_digestStatements_32 : decode cX8_digestStatements 32 = .ok (.ladd, 1) := by decide +kernel
theorem dX8_digestStatements_33 : decode cX8_digestStatements 33 = .ok (.lstore_n 3, 1) := by decide +kernel
theorem dX8_digestStatements_34 : decode cX8_digestStatements 34 = .ok (.lload_n 3, 1) := by decide +kernel
theorem dX8_digestStatements_35 : decode cX8_digestStatements 35 = .ok (.ldc2_w 223, 3) := by decide +kernel
theorem dX8_digestStatements_38 : decode cX8_digestStatements 38 = .ok (.lmul, 1) := by decide +kernel
theorem dX8_digestStatements_39 : decode cX8_digestStatements 39 = .ok (.aload_n 0, 1) := by decide +kernel
theorem dX8_digestStatements_40 : decode cX8_digestStatements 40 = .ok (.getfield 30, 3) := by decide +kernel
theorem dX8_digestStatements_43 : decode cX8_digestStatements 43 = .ok (.iload 5, 2) := by decide +kernel
theorem dX8_digestStatements_45 : decode cX8_digestStatements 45 = .ok (.invokevirtual 143, 3) := by decide +kernel
theorem dX8_digestStatements_48 : decode cX8_digestStatements 48 = .ok (.i2l, 1) := by decide +kernel
theorem dX8_digestStatements_49 : decode cX8_digestStatements 49 = .ok (.ladd, 1) := by decide +kernel
theorem dX8_digestStatements_50 : decode cX8_digestStatements 50 = .ok (.lstore_n 3, 1) := by decide +kernel
