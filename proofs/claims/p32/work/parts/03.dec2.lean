theorem dX8_isAllowed_240 : decode cX8_isAllowed 240 = .ok (.aaload, 1) := by decide +kernel
theorem dX8_isAllowed_241 : decode cX8_isAllowed 241 = .ok (.getfield 145, 3) := by decide +kernel
theorem dX8_isAllowed_244 : decode cX8_isAllowed 244 = .ok (.iload_n 3, 1) := by decide +kernel
theorem dX8_isAllowed_245 : decode cX8_isAllowed 245 = .ok (.if_icmp .ne 7, 3) := by decide +kernel
theorem dX8_isAllowed_248 : decode cX8_isAllowed 248 = .ok (.iconst 1, 1) := by decide +kernel
theorem dX8_isAllowed_249 : decode cX8_isAllowed 249 = .ok (.goto 4, 3) := by decide +kernel
theorem dX8_isAllowed_252 : decode cX8_isAllowed 252 = .ok (.iconst 0, 1) := by decide +kernel
theorem dX8_isAllowed_253 : decode cX8_isAllowed 253 = .ok (.ireturn, 1) := by decide +kernel
theorem dX8_isAllowed_254 : decode cX8_isAllowed 254 = .ok (.iload_n 2, 1) := by decide +kernel
theorem dX8_isAllowed_255 : decode cX8_isAllowed 255 = .ok (.ifCond .ne 27, 3) := by decide +kernel
theorem dX8_isAllowed_258 : decode cX8_isAllowed 258 = .ok (.iload_n 3, 1) := by decide +kernel
theorem dX8_isAllowed_259 : decode cX8_isAllowed 259 = .ok (.bipush 9, 2) := by decide +kernel
theorem dX8_isAllowed_261 : decode cX8_isAllowed 261 = .ok (.if_icmp .gt 21, 3) := by decide +kernel
theorem dX8_isAllowed_264 : decode cX8_isAllowed 264 = .ok (.aload_n 0, 1) := by decide +kernel
theorem dX8_isAllowed_265 : decode cX8_isAllowed 265 = .ok (.getfield 23, 3) := by decide +kernel
theorem dX8_isAllowed_268 : decode cX8_isAllowed 268 = .ok (.getfield 104, 3) := by decide +kernel
theorem dX8_isAllowed_271 : decode cX8_isAllowed 271 = .ok (.getfield 119, 3) := by decide +kernel
theorem dX8_isAllowed_274 : decode cX8_isAllowed 274 = .ok (.iload_n 3, 1) := by decide +kernel
theorem dX8_isAllowed_275 : decode cX8_isAllowed 275 = .ok (.if_icmp .ne 7, 3) := by decide +kernel
theorem dX8_isAllowed_278 : decode cX8_isAllowed 278 = .ok (.iconst 1, 1) := by decide +kernel
theorem dX8_isAllowed_279 : decode cX8_isAllowed 279 = .ok (.goto 4, 3) := by decide +kernel
theorem dX8_isAllowed_282 : decode cX8_isAllowed 282 = .ok (.iconst 0, 1) := by decide +kernel
theorem dX8_isAllowed_283 : decode cX8_isAllowed 283 = .ok (.ireturn, 1) := by decide +kernel
theorem dX8_isAllowed_284 : decode cX8_isAllowed 284 = .ok (.iconst 0, 1) := by decide +kernel
theorem dX8_isAllowed_285 : decode cX8_isAllowed 285 = .ok (.ireturn, 1) := by decide +kernel
theorem dX8_carryOut_0 : decode cX8_carryOut 0 = .ok (.iload_n 1, 1) := by decide +kernel
theorem dX8_carryOut_1 : decode cX8_carryOut 1 = .ok (.tableswitch 133 1 6 #[39, 51, 66, 79, 101, 117], 39) := by decide +kernel
theorem dX8_carryOut_40 : decode cX8_carryOut 40 = .ok (.aload_n 0, 1) := by decide +kernel
theorem dX8_carryOut_41 : decode cX8_carryOut 41 = .ok (.getfield 23, 3) := by decide +kernel
theorem dX8_carryOut_44 : decode cX8_carryOut 44 = .ok (.iload_n 3, 1) := by decide +kernel
theorem dX8_carryOut_45 : decode cX8_carryOut 45 = .ok (.iload_n 2, 1) := by decide +kernel
theorem dX8_carryOut_46 : decode cX8_carryOut 46 = .ok (.invokevirtual 218, 3) := by decide +kernel
theorem dX8_carryOut_49 : decode cX8_carryOut 49 = .ok (.goto 85, 3) := by decide +kernel
theorem dX8_carryOut_52 : decode cX8_carryOut 52 = .ok (.aload_n 0, 1) := by decide +kernel
theorem dX8_carryOut_53 : decode cX8_carryOut 53 = .ok (.getfield 23, 3) := by decide +kernel
theorem dX8_carryOut_56 : decode cX8_carryOut 56 = .ok (.getfield 86, 3) := by decide +kernel
theorem dX8_carryOut_59 : decode cX8_carryOut 59 = .ok (.iload_n 3, 1) := by decide +kernel
theorem dX8_carryOut_60 : decode cX8_carryOut 60 = .ok (.invokevirtual 221, 3) := by decide +kernel
theorem dX8_carryOut_63 : decode cX8_carryOut 63 = .ok (.pop, 1) := by decide +kernel
theorem dX8_carryOut_64 : decode cX8_carryOut 64 = .ok (.goto 70, 3) := by decide +kernel
theorem dX8_carryOut_67 : decode cX8_carryOut 67 = .ok (.aload_n 0, 1) := by decide +kernel
theorem dX8_carryOut_68 : decode cX8_carryOut 68 = .ok (.getfield 23, 3) := by decide +kernel
theorem dX8_carryOut_71 : decode cX8_carryOut 71 = .ok (.getfield 82, 3) := by decide +kernel
theorem dX8_carryOut_74 : decode cX8_carryOut 74 = .ok (.iload_n 2, 1) := by decide +kernel
theorem dX8_carryOut_75 : decode cX8_carryOut 75 = .ok (.iload_n 3, 1) := by decide +kernel
theorem dX8_carryOut_76 : decode cX8_carryOut 76 = .ok (.iastore, 1) := by decide +kernel
theorem dX8_carryOut_77 : decode cX8_carryOut 77 = .ok (.goto 57, 3) := by decide +kernel
theorem dX8_carryOut_80 : decode cX8_carryOut 80 = .ok (.aload_n 0, 1) := by decide +kernel
theorem dX8_carryOut_81 : decode cX8_carryOut 81 = .ok (.getfield 23, 3) := by decide +kernel
theorem dX8_carryOut_84 : decode cX8_carryOut 84 = .ok (.iload_n 2, 1) := by decide +kernel
theorem dX8_carryOut_85 : decode cX8_carryOut 85 = .ok (.iload_n 3, 1) := by decide +kernel
theorem dX8_carryOut_86 : decode cX8_carryOut 86 = .ok (.iconst 1, 1) := by decide +kernel
theorem dX8_carryOut_87 : decode cX8_carryOut 87 = .ok (.if_icmp .ne 7, 3) := by decide +kernel
theorem dX8_carryOut_90 : decode cX8_carryOut 90 = .ok (.iconst 1, 1) := by decide +kernel
theorem dX8_carryOut_91 : decode cX8_carryOut 91 = .ok (.goto 4, 3) := by decide +kernel
theorem dX8_carryOut_94 : decode cX8_carryOut 94 = .ok (.iconst 0, 1) := by decide +kernel
theorem dX8_carryOut_95 : decode cX8_carryOut 95 = .ok (.invokevirtual 233, 3) := by decide +kernel
theorem dX8_carryOut_98 : decode cX8_carryOut 98 = .ok (.pop, 1) := by decide +kernel
theorem dX8_carryOut_99 : decode cX8_carryOut 99 = .ok (.goto 35, 3) := by decide +kernel
theorem dX8_carryOut_102 : decode cX8_carryOut 102 = .ok (.aload_n 0, 1) := by decide +kernel
theorem dX8_carryOut_103 : decode cX8_carryOut 103 = .ok (.getfield 23, 3) := by decide +kernel
theorem dX8_carryOut_106 : decode cX8_carryOut 106 = .ok (.getfield 133, 3) := by decide +kernel
theorem dX8_carryOut_109 : decode cX8_carryOut 109 = .ok (.iload_n 2, 1) := by decide +kernel
theorem dX8_carryOut_110 : decode cX8_carryOut 110 = .ok (.aaload, 1) := by decide +kernel
theorem dX8_carryOut_111 : decode cX8_carryOut 111 = .ok (.iconst 4, 1) := by decide +kernel
theorem dX8_carryOut_112 : decode cX8_carryOut 112 = .ok (.invokevirtual 239, 3) := by decide +kernel
theorem dX8_carryOut_115 : decode cX8_carryOut 115 = .ok (.goto 19, 3) := by decide +kernel
theorem dX8_carryOut_118 : decode cX8_carryOut 118 = .ok (.aload_n 0, 1) := by decide +kernel
theorem dX8_carryOut_119 : decode cX8_carryOut 119 = .ok (.getfield 23, 3) := by decide +kernel
theorem dX8_carryOut_122 : decode cX8_carryOut 122 = .ok (.getfield 133, 3) := by decide +kernel
theorem dX8_carryOut_125 : decode cX8_carryOut 125 = .ok (.iload_n 2, 1) := by decide +kernel
theorem dX8_carryOut_126 : decode cX8_carryOut 126 = .ok (.aaload, 1) := by decide +kernel
theorem dX8_carryOut_127 : decode cX8_carryOut 127 = .ok (.iconst 0, 1) := by decide +kernel
theorem dX8_carryOut_128 : decode cX8_carryOut 128 = .ok (.invokevirtual 239, 3) := by decide +kernel
theorem dX8_carryOut_131 : decode cX8_carryOut 131 = .ok (.goto 3, 3) := by decide +kernel
theorem dX8_carryOut_134 : decode cX8_carryOut 134 = .ok (.return_, 1) := by decide +kernel
theorem dJ6_bitCount_0f7a4_0 : decode cJ6_bitCount_0f7a4 0 = .ok (.iload_n 0, 1) := by decide +kernel
theorem dJ6_bitCount_0f7a4_1 : decode cJ6_bitCount_0f7a4 1 = .ok (.iload_n 0, 1) := by decide +kernel
theorem dJ6_bitCount_0f7a4_2 : decode cJ6_bitCount_0f7a4 2 = .ok (.iconst 1, 1) := by decide +kernel
theorem dJ6_bitCount_0f7a4_3 : decode cJ6_bitCount_0f7a4 3 = .ok (.iushr, 1) := by decide +kernel
theorem dJ6_bitCount_0f7a4_4 : decode cJ6_bitCount_0f7a4 4 = .ok (.ldc_w 265, 3) := by decide +kernel
theorem dJ6_bitCount_0f7a4_7 : decode cJ6_bitCount_0f7a4 7 = .ok (.iand, 1) := by decide +kernel
theorem dJ6_bitCount_0f7a4_8 : decode cJ6_bitCount_0f7a4 8 = .ok (.isub, 1) := by decide +kernel
theorem dJ6_bitCount_0f7a4_9 : decode cJ6_bitCount_0f7a4 9 = .ok (.istore_n 0, 1) := by decide +kernel
theorem dJ6_bitCount_0f7a4_10 : decode cJ6_bitCount_0f7a4 10 = .ok (.iload_n 0, 1) := by decide +kernel
theorem dJ6_bitCount_0f7a4_11 : decode cJ6_bitCount_0f7a4 11 = .ok (.ldc_w 266, 3) := by decide +kernel
theorem dJ6_bitCount_0f7a4_14 : decode cJ6_bitCount_0f7a4 14 = .ok (.iand, 1) := by decide +kernel
theorem dJ6_bitCount_0f7a4_15 : decode cJ6_bitCount_0f7a4 15 = .ok (.iload_n 0, 1) := by decide +kernel
theorem dJ6_bitCount_0f7a4_16 : decode cJ6_bitCount_0f7a4 16 = .ok (.iconst 2, 1) := by decide +kernel
theorem dJ6_bitCount_0f7a4_17 : decode cJ6_bitCount_0f7a4 17 = .ok (.iushr, 1) := by decide +kernel
theorem dJ6_bitCount_0f7a4_18 : decode cJ6_bitCount_0f7a4 18 = .ok (.ldc_w 266, 3) := by decide +kernel
theorem dJ6_bitCount_0f7a4_21 : decode cJ6_bitCount_0f7a4 21 = .ok (.iand, 1) := by decide +kernel
theorem dJ6_bitCount_0f7a4_22 : decode cJ6_bitCount_0f7a4 22 = .ok (.iadd, 1) := by decide +kernel
theorem dJ6_bitCount_0f7a4_23 : decode cJ6_bitCount_0f7a4 23 = .ok (.istore_n 0, 1) := by decide +kernel
theorem dJ6_bitCount_0f7a4_24 : decode cJ6_bitCount_0f7a4 24 = .ok (.iload_n 0, 1) := by decide +kernel
theorem dJ6_bitCount_0f7a4_25 : decode cJ6_bitCount_0f7a4 25 = .ok (.iload_n 0, 1) := by decide +kernel
theorem dJ6_bitCount_0f7a4_26 : decode cJ6_bitCount_0f7a4 26 = .ok (.iconst 4, 1) := by decide +kernel
theorem dJ6_bitCount_0f7a4_27 : decode cJ6_bitCount_0f7a4 27 = .ok (.iushr, 1) := by decide +kernel
theorem dJ6_bitCount_0f7a4_28 : decode cJ6_bitCount_0f7a4 28 = .ok (.iadd, 1) := by decide +kernel
theorem dJ6_bitCount_0f7a4_29 : decode cJ6_bitCount_0f7a4 29 = .ok (.ldc_w 267, 3) := by decide +kernel
theorem dJ6_bitCount_0f7a4_32 : decode cJ6_bitCount_0f7a4 32 = .ok (.iand, 1) := by decide +kernel
theorem dJ6_bitCount_0f7a4_33 : decode cJ6_bitCount_0f7a4 33 = .ok (.istore_n 0, 1) := by decide +kernel
theorem dJ6_bitCount_0f7a4_34 : decode cJ6_bitCount_0f7a4 34 = .ok (.iload_n 0, 1) := by decide +kernel
theorem dJ6_bitCount_0f7a4_35 : decode cJ6_bitCount_0f7a4 35 = .ok (.iload_n 0, 1) := by decide +kernel
theorem dJ6_bitCount_0f7a4_36 : decode cJ6_bitCount_0f7a4 36 = .ok (.bipush 8, 2) := by decide +kernel
theorem dJ6_bitCount_0f7a4_38 : decode cJ6_bitCount_0f7a4 38 = .ok (.iushr, 1) := by decide +kernel
theorem dJ6_bitCount_0f7a4_39 : decode cJ6_bitCount_0f7a4 39 = .ok (.iadd, 1) := by decide +kernel
theorem dJ6_bitCount_0f7a4_40 : decode cJ6_bitCount_0f7a4 40 = .ok (.istore_n 0, 1) := by decide +kernel
theorem dJ6_bitCount_0f7a4_41 : decode cJ6_bitCount_0f7a4 41 = .ok (.iload_n 0, 1) := by decide +kernel
theorem dJ6_bitCount_0f7a4_42 : decode cJ6_bitCount_0f7a4 42 = .ok (.iload_n 0, 1) := by decide +kernel
theorem dJ6_bitCount_0f7a4_43 : decode cJ6_bitCount_0f7a4 43 = .ok (.bipush 16, 2) := by decide +kernel
theorem dJ6_bitCount_0f7a4_45 : decode cJ6_bitCount_0f7a4 45 = .ok (.iushr, 1) := by decide +kernel
theorem dJ6_bitCount_0f7a4_46 : decode cJ6_bitCount_0f7a4 46 = .ok (.iadd, 1) := by decide +kernel
theorem dJ6_bitCount_0f7a4_47 : decode cJ6_bitCount_0f7a4 47 = .ok (.istore_n 0, 1) := by decide +kernel
theorem dJ6_bitCount_0f7a4_48 : decode cJ6_bitCount_0f7a4 48 = .ok (.iload_n 0, 1) := by decide +kernel
theorem dJ6_bitCount_0f7a4_49 : decode cJ6_bitCount_0f7a4 49 = .ok (.bipush 63, 2) := by decide +kernel
theorem dJ6_bitCount_0f7a4_51 : decode cJ6_bitCount_0f7a4 51 = .ok (.iand, 1) := by decide +kernel
theorem dJ6_bitCount_0f7a4_52 : decode cJ6_bitCount_0f7a4 52 = .ok (.ireturn, 1) := by decide +kernel
theorem dJ9_min_7cf53_0 : decode cJ9_min_7cf53 0 = .ok (.iload_n 0, 1) := by decide +kernel
theorem dJ9_min_7cf53_1 : decode cJ9_min_7cf53 1 = .ok (.iload_n 1, 1) := by decide +kernel
theorem dJ9_min_7cf53_2 : decode cJ9_min_7cf53 2 = .ok (.if_icmp .gt 7, 3) := by decide +kernel
theorem dJ9_min_7cf53_5 : decode cJ9_min_7cf53 5 = .ok (.iload_n 0, 1) := by decide +kernel
theorem dJ9_min_7cf53_6 : decode cJ9_min_7cf53 6 = .ok (.goto 4, 3) := by decide +kernel
theorem dJ9_min_7cf53_9 : decode cJ9_min_7cf53 9 = .ok (.iload_n 1, 1) := by decide +kernel
theorem dJ9_min_7cf53_10 : decode cJ9_min_7cf53 10 = .ok (.ireturn, 1) := by decide +kernel
theorem dL_tryAppend_0 : decode cL_tryAppend 0 = .ok (.aload_n 0, 1) := by decide +kernel
theorem dL_tryAppend_1 : decode cL_tryAppend 1 = .ok (.iload_n 1, 1) := by decide +kernel
theorem dL_tryAppend_2 : decode cL_tryAppend 2 = .ok (.invokevirtual 7, 3) := by decide +kernel
theorem dL_tryAppend_5 : decode cL_tryAppend 5 = .ok (.ireturn, 1) := by decide +kernel
theorem dL_tryAppend_6 : decode cL_tryAppend 6 = .ok (.astore_n 2, 1) := by decide +kernel
theorem dL_tryAppend_7 : decode cL_tryAppend 7 = .ok (.sipush (-1002), 3) := by decide +kernel
theorem dL_tryAppend_10 : decode cL_tryAppend 10 = .ok (.ireturn, 1) := by decide +kernel
theorem dL_tryAppend_11 : decode cL_tryAppend 11 = .ok (.astore_n 2, 1) := by decide +kernel
theorem dL_tryAppend_12 : decode cL_tryAppend 12 = .ok (.sipush (-1003), 3) := by decide +kernel
theorem dL_tryAppend_15 : decode cL_tryAppend 15 = .ok (.ireturn, 1) := by decide +kernel
theorem dL_tryLoad_0 : decode cL_tryLoad 0 = .ok (.aload_n 0, 1) := by decide +kernel
theorem dL_tryLoad_1 : decode cL_tryLoad 1 = .ok (.invokevirtual 17, 3) := by decide +kernel
theorem dL_tryLoad_4 : decode cL_tryLoad 4 = .ok (.ireturn, 1) := by decide +kernel
theorem dL_tryLoad_5 : decode cL_tryLoad 5 = .ok (.astore_n 1, 1) := by decide +kernel
theorem dL_tryLoad_6 : decode cL_tryLoad 6 = .ok (.sipush (-1003), 3) := by decide +kernel
theorem dL_tryLoad_9 : decode cL_tryLoad 9 = .ok (.ireturn, 1) := by decide +kernel
theorem dL_tryAbout_0 : decode cL_tryAbout 0 = .ok (.aload_n 0, 1) := by decide +kernel
theorem dL_tryAbout_1 : decode cL_tryAbout 1 = .ok (.iload_n 1, 1) := by decide +kernel
theorem dL_tryAbout_2 : decode cL_tryAbout 2 = .ok (.invokevirtual 21, 3) := by decide +kernel
theorem dL_tryAbout_5 : decode cL_tryAbout 5 = .ok (.ireturn, 1) := by decide +kernel
theorem dL_tryAbout_6 : decode cL_tryAbout 6 = .ok (.astore_n 2, 1) := by decide +kernel
theorem dL_tryAbout_7 : decode cL_tryAbout 7 = .ok (.sipush (-1002), 3) := by decide +kernel
theorem dL_tryAbout_10 : decode cL_tryAbout 10 = .ok (.ireturn, 1) := by decide +kernel
theorem dL_tryBoiler_0 : decode cL_tryBoiler 0 = .ok (.aload_n 0, 1) := by decide +kernel
theorem dL_tryBoiler_1 : decode cL_tryBoiler 1 = .ok (.iload_n 1, 1) := by decide +kernel
theorem dL_tryBoiler_2 : decode cL_tryBoiler 2 = .ok (.iload_n 2, 1) := by decide +kernel
theorem dL_tryBoiler_3 : decode cL_tryBoiler 3 = .ok (.invokevirtual 24, 3) := by decide +kernel
theorem dL_tryBoiler_6 : decode cL_tryBoiler 6 = .ok (.ireturn, 1) := by decide +kernel
theorem dL_tryBoiler_7 : decode cL_tryBoiler 7 = .ok (.astore_n 3, 1) := by decide +kernel
theorem dL_tryBoiler_8 : decode cL_tryBoiler 8 = .ok (.sipush (-1001), 3) := by decide +kernel
theorem dL_tryBoiler_11 : decode cL_tryBoiler 11 = .ok (.ireturn, 1) := by decide +kernel
theorem dL_tryBoiler_12 : decode cL_tryBoiler 12 = .ok (.astore_n 3, 1) := by decide +kernel
theorem dL_tryBoiler_13 : decode cL_tryBoiler 13 = .ok (.sipush (-1002), 3) := by decide +kernel
theorem dL_tryBoiler_16 : decode cL_tryBoiler 16 = .ok (.ireturn, 1) := by decide +kernel
theorem dL_tryFlue_0 : decode cL_tryFlue 0 = .ok (.aload_n 0, 1) := by decide +kernel
theorem dL_tryFlue_1 : decode cL_tryFlue 1 = .ok (.iload_n 1, 1) := by decide +kernel
theorem dL_tryFlue_2 : decode cL_tryFlue 2 = .ok (.iload_n 2, 1) := by decide +kernel
theorem dL_tryFlue_3 : decode cL_tryFlue 3 = .ok (.invokevirtual 30, 3) := by decide +kernel
theorem dL_tryFlue_6 : decode cL_tryFlue 6 = .ok (.ireturn, 1) := by decide +kernel
theorem dL_tryFlue_7 : decode cL_tryFlue 7 = .ok (.astore_n 3, 1) := by decide +kernel
theorem dL_tryFlue_8 : decode cL_tryFlue 8 = .ok (.sipush (-1001), 3) := by decide +kernel
theorem dL_tryFlue_11 : decode cL_tryFlue 11 = .ok (.ireturn, 1) := by decide +kernel
theorem dL_tryFlue_12 : decode cL_tryFlue 12 = .ok (.astore_n 3, 1) := by decide +kernel
theorem dL_tryFlue_13 : decode cL_tryFlue 13 = .ok (.sipush (-1002), 3) := by decide +kernel
theorem dL_tryFlue_16 : decode cL_tryFlue 16 = .ok (.ireturn, 1) := by decide +kernel
theorem dL_tryLayer_0 : decode cL_tryLayer 0 = .ok (.aload_n 0, 1) := by decide +kernel
theorem dL_tryLayer_1 : decode cL_tryLayer 1 = .ok (.iload_n 1, 1) := by decide +kernel
theorem dL_tryLayer_2 : decode cL_tryLayer 2 = .ok (.invokevirtual 33, 3) := by decide +kernel
theorem dL_tryLayer_5 : decode cL_tryLayer 5 = .ok (.ireturn, 1) := by decide +kernel
theorem dL_tryLayer_6 : decode cL_tryLayer 6 = .ok (.astore_n 2, 1) := by decide +kernel
theorem dL_tryLayer_7 : decode cL_tryLayer 7 = .ok (.sipush (-1001), 3) := by decide +kernel
theorem dL_tryLayer_10 : decode cL_tryLayer 10 = .ok (.ireturn, 1) := by decide +kernel
theorem dL_tryAccount_0 : decode cL_tryAccount 0 = .ok (.aload_n 0, 1) := by decide +kernel
theorem dL_tryAccount_1 : decode cL_tryAccount 1 = .ok (.iload_n 1, 1) := by decide +kernel
theorem dL_tryAccount_2 : decode cL_tryAccount 2 = .ok (.invokevirtual 36, 3) := by decide +kernel
theorem dL_tryAccount_5 : decode cL_tryAccount 5 = .ok (.ireturn, 1) := by decide +kernel
theorem dL_tryAccount_6 : decode cL_tryAccount 6 = .ok (.astore_n 2, 1) := by decide +kernel
theorem dL_tryAccount_7 : decode cL_tryAccount 7 = .ok (.sipush (-1002), 3) := by decide +kernel
theorem dL_tryAccount_10 : decode cL_tryAccount 10 = .ok (.ireturn, 1) := by decide +kernel
theorem dL_tryTick_0 : decode cL_tryTick 0 = .ok (.aload_n 0, 1) := by decide +kernel
theorem dL_tryTick_1 : decode cL_tryTick 1 = .ok (.iload_n 1, 1) := by decide +kernel
theorem dL_tryTick_2 : decode cL_tryTick 2 = .ok (.iload_n 2, 1) := by decide +kernel
theorem dL_tryTick_3 : decode cL_tryTick 3 = .ok (.invokevirtual 39, 3) := by decide +kernel
theorem dL_tryTick_6 : decode cL_tryTick 6 = .ok (.ireturn, 1) := by decide +kernel
theorem dL_tryTick_7 : decode cL_tryTick 7 = .ok (.astore_n 3, 1) := by decide +kernel
theorem dL_tryTick_8 : decode cL_tryTick 8 = .ok (.sipush (-1002), 3) := by decide +kernel
theorem dL_tryTick_11 : decode cL_tryTick 11 = .ok (.ireturn, 1) := by decide +kernel
theorem dL_tryDraw_0 : decode cL_tryDraw 0 = .ok (.aload_n 0, 1) := by decide +kernel
theorem dL_tryDraw_1 : decode cL_tryDraw 1 = .ok (.iload_n 1, 1) := by decide +kernel
theorem dL_tryDraw_2 : decode cL_tryDraw 2 = .ok (.invokevirtual 42, 3) := by decide +kernel
theorem dL_tryDraw_5 : decode cL_tryDraw 5 = .ok (.ireturn, 1) := by decide +kernel
theorem dL_tryDraw_6 : decode cL_tryDraw 6 = .ok (.astore_n 2, 1) := by decide +kernel
theorem dL_tryDraw_7 : decode cL_tryDraw 7 = .ok (.sipush (-1002), 3) := by decide +kernel
theorem dL_tryDraw_10 : decode cL_tryDraw 10 = .ok (.ireturn, 1) := by decide +kernel
theorem dL_trySet_0 : decode cL_trySet 0 = .ok (.aload_n 0, 1) := by decide +kernel
theorem dL_trySet_1 : decode cL_trySet 1 = .ok (.iload_n 1, 1) := by decide +kernel
theorem dL_trySet_2 : decode cL_trySet 2 = .ok (.iload_n 2, 1) := by decide +kernel
theorem dL_trySet_3 : decode cL_trySet 3 = .ok (.invokevirtual 45, 3) := by decide +kernel
theorem dL_trySet_6 : decode cL_trySet 6 = .ok (.ireturn, 1) := by decide +kernel
theorem dL_trySet_7 : decode cL_trySet 7 = .ok (.astore_n 3, 1) := by decide +kernel
theorem dL_trySet_8 : decode cL_trySet 8 = .ok (.sipush (-1002), 3) := by decide +kernel
theorem dL_trySet_11 : decode cL_trySet 11 = .ok (.ireturn, 1) := by decide +kernel
theorem dL_trySetFlue_0 : decode cL_trySetFlue 0 = .ok (.aload_n 0, 1) := by decide +kernel
theorem dL_trySetFlue_1 : decode cL_trySetFlue 1 = .ok (.iload_n 1, 1) := by decide +kernel
theorem dL_trySetFlue_2 : decode cL_trySetFlue 2 = .ok (.iload_n 2, 1) := by decide +kernel
theorem dL_trySetFlue_3 : decode cL_trySetFlue 3 = .ok (.invokevirtual 48, 3) := by decide +kernel
theorem dL_trySetFlue_6 : decode cL_trySetFlue 6 = .ok (.ireturn, 1) := by decide +kernel
theorem dL_trySetFlue_7 : decode cL_trySetFlue 7 = .ok (.astore_n 3, 1) := by decide +kernel
theorem dL_trySetFlue_8 : decode cL_trySetFlue 8 = .ok (.sipush (-1001), 3) := by decide +kernel
theorem dL_trySetFlue_11 : decode cL_trySetFlue 11 = .ok (.ireturn, 1) := by decide +kernel
theorem dL_trySetDraft_0 : decode cL_trySetDraft 0 = .ok (.aload_n 0, 1) := by decide +kernel
theorem dL_trySetDraft_1 : decode cL_trySetDraft 1 = .ok (.iload_n 1, 1) := by decide +kernel
theorem dL_trySetDraft_2 : decode cL_trySetDraft 2 = .ok (.iload_n 2, 1) := by decide +kernel
theorem dL_trySetDraft_3 : decode cL_trySetDraft 3 = .ok (.invokevirtual 52, 3) := by decide +kernel
theorem dL_trySetDraft_6 : decode cL_trySetDraft 6 = .ok (.ireturn, 1) := by decide +kernel
theorem dL_trySetDraft_7 : decode cL_trySetDraft 7 = .ok (.astore_n 3, 1) := by decide +kernel
theorem dL_trySetDraft_8 : decode cL_trySetDraft 8 = .ok (.sipush (-1001), 3) := by decide +kernel
theorem dL_trySetDraft_11 : decode cL_trySetDraft 11 = .ok (.ireturn, 1) := by decide +kernel
theorem dL_trySetDraft_12 : decode cL_trySetDraft 12 = .ok (.astore_n 3, 1) := by decide +kernel
theorem dL_trySetDraft_13 : decode cL_trySetDraft 13 = .ok (.sipush (-1002), 3) := by decide +kernel
theorem dL_trySetDraft_16 : decode cL_trySetDraft 16 = .ok (.ireturn, 1) := by decide +kernel
theorem dL_tryLock_0 : decode cL_tryLock 0 = .ok (.aload_n 0, 1) := by decide +kernel
theorem dL_tryLock_1 : decode cL_tryLock 1 = .ok (.iload_n 1, 1) := by decide +kernel
theorem dL_tryLock_2 : decode cL_tryLock 2 = .ok (.invokevirtual 55, 3) := by decide +kernel
theorem dL_tryLock_5 : decode cL_tryLock 5 = .ok (.ireturn, 1) := by decide +kernel
theorem dL_tryLock_6 : decode cL_tryLock 6 = .ok (.astore_n 2, 1) := by decide +kernel
theorem dL_tryLock_7 : decode cL_tryLock 7 = .ok (.sipush (-1001), 3) := by decide +kernel
theorem dL_tryLock_10 : decode cL_tryLock 10 = .ok (.ireturn, 1) := by decide +kernel
theorem dL_tryLock_11 : decode cL_tryLock 11 = .ok (.astore_n 2, 1) := by decide +kernel
theorem dL_tryLock_12 : decode cL_tryLock 12 = .ok (.sipush (-1003), 3) := by decide +kernel
theorem dL_tryLock_15 : decode cL_tryLock 15 = .ok (.ireturn, 1) := by decide +kernel
theorem dL_tryUnlock_0 : decode cL_tryUnlock 0 = .ok (.aload_n 0, 1) := by decide +kernel
theorem dL_tryUnlock_1 : decode cL_tryUnlock 1 = .ok (.iload_n 1, 1) := by decide +kernel
theorem dL_tryUnlock_2 : decode cL_tryUnlock 2 = .ok (.invokevirtual 58, 3) := by decide +kernel
theorem dL_tryUnlock_5 : decode cL_tryUnlock 5 = .ok (.ireturn, 1) := by decide +kernel
theorem dL_tryUnlock_6 : decode cL_tryUnlock 6 = .ok (.astore_n 2, 1) := by decide +kernel
theorem dL_tryUnlock_7 : decode cL_tryUnlock 7 = .ok (.sipush (-1001), 3) := by decide +kernel
theorem dL_tryUnlock_10 : decode cL_tryUnlock 10 = .ok (.ireturn, 1) := by decide +kernel
theorem dL_tryUnlock_11 : decode cL_tryUnlock 11 = .ok (.astore_n 2, 1) := by decide +kernel
theorem dL_tryUnlock_12 : decode cL_tryUnlock 12 = .ok (.sipush (-1003), 3) := by decide +kernel
theorem dL_tryUnlock_15 : decode cL_tryUnlock 15 = .ok (.ireturn, 1) := by decide +kernel
theorem dL_tryPutOff_0 : decode cL_tryPutOff 0 = .ok (.aload_n 0, 1) := by decide +kernel
theorem dL_tryPutOff_1 : decode cL_tryPutOff 1 = .ok (.iload_n 1, 1) := by decide +kernel
theorem dL_tryPutOff_2 : decode cL_tryPutOff 2 = .ok (.invokevirtual 61, 3) := by decide +kernel
theorem dL_tryPutOff_5 : decode cL_tryPutOff 5 = .ok (.ireturn, 1) := by decide +kernel
theorem dL_tryPutOff_6 : decode cL_tryPutOff 6 = .ok (.astore_n 2, 1) := by decide +kernel
theorem dL_tryPutOff_7 : decode cL_tryPutOff 7 = .ok (.sipush (-1001), 3) := by decide +kernel
theorem dL_tryPutOff_10 : decode cL_tryPutOff 10 = .ok (.ireturn, 1) := by decide +kernel
theorem dL_tryPutOff_11 : decode cL_tryPutOff 11 = .ok (.astore_n 2, 1) := by decide +kernel
theorem dL_tryPutOff_12 : decode cL_tryPutOff 12 = .ok (.sipush (-1003), 3) := by decide +kernel
theorem dL_tryPutOff_15 : decode cL_tryPutOff 15 = .ok (.ireturn, 1) := by decide +kernel
theorem dL_tryUndo_0 : decode cL_tryUndo 0 = .ok (.aload_n 0, 1) := by decide +kernel
theorem dL_tryUndo_1 : decode cL_tryUndo 1 = .ok (.invokevirtual 64, 3) := by decide +kernel
theorem dL_tryUndo_4 : decode cL_tryUndo 4 = .ok (.ireturn, 1) := by decide +kernel
theorem dL_tryUndo_5 : decode cL_tryUndo 5 = .ok (.astore_n 1, 1) := by decide +kernel
theorem dL_tryUndo_6 : decode cL_tryUndo 6 = .ok (.sipush (-1003), 3) := by decide +kernel
theorem dL_tryUndo_9 : decode cL_tryUndo 9 = .ok (.ireturn, 1) := by decide +kernel
theorem dL_tryWhyNot_0 : decode cL_tryWhyNot 0 = .ok (.aload_n 0, 1) := by decide +kernel
theorem dL_tryWhyNot_1 : decode cL_tryWhyNot 1 = .ok (.iload_n 1, 1) := by decide +kernel
theorem dL_tryWhyNot_2 : decode cL_tryWhyNot 2 = .ok (.invokevirtual 67, 3) := by decide +kernel
theorem dL_tryWhyNot_5 : decode cL_tryWhyNot 5 = .ok (.ireturn, 1) := by decide +kernel
theorem dL_tryWhyNot_6 : decode cL_tryWhyNot 6 = .ok (.astore_n 2, 1) := by decide +kernel
theorem dL_tryWhyNot_7 : decode cL_tryWhyNot 7 = .ok (.sipush (-1001), 3) := by decide +kernel
theorem dL_tryWhyNot_10 : decode cL_tryWhyNot 10 = .ok (.ireturn, 1) := by decide +kernel
theorem dL_trySmallestSet_0 : decode cL_trySmallestSet 0 = .ok (.aload_n 0, 1) := by decide +kernel
theorem dL_trySmallestSet_1 : decode cL_trySmallestSet 1 = .ok (.iload_n 1, 1) := by decide +kernel
theorem dL_trySmallestSet_2 : decode cL_trySmallestSet 2 = .ok (.iload_n 2, 1) := by decide +kernel
theorem dL_trySmallestSet_3 : decode cL_trySmallestSet 3 = .ok (.invokevirtual 70, 3) := by decide +kernel
theorem dL_trySmallestSet_6 : decode cL_trySmallestSet 6 = .ok (.ireturn, 1) := by decide +kernel
theorem dL_trySmallestSet_7 : decode cL_trySmallestSet 7 = .ok (.astore_n 3, 1) := by decide +kernel
theorem dL_trySmallestSet_8 : decode cL_trySmallestSet 8 = .ok (.sipush (-1002), 3) := by decide +kernel
theorem dL_trySmallestSet_11 : decode cL_trySmallestSet 11 = .ok (.ireturn, 1) := by decide +kernel
theorem dL_tryAhead_0 : decode cL_tryAhead 0 = .ok (.aload_n 0, 1) := by decide +kernel
theorem dL_tryAhead_1 : decode cL_tryAhead 1 = .ok (.iload_n 1, 1) := by decide +kernel
theorem dL_tryAhead_2 : decode cL_tryAhead 2 = .ok (.iload_n 2, 1) := by decide +kernel
theorem dL_tryAhead_3 : decode cL_tryAhead 3 = .ok (.iload_n 3, 1) := by decide +kernel
theorem dL_tryAhead_4 : decode cL_tryAhead 4 = .ok (.invokevirtual 73, 3) := by decide +kernel
theorem dL_tryAhead_7 : decode cL_tryAhead 7 = .ok (.ireturn, 1) := by decide +kernel
theorem dL_tryAhead_8 : decode cL_tryAhead 8 = .ok (.astore 4, 2) := by decide +kernel
theorem dL_tryAhead_10 : decode cL_tryAhead 10 = .ok (.sipush (-1002), 3) := by decide +kernel
theorem dL_tryAhead_13 : decode cL_tryAhead 13 = .ok (.ireturn, 1) := by decide +kernel
theorem dL_tryWarmAfter_0 : decode cL_tryWarmAfter 0 = .ok (.aload_n 0, 1) := by decide +kernel
theorem dL_tryWarmAfter_1 : decode cL_tryWarmAfter 1 = .ok (.iload_n 1, 1) := by decide +kernel
theorem dL_tryWarmAfter_2 : decode cL_tryWarmAfter 2 = .ok (.iload_n 2, 1) := by decide +kernel
theorem dL_tryWarmAfter_3 : decode cL_tryWarmAfter 3 = .ok (.invokevirtual 77, 3) := by decide +kernel
theorem dL_tryWarmAfter_6 : decode cL_tryWarmAfter 6 = .ok (.ireturn, 1) := by decide +kernel
theorem dL_tryWarmAfter_7 : decode cL_tryWarmAfter 7 = .ok (.astore_n 3, 1) := by decide +kernel
theorem dL_tryWarmAfter_8 : decode cL_tryWarmAfter 8 = .ok (.sipush (-1002), 3) := by decide +kernel
theorem dL_tryWarmAfter_11 : decode cL_tryWarmAfter 11 = .ok (.ireturn, 1) := by decide +kernel
theorem dL_tryBearable_0 : decode cL_tryBearable 0 = .ok (.aload_n 0, 1) := by decide +kernel
theorem dL_tryBearable_1 : decode cL_tryBearable 1 = .ok (.iload_n 1, 1) := by decide +kernel
theorem dL_tryBearable_2 : decode cL_tryBearable 2 = .ok (.iload_n 2, 1) := by decide +kernel
theorem dL_tryBearable_3 : decode cL_tryBearable 3 = .ok (.invokevirtual 80, 3) := by decide +kernel
theorem dL_tryBearable_6 : decode cL_tryBearable 6 = .ok (.ireturn, 1) := by decide +kernel
theorem dL_tryBearable_7 : decode cL_tryBearable 7 = .ok (.astore_n 3, 1) := by decide +kernel
theorem dL_tryBearable_8 : decode cL_tryBearable 8 = .ok (.sipush (-1002), 3) := by decide +kernel
theorem dL_tryBearable_11 : decode cL_tryBearable 11 = .ok (.ireturn, 1) := by decide +kernel
theorem dL_tryCheapestPurge_0 : decode cL_tryCheapestPurge 0 = .ok (.aload_n 0, 1) := by decide +kernel
theorem dL_tryCheapestPurge_1 : decode cL_tryCheapestPurge 1 = .ok (.iload_n 1, 1) := by decide +kernel
theorem dL_tryCheapestPurge_2 : decode cL_tryCheapestPurge 2 = .ok (.iload_n 2, 1) := by decide +kernel
theorem dL_tryCheapestPurge_3 : decode cL_tryCheapestPurge 3 = .ok (.invokevirtual 83, 3) := by decide +kernel
theorem dL_tryCheapestPurge_6 : decode cL_tryCheapestPurge 6 = .ok (.ireturn, 1) := by decide +kernel
theorem dL_tryCheapestPurge_7 : decode cL_tryCheapestPurge 7 = .ok (.astore_n 3, 1) := by decide +kernel
theorem dL_tryCheapestPurge_8 : decode cL_tryCheapestPurge 8 = .ok (.sipush (-1002), 3) := by decide +kernel
theorem dL_tryCheapestPurge_11 : decode cL_tryCheapestPurge 11 = .ok (.ireturn, 1) := by decide +kernel
theorem dL_tryScript_0 : decode cL_tryScript 0 = .ok (.aload_n 0, 1) := by decide +kernel
theorem dL_tryScript_1 : decode cL_tryScript 1 = .ok (.iload_n 1, 1) := by decide +kernel
theorem dL_tryScript_2 : decode cL_tryScript 2 = .ok (.lload_n 2, 1) := by decide +kernel
theorem dL_tryScript_3 : decode cL_tryScript 3 = .ok (.invokevirtual 86, 3) := by decide +kernel
theorem dL_tryScript_6 : decode cL_tryScript 6 = .ok (.ireturn, 1) := by decide +kernel
theorem dL_tryScript_7 : decode cL_tryScript 7 = .ok (.astore 4, 2) := by decide +kernel
theorem dL_tryScript_9 : decode cL_tryScript 9 = .ok (.sipush (-1002), 3) := by decide +kernel
theorem dL_tryScript_12 : decode cL_tryScript 12 = .ok (.ireturn, 1) := by decide +kernel
theorem dL_trySimulate_0 : decode cL_trySimulate 0 = .ok (.aload_n 0, 1) := by decide +kernel
theorem dL_trySimulate_1 : decode cL_trySimulate 1 = .ok (.lload_n 1, 1) := by decide +kernel
theorem dL_trySimulate_2 : decode cL_trySimulate 2 = .ok (.iload_n 3, 1) := by decide +kernel
theorem dL_trySimulate_3 : decode cL_trySimulate 3 = .ok (.invokevirtual 90, 3) := by decide +kernel
theorem dL_trySimulate_6 : decode cL_trySimulate 6 = .ok (.ireturn, 1) := by decide +kernel
theorem dL_trySimulate_7 : decode cL_trySimulate 7 = .ok (.astore 4, 2) := by decide +kernel
theorem dL_trySimulate_9 : decode cL_trySimulate 9 = .ok (.sipush (-1002), 3) := by decide +kernel
theorem dL_trySimulate_12 : decode cL_trySimulate 12 = .ok (.ireturn, 1) := by decide +kernel
theorem dL_trySave_0 : decode cL_trySave 0 = .ok (.aload_n 0, 1) := by decide +kernel
theorem dL_trySave_1 : decode cL_trySave 1 = .ok (.iload_n 1, 1) := by decide +kernel
theorem dL_trySave_2 : decode cL_trySave 2 = .ok (.invokevirtual 94, 3) := by decide +kernel
theorem dL_trySave_5 : decode cL_trySave 5 = .ok (.ireturn, 1) := by decide +kernel
theorem dL_trySave_6 : decode cL_trySave 6 = .ok (.astore_n 2, 1) := by decide +kernel
theorem dL_trySave_7 : decode cL_trySave 7 = .ok (.sipush (-1001), 3) := by decide +kernel
theorem dL_trySave_10 : decode cL_trySave 10 = .ok (.ireturn, 1) := by decide +kernel
theorem dL_tryRestore_0 : decode cL_tryRestore 0 = .ok (.aload_n 0, 1) := by decide +kernel
theorem dL_tryRestore_1 : decode cL_tryRestore 1 = .ok (.iload_n 1, 1) := by decide +kernel
theorem dL_tryRestore_2 : decode cL_tryRestore 2 = .ok (.invokevirtual 97, 3) := by decide +kernel
theorem dL_tryRestore_5 : decode cL_tryRestore 5 = .ok (.ireturn, 1) := by decide +kernel
theorem dL_tryRestore_6 : decode cL_tryRestore 6 = .ok (.astore_n 2, 1) := by decide +kernel
theorem dL_tryRestore_7 : decode cL_tryRestore 7 = .ok (.sipush (-1001), 3) := by decide +kernel
theorem dL_tryRestore_10 : decode cL_tryRestore 10 = .ok (.ireturn, 1) := by decide +kernel
theorem dL_tryRestore_11 : decode cL_tryRestore 11 = .ok (.astore_n 2, 1) := by decide +kernel
theorem dL_tryRestore_12 : decode cL_tryRestore 12 = .ok (.sipush (-1003), 3) := by decide +kernel
theorem dL_tryRestore_15 : decode cL_tryRestore 15 = .ok (.ireturn, 1) := by decide +kernel
theorem dL_number_0 : decode cL_number 0 = .ok (.iload_n 1, 1) := by decide +kernel
theorem dL_number_1 : decode cL_number 1 = .ok (.aload_n 0, 1) := by decide +kernel
theorem dL_number_2 : decode cL_number 2 = .ok (.arraylength, 1) := by decide +kernel
theorem dL_number_3 : decode cL_number 3 = .ok (.if_icmp .ge 9, 3) := by decide +kernel
theorem dL_number_6 : decode cL_number 6 = .ok (.aload_n 0, 1) := by decide +kernel
theorem dL_number_7 : decode cL_number 7 = .ok (.iload_n 1, 1) := by decide +kernel
theorem dL_number_8 : decode cL_number 8 = .ok (.iaload, 1) := by decide +kernel
theorem dL_number_9 : decode cL_number 9 = .ok (.goto 13, 3) := by decide +kernel
theorem dL_number_12 : decode cL_number 12 = .ok (.ldc 100, 2) := by decide +kernel
theorem dL_number_14 : decode cL_number 14 = .ok (.iload_n 1, 1) := by decide +kernel
theorem dL_number_15 : decode cL_number 15 = .ok (.iconst 5, 1) := by decide +kernel
theorem dL_number_16 : decode cL_number 16 = .ok (.iadd, 1) := by decide +kernel
theorem dL_number_17 : decode cL_number 17 = .ok (.imul, 1) := by decide +kernel
theorem dL_number_18 : decode cL_number 18 = .ok (.sipush 10007, 3) := by decide +kernel
theorem dL_number_21 : decode cL_number 21 = .ok (.iadd, 1) := by decide +kernel
theorem dL_number_22 : decode cL_number 22 = .ok (.ldc 101, 2) := by decide +kernel
theorem dL_number_24 : decode cL_number 24 = .ok (.iand, 1) := by decide +kernel
theorem dL_number_25 : decode cL_number 25 = .ok (.ireturn, 1) := by decide +kernel
theorem dL_put_0 : decode cL_put 0 = .ok (.aload_n 0, 1) := by decide +kernel
theorem dL_put_1 : decode cL_put 1 = .ok (.iload_n 2, 1) := by decide +kernel
theorem dL_put_2 : decode cL_put 2 = .ok (.invokestatic 102, 3) := by decide +kernel
theorem dL_put_5 : decode cL_put 5 = .ok (.ifCond .le 15, 3) := by decide +kernel
theorem dL_put_8 : decode cL_put 8 = .ok (.aload_n 1, 1) := by decide +kernel
theorem dL_put_9 : decode cL_put 9 = .ok (.iload_n 2, 1) := by decide +kernel
theorem dL_put_10 : decode cL_put 10 = .ok (.invokestatic 102, 3) := by decide +kernel
theorem dL_put_13 : decode cL_put 13 = .ok (.ifCond .le 7, 3) := by decide +kernel
theorem dL_put_16 : decode cL_put 16 = .ok (.iconst 1, 1) := by decide +kernel
theorem dL_put_17 : decode cL_put 17 = .ok (.goto 4, 3) := by decide +kernel
theorem dL_put_20 : decode cL_put 20 = .ok (.iconst 0, 1) := by decide +kernel
theorem dL_put_21 : decode cL_put 21 = .ok (.ireturn, 1) := by decide +kernel
theorem dL_two_0 : decode cL_two 0 = .ok (.aload_n 0, 1) := by decide +kernel
theorem dL_two_1 : decode cL_two 1 = .ok (.aload_n 1, 1) := by decide +kernel
theorem dL_two_2 : decode cL_two 2 = .ok (.bipush 48, 2) := by decide +kernel
theorem dL_two_4 : decode cL_two 4 = .ok (.iload_n 2, 1) := by decide +kernel
theorem dL_two_5 : decode cL_two 5 = .ok (.bipush 10, 2) := by decide +kernel
theorem dL_two_7 : decode cL_two 7 = .ok (.idiv, 1) := by decide +kernel
theorem dL_two_8 : decode cL_two 8 = .ok (.iadd, 1) := by decide +kernel
theorem dL_two_9 : decode cL_two 9 = .ok (.invokestatic 108, 3) := by decide +kernel
theorem dL_two_12 : decode cL_two 12 = .ok (.ifCond .eq 22, 3) := by decide +kernel
theorem dL_two_15 : decode cL_two 15 = .ok (.aload_n 0, 1) := by decide +kernel
theorem dL_two_16 : decode cL_two 16 = .ok (.aload_n 1, 1) := by decide +kernel
theorem dL_two_17 : decode cL_two 17 = .ok (.bipush 48, 2) := by decide +kernel
theorem dL_two_19 : decode cL_two 19 = .ok (.iload_n 2, 1) := by decide +kernel
theorem dL_two_20 : decode cL_two 20 = .ok (.bipush 10, 2) := by decide +kernel
theorem dL_two_22 : decode cL_two 22 = .ok (.irem, 1) := by decide +kernel
theorem dL_two_23 : decode cL_two 23 = .ok (.iadd, 1) := by decide +kernel
theorem dL_two_24 : decode cL_two 24 = .ok (.invokestatic 108, 3) := by decide +kernel
theorem dL_two_27 : decode cL_two 27 = .ok (.ifCond .eq 7, 3) := by decide +kernel
theorem dL_two_30 : decode cL_two 30 = .ok (.iconst 1, 1) := by decide +kernel
theorem dL_two_31 : decode cL_two 31 = .ok (.goto 4, 3) := by decide +kernel
theorem dL_two_34 : decode cL_two 34 = .ok (.iconst 0, 1) := by decide +kernel
theorem dL_two_35 : decode cL_two 35 = .ok (.ireturn, 1) := by decide +kernel
theorem dL_told_0 : decode cL_told 0 = .ok (.aload_n 2, 1) := by decide +kernel
theorem dL_told_1 : decode cL_told 1 = .ok (.iload_n 3, 1) := by decide +kernel
theorem dL_told_2 : decode cL_told 2 = .ok (.invokestatic 112, 3) := by decide +kernel
theorem dL_told_5 : decode cL_told 5 = .ok (.istore 4, 2) := by decide +kernel
theorem dL_told_7 : decode cL_told 7 = .ok (.aload_n 2, 1) := by decide +kernel
theorem dL_told_8 : decode cL_told 8 = .ok (.iload_n 3, 1) := by decide +kernel
theorem dL_told_9 : decode cL_told 9 = .ok (.iconst 1, 1) := by decide +kernel
theorem dL_told_10 : decode cL_told 10 = .ok (.iadd, 1) := by decide +kernel
theorem dL_told_11 : decode cL_told 11 = .ok (.invokestatic 112, 3) := by decide +kernel
theorem dL_told_14 : decode cL_told 14 = .ok (.istore 5, 2) := by decide +kernel
theorem dL_told_16 : decode cL_told 16 = .ok (.iconst 2, 1) := by decide +kernel
theorem dL_told_17 : decode cL_told 17 = .ok (.iload 4, 2) := by decide +kernel
theorem dL_told_19 : decode cL_told 19 = .ok (.bipush 7, 2) := by decide +kernel
theorem dL_told_21 : decode cL_told 21 = .ok (.irem, 1) := by decide +kernel
theorem dL_told_22 : decode cL_told 22 = .ok (.iadd, 1) := by decide +kernel
theorem dL_told_23 : decode cL_told 23 = .ok (.istore 6, 2) := by decide +kernel
theorem dL_told_25 : decode cL_told 25 = .ok (.iconst 1, 1) := by decide +kernel
theorem dL_told_26 : decode cL_told 26 = .ok (.iload 4, 2) := by decide +kernel
theorem dL_told_28 : decode cL_told 28 = .ok (.bipush 8, 2) := by decide +kernel
theorem dL_told_30 : decode cL_told 30 = .ok (.idiv, 1) := by decide +kernel
theorem dL_told_31 : decode cL_told 31 = .ok (.iconst 5, 1) := by decide +kernel
theorem dL_told_32 : decode cL_told 32 = .ok (.irem, 1) := by decide +kernel
theorem dL_told_33 : decode cL_told 33 = .ok (.iadd, 1) := by decide +kernel
theorem dL_told_34 : decode cL_told 34 = .ok (.istore 7, 2) := by decide +kernel
theorem dL_told_36 : decode cL_told 36 = .ok (.aload_n 0, 1) := by decide +kernel
theorem dL_told_37 : decode cL_told 37 = .ok (.invokevirtual 116, 3) := by decide +kernel
theorem dL_told_40 : decode cL_told 40 = .ok (.aload_n 1, 1) := by decide +kernel
theorem dL_told_41 : decode cL_told 41 = .ok (.invokevirtual 116, 3) := by decide +kernel
theorem dL_told_44 : decode cL_told 44 = .ok (.if_icmp .ne 84, 3) := by decide +kernel
theorem dL_told_47 : decode cL_told 47 = .ok (.aload_n 0, 1) := by decide +kernel
theorem dL_told_48 : decode cL_told 48 = .ok (.aload_n 1, 1) := by decide +kernel
theorem dL_told_49 : decode cL_told 49 = .ok (.bipush 72, 2) := by decide +kernel
theorem dL_told_51 : decode cL_told 51 = .ok (.invokestatic 108, 3) := by decide +kernel
theorem dL_told_54 : decode cL_told 54 = .ok (.ifCond .eq 74, 3) := by decide +kernel
theorem dL_told_57 : decode cL_told 57 = .ok (.aload_n 0, 1) := by decide +kernel
theorem dL_told_58 : decode cL_told 58 = .ok (.invokevirtual 119, 3) := by decide +kernel
theorem dL_told_61 : decode cL_told 61 = .ok (.iconst 1, 1) := by decide +kernel
theorem dL_told_62 : decode cL_told 62 = .ok (.if_icmp .ne 66, 3) := by decide +kernel
theorem dL_told_65 : decode cL_told 65 = .ok (.aload_n 0, 1) := by decide +kernel
theorem dL_told_66 : decode cL_told 66 = .ok (.aload_n 1, 1) := by decide +kernel
theorem dL_told_67 : decode cL_told 67 = .ok (.bipush 48, 2) := by decide +kernel
theorem dL_told_69 : decode cL_told 69 = .ok (.iload 6, 2) := by decide +kernel
theorem dL_told_71 : decode cL_told 71 = .ok (.iadd, 1) := by decide +kernel
theorem dL_told_72 : decode cL_told 72 = .ok (.invokestatic 108, 3) := by decide +kernel
theorem dL_told_75 : decode cL_told 75 = .ok (.ifCond .eq 53, 3) := by decide +kernel
theorem dL_told_78 : decode cL_told 78 = .ok (.aload_n 0, 1) := by decide +kernel
theorem dL_told_79 : decode cL_told 79 = .ok (.aload_n 1, 1) := by decide +kernel
theorem dL_told_80 : decode cL_told 80 = .ok (.iload 4, 2) := by decide +kernel
theorem dL_told_82 : decode cL_told 82 = .ok (.bipush 64, 2) := by decide +kernel
theorem dL_told_84 : decode cL_told 84 = .ok (.idiv, 1) := by decide +kernel
theorem dL_told_85 : decode cL_told 85 = .ok (.bipush 100, 2) := by decide +kernel
theorem dL_told_87 : decode cL_told 87 = .ok (.irem, 1) := by decide +kernel
theorem dL_told_88 : decode cL_told 88 = .ok (.invokestatic 122, 3) := by decide +kernel
theorem dL_told_91 : decode cL_told 91 = .ok (.ifCond .eq 37, 3) := by decide +kernel
theorem dL_told_94 : decode cL_told 94 = .ok (.aload_n 0, 1) := by decide +kernel
theorem dL_told_95 : decode cL_told 95 = .ok (.invokevirtual 119, 3) := by decide +kernel
theorem dL_told_98 : decode cL_told 98 = .ok (.iconst 4, 1) := by decide +kernel
theorem dL_told_99 : decode cL_told 99 = .ok (.if_icmp .ne 29, 3) := by decide +kernel
theorem dL_told_102 : decode cL_told 102 = .ok (.aload_n 0, 1) := by decide +kernel
theorem dL_told_103 : decode cL_told 103 = .ok (.aload_n 1, 1) := by decide +kernel
theorem dL_told_104 : decode cL_told 104 = .ok (.iload 5, 2) := by decide +kernel
theorem dL_told_106 : decode cL_told 106 = .ok (.bipush 100, 2) := by decide +kernel
theorem dL_told_108 : decode cL_told 108 = .ok (.irem, 1) := by decide +kernel
theorem dL_told_109 : decode cL_told 109 = .ok (.invokestatic 122, 3) := by decide +kernel
theorem dL_told_112 : decode cL_told 112 = .ok (.ifCond .eq 16, 3) := by decide +kernel
theorem dL_told_115 : decode cL_told 115 = .ok (.aload_n 0, 1) := by decide +kernel
theorem dL_told_116 : decode cL_told 116 = .ok (.invokevirtual 119, 3) := by decide +kernel
theorem dL_told_119 : decode cL_told 119 = .ok (.bipush 6, 2) := by decide +kernel
theorem dL_told_121 : decode cL_told 121 = .ok (.if_icmp .ne 7, 3) := by decide +kernel
theorem dL_told_124 : decode cL_told 124 = .ok (.iconst 1, 1) := by decide +kernel
theorem dL_told_125 : decode cL_told 125 = .ok (.goto 4, 3) := by decide +kernel
theorem dL_told_128 : decode cL_told 128 = .ok (.iconst 0, 1) := by decide +kernel
theorem dL_told_129 : decode cL_told 129 = .ok (.istore 8, 2) := by decide +kernel
theorem dL_told_131 : decode cL_told 131 = .ok (.iconst 0, 1) := by decide +kernel
theorem dL_told_132 : decode cL_told 132 = .ok (.istore 9, 2) := by decide +kernel
theorem dL_told_134 : decode cL_told 134 = .ok (.iload 9, 2) := by decide +kernel
theorem dL_told_136 : decode cL_told 136 = .ok (.iload 7, 2) := by decide +kernel
theorem dL_told_138 : decode cL_told 138 = .ok (.if_icmp .ge 113, 3) := by decide +kernel
theorem dL_told_141 : decode cL_told 141 = .ok (.iload 8, 2) := by decide +kernel
theorem dL_told_143 : decode cL_told 143 = .ok (.ifCond .eq 108, 3) := by decide +kernel
theorem dL_told_146 : decode cL_told 146 = .ok (.aload_n 2, 1) := by decide +kernel
theorem dL_told_147 : decode cL_told 147 = .ok (.iload_n 3, 1) := by decide +kernel
theorem dL_told_148 : decode cL_told 148 = .ok (.iconst 2, 1) := by decide +kernel
theorem dL_told_149 : decode cL_told 149 = .ok (.iadd, 1) := by decide +kernel
theorem dL_told_150 : decode cL_told 150 = .ok (.iload 9, 2) := by decide +kernel
theorem dL_told_152 : decode cL_told 152 = .ok (.iadd, 1) := by decide +kernel
theorem dL_told_153 : decode cL_told 153 = .ok (.invokestatic 112, 3) := by decide +kernel
theorem dL_told_156 : decode cL_told 156 = .ok (.istore 10, 2) := by decide +kernel
theorem dL_told_158 : decode cL_told 158 = .ok (.aload_n 0, 1) := by decide +kernel
theorem dL_told_159 : decode cL_told 159 = .ok (.aload_n 1, 1) := by decide +kernel
theorem dL_told_160 : decode cL_told 160 = .ok (.bipush 98, 2) := by decide +kernel
theorem dL_told_162 : decode cL_told 162 = .ok (.invokestatic 108, 3) := by decide +kernel
theorem dL_told_165 : decode cL_told 165 = .ok (.ifCond .eq 77, 3) := by decide +kernel
theorem dL_told_168 : decode cL_told 168 = .ok (.aload_n 0, 1) := by decide +kernel
theorem dL_told_169 : decode cL_told 169 = .ok (.invokevirtual 119, 3) := by decide +kernel
theorem dL_told_172 : decode cL_told 172 = .ok (.bipush 7, 2) := by decide +kernel
theorem dL_told_174 : decode cL_told 174 = .ok (.iconst 4, 1) := by decide +kernel
theorem dL_told_175 : decode cL_told 175 = .ok (.iload 9, 2) := by decide +kernel
theorem dL_told_177 : decode cL_told 177 = .ok (.imul, 1) := by decide +kernel
theorem dL_told_178 : decode cL_told 178 = .ok (.iadd, 1) := by decide +kernel
theorem dL_told_179 : decode cL_told 179 = .ok (.if_icmp .ne 63, 3) := by decide +kernel
theorem dL_told_182 : decode cL_told 182 = .ok (.aload_n 0, 1) := by decide +kernel
theorem dL_told_183 : decode cL_told 183 = .ok (.aload_n 1, 1) := by decide +kernel
theorem dL_told_184 : decode cL_told 184 = .ok (.iconst 1, 1) := by decide +kernel
theorem dL_told_185 : decode cL_told 185 = .ok (.iload 10, 2) := by decide +kernel
theorem dL_told_187 : decode cL_told 187 = .ok (.bipush 30, 2) := by decide +kernel
theorem dL_told_189 : decode cL_told 189 = .ok (.irem, 1) := by decide +kernel
theorem dL_told_190 : decode cL_told 190 = .ok (.iadd, 1) := by decide +kernel
theorem dL_told_191 : decode cL_told 191 = .ok (.invokestatic 122, 3) := by decide +kernel
theorem dL_told_194 : decode cL_told 194 = .ok (.ifCond .eq 48, 3) := by decide +kernel
theorem dL_told_197 : decode cL_told 197 = .ok (.aload_n 0, 1) := by decide +kernel
theorem dL_told_198 : decode cL_told 198 = .ok (.invokevirtual 119, 3) := by decide +kernel
theorem dL_told_201 : decode cL_told 201 = .ok (.bipush 9, 2) := by decide +kernel
theorem dL_told_203 : decode cL_told 203 = .ok (.iconst 4, 1) := by decide +kernel
theorem dL_told_204 : decode cL_told 204 = .ok (.iload 9, 2) := by decide +kernel
theorem dL_told_206 : decode cL_told 206 = .ok (.imul, 1) := by decide +kernel
theorem dL_told_207 : decode cL_told 207 = .ok (.iadd, 1) := by decide +kernel
theorem dL_told_208 : decode cL_told 208 = .ok (.if_icmp .ne 34, 3) := by decide +kernel
theorem dL_told_211 : decode cL_told 211 = .ok (.aload_n 0, 1) := by decide +kernel
theorem dL_told_212 : decode cL_told 212 = .ok (.aload_n 1, 1) := by decide +kernel
theorem dL_told_213 : decode cL_told 213 = .ok (.bipush 48, 2) := by decide +kernel
theorem dL_told_215 : decode cL_told 215 = .ok (.iload 10, 2) := by decide +kernel
theorem dL_told_217 : decode cL_told 217 = .ok (.bipush 32, 2) := by decide +kernel
theorem dL_told_219 : decode cL_told 219 = .ok (.idiv, 1) := by decide +kernel
theorem dL_told_220 : decode cL_told 220 = .ok (.iconst 2, 1) := by decide +kernel
theorem dL_told_221 : decode cL_told 221 = .ok (.irem, 1) := by decide +kernel
theorem dL_told_222 : decode cL_told 222 = .ok (.iadd, 1) := by decide +kernel
theorem dL_told_223 : decode cL_told 223 = .ok (.invokestatic 108, 3) := by decide +kernel
theorem dL_told_226 : decode cL_told 226 = .ok (.ifCond .eq 16, 3) := by decide +kernel
theorem dL_told_229 : decode cL_told 229 = .ok (.aload_n 0, 1) := by decide +kernel
theorem dL_told_230 : decode cL_told 230 = .ok (.invokevirtual 119, 3) := by decide +kernel
theorem dL_told_233 : decode cL_told 233 = .ok (.bipush (-9), 2) := by decide +kernel
theorem dL_told_235 : decode cL_told 235 = .ok (.if_icmp .ne 7, 3) := by decide +kernel
theorem dL_told_238 : decode cL_told 238 = .ok (.iconst 1, 1) := by decide +kernel
theorem dL_told_239 : decode cL_told 239 = .ok (.goto 4, 3) := by decide +kernel
theorem dL_told_242 : decode cL_told 242 = .ok (.iconst 0, 1) := by decide +kernel
theorem dL_told_243 : decode cL_told 243 = .ok (.istore 8, 2) := by decide +kernel
theorem dL_told_245 : decode cL_told 245 = .ok (.iinc 9 1, 3) := by decide +kernel
theorem dL_told_248 : decode cL_told 248 = .ok (.goto (-114), 3) := by decide +kernel
theorem dL_told_251 : decode cL_told 251 = .ok (.bipush 6, 2) := by decide +kernel
theorem dL_told_253 : decode cL_told 253 = .ok (.iconst 4, 1) := by decide +kernel
theorem dL_told_254 : decode cL_told 254 = .ok (.iload 7, 2) := by decide +kernel
theorem dL_told_256 : decode cL_told 256 = .ok (.imul, 1) := by decide +kernel
theorem dL_told_257 : decode cL_told 257 = .ok (.iadd, 1) := by decide +kernel
theorem dL_told_258 : decode cL_told 258 = .ok (.istore 9, 2) := by decide +kernel
theorem dL_told_260 : decode cL_told 260 = .ok (.bipush 40, 2) := by decide +kernel
theorem dL_told_262 : decode cL_told 262 = .ok (.istore 10, 2) := by decide +kernel
theorem dL_told_264 : decode cL_told 264 = .ok (.iload 5, 2) := by decide +kernel
theorem dL_told_266 : decode cL_told 266 = .ok (.sipush 128, 3) := by decide +kernel
theorem dL_told_269 : decode cL_told 269 = .ok (.idiv, 1) := by decide +kernel
theorem dL_told_270 : decode cL_told 270 = .ok (.iconst 3, 1) := by decide +kernel
theorem dL_told_271 : decode cL_told 271 = .ok (.irem, 1) := by decide +kernel
theorem dL_told_272 : decode cL_told 272 = .ok (.ifCond .le 112, 3) := by decide +kernel
theorem dL_told_275 : decode cL_told 275 = .ok (.iload 8, 2) := by decide +kernel
theorem dL_told_277 : decode cL_told 277 = .ok (.ifCond .eq 107, 3) := by decide +kernel
theorem dL_told_280 : decode cL_told 280 = .ok (.iload 5, 2) := by decide +kernel
theorem dL_told_282 : decode cL_told 282 = .ok (.sipush 512, 3) := by decide +kernel
theorem dL_told_285 : decode cL_told 285 = .ok (.idiv, 1) := by decide +kernel
theorem dL_told_286 : decode cL_told 286 = .ok (.bipush 60, 2) := by decide +kernel
theorem dL_told_288 : decode cL_told 288 = .ok (.irem, 1) := by decide +kernel
theorem dL_told_289 : decode cL_told 289 = .ok (.istore 11, 2) := by decide +kernel
theorem dL_told_291 : decode cL_told 291 = .ok (.aload_n 0, 1) := by decide +kernel
theorem dL_told_292 : decode cL_told 292 = .ok (.aload_n 1, 1) := by decide +kernel
theorem dL_told_293 : decode cL_told 293 = .ok (.bipush 116, 2) := by decide +kernel
theorem dL_told_295 : decode cL_told 295 = .ok (.invokestatic 108, 3) := by decide +kernel
theorem dL_told_298 : decode cL_told 298 = .ok (.istore 8, 2) := by decide +kernel
theorem dL_told_300 : decode cL_told 300 = .ok (.iload 11, 2) := by decide +kernel
theorem dL_told_302 : decode cL_told 302 = .ok (.istore 10, 2) := by decide +kernel
theorem dL_told_304 : decode cL_told 304 = .ok (.iconst 0, 1) := by decide +kernel
theorem dL_told_305 : decode cL_told 305 = .ok (.istore 12, 2) := by decide +kernel
theorem dL_told_307 : decode cL_told 307 = .ok (.iload 12, 2) := by decide +kernel
theorem dL_told_309 : decode cL_told 309 = .ok (.iload 6, 2) := by decide +kernel
theorem dL_told_311 : decode cL_told 311 = .ok (.if_icmp .ge 62, 3) := by decide +kernel
theorem dL_told_314 : decode cL_told 314 = .ok (.iload 8, 2) := by decide +kernel
theorem dL_told_316 : decode cL_told 316 = .ok (.ifCond .eq 57, 3) := by decide +kernel
theorem dL_told_319 : decode cL_told 319 = .ok (.aload_n 0, 1) := by decide +kernel
theorem dL_told_320 : decode cL_told 320 = .ok (.invokevirtual 119, 3) := by decide +kernel
theorem dL_told_323 : decode cL_told 323 = .ok (.iload 9, 2) := by decide +kernel
theorem dL_told_325 : decode cL_told 325 = .ok (.iconst 1, 1) := by decide +kernel
theorem dL_told_326 : decode cL_told 326 = .ok (.iadd, 1) := by decide +kernel
theorem dL_told_327 : decode cL_told 327 = .ok (.iconst 2, 1) := by decide +kernel
theorem dL_told_328 : decode cL_told 328 = .ok (.iload 12, 2) := by decide +kernel
theorem dL_told_330 : decode cL_told 330 = .ok (.imul, 1) := by decide +kernel
theorem dL_told_331 : decode cL_told 331 = .ok (.iadd, 1) := by decide +kernel
theorem dL_told_332 : decode cL_told 332 = .ok (.if_icmp .ne 17, 3) := by decide +kernel
theorem dL_told_335 : decode cL_told 335 = .ok (.aload_n 0, 1) := by decide +kernel
theorem dL_told_336 : decode cL_told 336 = .ok (.aload_n 1, 1) := by decide +kernel
theorem dL_told_337 : decode cL_told 337 = .ok (.iload 11, 2) := by decide +kernel
theorem dL_told_339 : decode cL_told 339 = .ok (.invokestatic 122, 3) := by decide +kernel
theorem dL_told_342 : decode cL_told 342 = .ok (.ifCond .eq 7, 3) := by decide +kernel
theorem dL_told_345 : decode cL_told 345 = .ok (.iconst 1, 1) := by decide +kernel
theorem dL_told_346 : decode cL_told 346 = .ok (.goto 4, 3) := by decide +kernel
theorem dL_told_349 : decode cL_told 349 = .ok (.iconst 0, 1) := by decide +kernel
theorem dL_told_350 : decode cL_told 350 = .ok (.istore 8, 2) := by decide +kernel
theorem dL_told_352 : decode cL_told 352 = .ok (.iload 11, 2) := by decide +kernel
theorem dL_told_354 : decode cL_told 354 = .ok (.iload 5, 2) := by decide +kernel
theorem dL_told_356 : decode cL_told 356 = .ok (.iconst 1, 1) := by decide +kernel
theorem dL_told_357 : decode cL_told 357 = .ok (.iload 12, 2) := by decide +kernel
theorem dL_told_359 : decode cL_told 359 = .ok (.iadd, 1) := by decide +kernel
theorem dL_told_360 : decode cL_told 360 = .ok (.idiv, 1) := by decide +kernel
theorem dL_told_361 : decode cL_told 361 = .ok (.bipush 6, 2) := by decide +kernel
theorem dL_told_363 : decode cL_told 363 = .ok (.irem, 1) := by decide +kernel
theorem dL_told_364 : decode cL_told 364 = .ok (.iadd, 1) := by decide +kernel
theorem dL_told_365 : decode cL_told 365 = .ok (.istore 11, 2) := by decide +kernel
theorem dL_told_367 : decode cL_told 367 = .ok (.iinc 12 1, 3) := by decide +kernel
theorem dL_told_370 : decode cL_told 370 = .ok (.goto (-63), 3) := by decide +kernel
theorem dL_told_373 : decode cL_told 373 = .ok (.iload 9, 2) := by decide +kernel
theorem dL_told_375 : decode cL_told 375 = .ok (.iconst 1, 1) := by decide +kernel
theorem dL_told_376 : decode cL_told 376 = .ok (.iconst 2, 1) := by decide +kernel
theorem dL_told_377 : decode cL_told 377 = .ok (.iload 6, 2) := by decide +kernel
theorem dL_told_379 : decode cL_told 379 = .ok (.imul, 1) := by decide +kernel
theorem dL_told_380 : decode cL_told 380 = .ok (.iadd, 1) := by decide +kernel
theorem dL_told_381 : decode cL_told 381 = .ok (.iadd, 1) := by decide +kernel
theorem dL_told_382 : decode cL_told 382 = .ok (.istore 9, 2) := by decide +kernel
theorem dL_told_384 : decode cL_told 384 = .ok (.iload 8, 2) := by decide +kernel
theorem dL_told_386 : decode cL_told 386 = .ok (.ifCond .eq 133, 3) := by decide +kernel
theorem dL_told_389 : decode cL_told 389 = .ok (.aload_n 0, 1) := by decide +kernel
theorem dL_told_390 : decode cL_told 390 = .ok (.invokevirtual 119, 3) := by decide +kernel
theorem dL_told_393 : decode cL_told 393 = .ok (.bipush (-9), 2) := by decide +kernel
theorem dL_told_395 : decode cL_told 395 = .ok (.if_icmp .ne 124, 3) := by decide +kernel
theorem dL_told_398 : decode cL_told 398 = .ok (.aload_n 0, 1) := by decide +kernel
theorem dL_told_399 : decode cL_told 399 = .ok (.invokestatic 125, 3) := by decide +kernel
theorem dL_told_402 : decode cL_told 402 = .ok (.iload 7, 2) := by decide +kernel
theorem dL_told_404 : decode cL_told 404 = .ok (.if_icmp .ne 115, 3) := by decide +kernel
theorem dL_told_407 : decode cL_told 407 = .ok (.aload_n 1, 1) := by decide +kernel
theorem dL_told_408 : decode cL_told 408 = .ok (.invokestatic 125, 3) := by decide +kernel
theorem dL_told_411 : decode cL_told 411 = .ok (.iload 7, 2) := by decide +kernel
theorem dL_told_413 : decode cL_told 413 = .ok (.if_icmp .ne 106, 3) := by decide +kernel
theorem dL_told_416 : decode cL_told 416 = .ok (.aload_n 0, 1) := by decide +kernel
theorem dL_told_417 : decode cL_told 417 = .ok (.bipush 6, 2) := by decide +kernel
theorem dL_told_419 : decode cL_told 419 = .ok (.invokestatic 129, 3) := by decide +kernel
theorem dL_told_422 : decode cL_told 422 = .ok (.iload 7, 2) := by decide +kernel
theorem dL_told_424 : decode cL_told 424 = .ok (.if_icmp .ne 95, 3) := by decide +kernel
theorem dL_told_427 : decode cL_told 427 = .ok (.aload_n 0, 1) := by decide +kernel
theorem dL_told_428 : decode cL_told 428 = .ok (.bipush 7, 2) := by decide +kernel
theorem dL_told_430 : decode cL_told 430 = .ok (.invokestatic 129, 3) := by decide +kernel
theorem dL_told_433 : decode cL_told 433 = .ok (.iload 6, 2) := by decide +kernel
theorem dL_told_435 : decode cL_told 435 = .ok (.if_icmp .ne 84, 3) := by decide +kernel
theorem dL_told_438 : decode cL_told 438 = .ok (.aload_n 0, 1) := by decide +kernel
theorem dL_told_439 : decode cL_told 439 = .ok (.iconst 0, 1) := by decide +kernel
theorem dL_told_440 : decode cL_told 440 = .ok (.invokestatic 132, 3) := by decide +kernel
theorem dL_told_443 : decode cL_told 443 = .ok (.iload 10, 2) := by decide +kernel
theorem dL_told_445 : decode cL_told 445 = .ok (.if_icmp .ne 74, 3) := by decide +kernel
theorem dL_told_448 : decode cL_told 448 = .ok (.aload_n 0, 1) := by decide +kernel
theorem dL_told_449 : decode cL_told 449 = .ok (.iconst 0, 1) := by decide +kernel
theorem dL_told_450 : decode cL_told 450 = .ok (.iconst 0, 1) := by decide +kernel
theorem dL_told_451 : decode cL_told 451 = .ok (.invokestatic 135, 3) := by decide +kernel
theorem dL_told_454 : decode cL_told 454 = .ok (.iload 4, 2) := by decide +kernel
theorem dL_told_456 : decode cL_told 456 = .ok (.bipush 64, 2) := by decide +kernel
theorem dL_told_458 : decode cL_told 458 = .ok (.idiv, 1) := by decide +kernel
theorem dL_told_459 : decode cL_told 459 = .ok (.bipush 100, 2) := by decide +kernel
theorem dL_told_461 : decode cL_told 461 = .ok (.irem, 1) := by decide +kernel
theorem dL_told_462 : decode cL_told 462 = .ok (.if_icmp .ne 57, 3) := by decide +kernel
theorem dL_told_465 : decode cL_told 465 = .ok (.aload_n 0, 1) := by decide +kernel
theorem dL_told_466 : decode cL_told 466 = .ok (.invokestatic 139, 3) := by decide +kernel
theorem dL_told_469 : decode cL_told 469 = .ok (.sipush (-1003), 3) := by decide +kernel
theorem dL_told_472 : decode cL_told 472 = .ok (.if_icmp .ne 47, 3) := by decide +kernel
theorem dL_told_475 : decode cL_told 475 = .ok (.aload_n 1, 1) := by decide +kernel
theorem dL_told_476 : decode cL_told 476 = .ok (.iconst 1, 1) := by decide +kernel
theorem dL_told_477 : decode cL_told 477 = .ok (.invokestatic 142, 3) := by decide +kernel
theorem dL_told_480 : decode cL_told 480 = .ok (.sipush (-1003), 3) := by decide +kernel
theorem dL_told_483 : decode cL_told 483 = .ok (.if_icmp .ne 36, 3) := by decide +kernel
theorem dL_told_486 : decode cL_told 486 = .ok (.aload_n 0, 1) := by decide +kernel
theorem dL_told_487 : decode cL_told 487 = .ok (.aload_n 1, 1) := by decide +kernel
theorem dL_told_488 : decode cL_told 488 = .ok (.bipush 120, 2) := by decide +kernel
theorem dL_told_490 : decode cL_told 490 = .ok (.invokestatic 108, 3) := by decide +kernel
theorem dL_told_493 : decode cL_told 493 = .ok (.ifCond .eq 26, 3) := by decide +kernel
theorem dL_told_496 : decode cL_told 496 = .ok (.aload_n 0, 1) := by decide +kernel
theorem dL_told_497 : decode cL_told 497 = .ok (.invokevirtual 119, 3) := by decide +kernel
theorem dL_told_500 : decode cL_told 500 = .ok (.iload 9, 2) := by decide +kernel
theorem dL_told_502 : decode cL_told 502 = .ok (.if_icmp .ne 17, 3) := by decide +kernel
theorem dL_told_505 : decode cL_told 505 = .ok (.aload_n 0, 1) := by decide +kernel
theorem dL_told_506 : decode cL_told 506 = .ok (.invokestatic 125, 3) := by decide +kernel
theorem dL_told_509 : decode cL_told 509 = .ok (.sipush (-1003), 3) := by decide +kernel
theorem dL_told_512 : decode cL_told 512 = .ok (.if_icmp .ne 7, 3) := by decide +kernel
theorem dL_told_515 : decode cL_told 515 = .ok (.iconst 1, 1) := by decide +kernel
theorem dL_told_516 : decode cL_told 516 = .ok (.goto 4, 3) := by decide +kernel
theorem dL_told_519 : decode cL_told 519 = .ok (.iconst 0, 1) := by decide +kernel
theorem dL_told_520 : decode cL_told 520 = .ok (.ireturn, 1) := by decide +kernel
theorem dL_alike_0 : decode cL_alike 0 = .ok (.aload_n 0, 1) := by decide +kernel
theorem dL_alike_1 : decode cL_alike 1 = .ok (.invokevirtual 145, 3) := by decide +kernel
theorem dL_alike_4 : decode cL_alike 4 = .ok (.aload_n 1, 1) := by decide +kernel
theorem dL_alike_5 : decode cL_alike 5 = .ok (.invokevirtual 145, 3) := by decide +kernel
theorem dL_alike_8 : decode cL_alike 8 = .ok (.if_icmp .ne 7, 3) := by decide +kernel
theorem dL_alike_11 : decode cL_alike 11 = .ok (.iconst 1, 1) := by decide +kernel
theorem dL_alike_12 : decode cL_alike 12 = .ok (.goto 4, 3) := by decide +kernel
theorem dL_alike_15 : decode cL_alike 15 = .ok (.iconst 0, 1) := by decide +kernel
theorem dL_alike_16 : decode cL_alike 16 = .ok (.istore_n 2, 1) := by decide +kernel
theorem dL_alike_17 : decode cL_alike 17 = .ok (.iconst 0, 1) := by decide +kernel
theorem dL_alike_18 : decode cL_alike 18 = .ok (.istore_n 3, 1) := by decide +kernel
theorem dL_alike_19 : decode cL_alike 19 = .ok (.iload_n 3, 1) := by decide +kernel
theorem dL_alike_20 : decode cL_alike 20 = .ok (.bipush 17, 2) := by decide +kernel
theorem dL_alike_22 : decode cL_alike 22 = .ok (.if_icmp .ge 79, 3) := by decide +kernel
theorem dL_alike_25 : decode cL_alike 25 = .ok (.iload_n 2, 1) := by decide +kernel
theorem dL_alike_26 : decode cL_alike 26 = .ok (.ifCond .eq 67, 3) := by decide +kernel
theorem dL_alike_29 : decode cL_alike 29 = .ok (.aload_n 0, 1) := by decide +kernel
theorem dL_alike_30 : decode cL_alike 30 = .ok (.iload_n 3, 1) := by decide +kernel
theorem dL_alike_31 : decode cL_alike 31 = .ok (.invokestatic 129, 3) := by decide +kernel
theorem dL_alike_34 : decode cL_alike 34 = .ok (.aload_n 1, 1) := by decide +kernel
theorem dL_alike_35 : decode cL_alike 35 = .ok (.iload_n 3, 1) := by decide +kernel
theorem dL_alike_36 : decode cL_alike 36 = .ok (.invokestatic 129, 3) := by decide +kernel
theorem dL_alike_39 : decode cL_alike 39 = .ok (.if_icmp .ne 54, 3) := by decide +kernel
theorem dL_alike_42 : decode cL_alike 42 = .ok (.iload_n 3, 1) := by decide +kernel
theorem dL_alike_43 : decode cL_alike 43 = .ok (.iconst 5, 1) := by decide +kernel
theorem dL_alike_44 : decode cL_alike 44 = .ok (.if_icmp .gt 16, 3) := by decide +kernel
theorem dL_alike_47 : decode cL_alike 47 = .ok (.aload_n 0, 1) := by decide +kernel
theorem dL_alike_48 : decode cL_alike 48 = .ok (.iload_n 3, 1) := by decide +kernel
theorem dL_alike_49 : decode cL_alike 49 = .ok (.invokestatic 148, 3) := by decide +kernel
theorem dL_alike_52 : decode cL_alike 52 = .ok (.aload_n 1, 1) := by decide +kernel
theorem dL_alike_53 : decode cL_alike 53 = .ok (.iload_n 3, 1) := by decide +kernel
theorem dL_alike_54 : decode cL_alike 54 = .ok (.invokestatic 148, 3) := by decide +kernel
theorem dL_alike_57 : decode cL_alike 57 = .ok (.if_icmp .ne 36, 3) := by decide +kernel
theorem dL_alike_60 : decode cL_alike 60 = .ok (.iload_n 3, 1) := by decide +kernel
theorem dL_alike_61 : decode cL_alike 61 = .ok (.bipush 7, 2) := by decide +kernel
theorem dL_alike_63 : decode cL_alike 63 = .ok (.if_icmp .gt 26, 3) := by decide +kernel
theorem dL_alike_66 : decode cL_alike 66 = .ok (.aload_n 0, 1) := by decide +kernel
theorem dL_alike_67 : decode cL_alike 67 = .ok (.iload_n 3, 1) := by decide +kernel
theorem dL_alike_68 : decode cL_alike 68 = .ok (.iconst 4, 1) := by decide +kernel
theorem dL_alike_69 : decode cL_alike 69 = .ok (.idiv, 1) := by decide +kernel
theorem dL_alike_70 : decode cL_alike 70 = .ok (.iload_n 3, 1) := by decide +kernel
theorem dL_alike_71 : decode cL_alike 71 = .ok (.iconst 4, 1) := by decide +kernel
theorem dL_alike_72 : decode cL_alike 72 = .ok (.irem, 1) := by decide +kernel
theorem dL_alike_73 : decode cL_alike 73 = .ok (.invokestatic 135, 3) := by decide +kernel
theorem dL_alike_76 : decode cL_alike 76 = .ok (.aload_n 1, 1) := by decide +kernel
theorem dL_alike_77 : decode cL_alike 77 = .ok (.iload_n 3, 1) := by decide +kernel
theorem dL_alike_78 : decode cL_alike 78 = .ok (.iconst 4, 1) := by decide +kernel
theorem dL_alike_79 : decode cL_alike 79 = .ok (.idiv, 1) := by decide +kernel
theorem dL_alike_80 : decode cL_alike 80 = .ok (.iload_n 3, 1) := by decide +kernel
theorem dL_alike_81 : decode cL_alike 81 = .ok (.iconst 4, 1) := by decide +kernel
theorem dL_alike_82 : decode cL_alike 82 = .ok (.irem, 1) := by decide +kernel
theorem dL_alike_83 : decode cL_alike 83 = .ok (.invokestatic 135, 3) := by decide +kernel
theorem dL_alike_86 : decode cL_alike 86 = .ok (.if_icmp .ne 7, 3) := by decide +kernel
theorem dL_alike_89 : decode cL_alike 89 = .ok (.iconst 1, 1) := by decide +kernel
theorem dL_alike_90 : decode cL_alike 90 = .ok (.goto 4, 3) := by decide +kernel
theorem dL_alike_93 : decode cL_alike 93 = .ok (.iconst 0, 1) := by decide +kernel
theorem dL_alike_94 : decode cL_alike 94 = .ok (.istore_n 2, 1) := by decide +kernel
theorem dL_alike_95 : decode cL_alike 95 = .ok (.iinc 3 1, 3) := by decide +kernel
theorem dL_alike_98 : decode cL_alike 98 = .ok (.goto (-79), 3) := by decide +kernel
theorem dL_alike_101 : decode cL_alike 101 = .ok (.iconst 0, 1) := by decide +kernel
theorem dL_alike_102 : decode cL_alike 102 = .ok (.istore_n 3, 1) := by decide +kernel
theorem dL_alike_103 : decode cL_alike 103 = .ok (.iload_n 3, 1) := by decide +kernel
theorem dL_alike_104 : decode cL_alike 104 = .ok (.aload_n 0, 1) := by decide +kernel
theorem dL_alike_105 : decode cL_alike 105 = .ok (.bipush 6, 2) := by decide +kernel
theorem dL_alike_107 : decode cL_alike 107 = .ok (.invokestatic 129, 3) := by decide +kernel
theorem dL_alike_110 : decode cL_alike 110 = .ok (.if_icmp .ge 56, 3) := by decide +kernel
theorem dL_alike_113 : decode cL_alike 113 = .ok (.iload_n 2, 1) := by decide +kernel
theorem dL_alike_114 : decode cL_alike 114 = .ok (.ifCond .eq 52, 3) := by decide +kernel
theorem dL_alike_117 : decode cL_alike 117 = .ok (.iconst 0, 1) := by decide +kernel
theorem dL_alike_118 : decode cL_alike 118 = .ok (.istore 4, 2) := by decide +kernel
theorem dL_alike_120 : decode cL_alike 120 = .ok (.iload 4, 2) := by decide +kernel
theorem dL_alike_122 : decode cL_alike 122 = .ok (.bipush 8, 2) := by decide +kernel
theorem dL_alike_124 : decode cL_alike 124 = .ok (.if_icmp .ge 36, 3) := by decide +kernel
theorem dL_alike_127 : decode cL_alike 127 = .ok (.iload_n 2, 1) := by decide +kernel
theorem dL_alike_128 : decode cL_alike 128 = .ok (.ifCond .eq 24, 3) := by decide +kernel
theorem dL_alike_131 : decode cL_alike 131 = .ok (.aload_n 0, 1) := by decide +kernel
theorem dL_alike_132 : decode cL_alike 132 = .ok (.iload_n 3, 1) := by decide +kernel
theorem dL_alike_133 : decode cL_alike 133 = .ok (.iload 4, 2) := by decide +kernel
theorem dL_alike_135 : decode cL_alike 135 = .ok (.invokestatic 151, 3) := by decide +kernel
theorem dL_alike_138 : decode cL_alike 138 = .ok (.aload_n 1, 1) := by decide +kernel
theorem dL_alike_139 : decode cL_alike 139 = .ok (.iload_n 3, 1) := by decide +kernel
theorem dL_alike_140 : decode cL_alike 140 = .ok (.iload 4, 2) := by decide +kernel
theorem dL_alike_142 : decode cL_alike 142 = .ok (.invokestatic 151, 3) := by decide +kernel
theorem dL_alike_145 : decode cL_alike 145 = .ok (.if_icmp .ne 7, 3) := by decide +kernel
theorem dL_alike_148 : decode cL_alike 148 = .ok (.iconst 1, 1) := by decide +kernel
theorem dL_alike_149 : decode cL_alike 149 = .ok (.goto 4, 3) := by decide +kernel
theorem dL_alike_152 : decode cL_alike 152 = .ok (.iconst 0, 1) := by decide +kernel
theorem dL_alike_153 : decode cL_alike 153 = .ok (.istore_n 2, 1) := by decide +kernel
theorem dL_alike_154 : decode cL_alike 154 = .ok (.iinc 4 1, 3) := by decide +kernel
theorem dL_alike_157 : decode cL_alike 157 = .ok (.goto (-37), 3) := by decide +kernel
theorem dL_alike_160 : decode cL_alike 160 = .ok (.iinc 3 1, 3) := by decide +kernel
theorem dL_alike_163 : decode cL_alike 163 = .ok (.goto (-60), 3) := by decide +kernel
theorem dL_alike_166 : decode cL_alike 166 = .ok (.iconst 0, 1) := by decide +kernel
theorem dL_alike_167 : decode cL_alike 167 = .ok (.istore_n 3, 1) := by decide +kernel
theorem dL_alike_168 : decode cL_alike 168 = .ok (.iload_n 3, 1) := by decide +kernel
theorem dL_alike_169 : decode cL_alike 169 = .ok (.aload_n 0, 1) := by decide +kernel
theorem dL_alike_170 : decode cL_alike 170 = .ok (.bipush 7, 2) := by decide +kernel
theorem dL_alike_172 : decode cL_alike 172 = .ok (.invokestatic 129, 3) := by decide +kernel
theorem dL_alike_175 : decode cL_alike 175 = .ok (.if_icmp .ge 32, 3) := by decide +kernel
theorem dL_alike_178 : decode cL_alike 178 = .ok (.iload_n 2, 1) := by decide +kernel
theorem dL_alike_179 : decode cL_alike 179 = .ok (.ifCond .eq 28, 3) := by decide +kernel
theorem dL_alike_182 : decode cL_alike 182 = .ok (.aload_n 0, 1) := by decide +kernel
theorem dL_alike_183 : decode cL_alike 183 = .ok (.iload_n 3, 1) := by decide +kernel
theorem dL_alike_184 : decode cL_alike 184 = .ok (.invokestatic 132, 3) := by decide +kernel
theorem dL_alike_187 : decode cL_alike 187 = .ok (.aload_n 1, 1) := by decide +kernel
theorem dL_alike_188 : decode cL_alike 188 = .ok (.iload_n 3, 1) := by decide +kernel
theorem dL_alike_189 : decode cL_alike 189 = .ok (.invokestatic 132, 3) := by decide +kernel
theorem dL_alike_192 : decode cL_alike 192 = .ok (.if_icmp .ne 7, 3) := by decide +kernel
theorem dL_alike_195 : decode cL_alike 195 = .ok (.iconst 1, 1) := by decide +kernel
theorem dL_alike_196 : decode cL_alike 196 = .ok (.goto 4, 3) := by decide +kernel
theorem dL_alike_199 : decode cL_alike 199 = .ok (.iconst 0, 1) := by decide +kernel
theorem dL_alike_200 : decode cL_alike 200 = .ok (.istore_n 2, 1) := by decide +kernel
theorem dL_alike_201 : decode cL_alike 201 = .ok (.iinc 3 1, 3) := by decide +kernel
theorem dL_alike_204 : decode cL_alike 204 = .ok (.goto (-36), 3) := by decide +kernel
theorem dL_alike_207 : decode cL_alike 207 = .ok (.iload_n 2, 1) := by decide +kernel
theorem dL_alike_208 : decode cL_alike 208 = .ok (.ireturn, 1) := by decide +kernel
theorem dL_refuses_0 : decode cL_refuses 0 = .ok (.aload_n 0, 1) := by decide +kernel
theorem dL_refuses_1 : decode cL_refuses 1 = .ok (.bipush 6, 2) := by decide +kernel
theorem dL_refuses_3 : decode cL_refuses 3 = .ok (.invokestatic 129, 3) := by decide +kernel
theorem dL_refuses_6 : decode cL_refuses 6 = .ok (.istore_n 1, 1) := by decide +kernel
theorem dL_refuses_7 : decode cL_refuses 7 = .ok (.aload_n 0, 1) := by decide +kernel
theorem dL_refuses_8 : decode cL_refuses 8 = .ok (.iconst 0, 1) := by decide +kernel
theorem dL_refuses_9 : decode cL_refuses 9 = .ok (.iconst 2, 1) := by decide +kernel
theorem dL_refuses_10 : decode cL_refuses 10 = .ok (.invokestatic 151, 3) := by decide +kernel
theorem dL_refuses_13 : decode cL_refuses 13 = .ok (.istore_n 2, 1) := by decide +kernel
theorem dL_refuses_14 : decode cL_refuses 14 = .ok (.aload_n 0, 1) := by decide +kernel
theorem dL_refuses_15 : decode cL_refuses 15 = .ok (.bipush 17, 2) := by decide +kernel
theorem dL_refuses_17 : decode cL_refuses 17 = .ok (.invokestatic 129, 3) := by decide +kernel
theorem dL_refuses_20 : decode cL_refuses 20 = .ok (.sipush (-1002), 3) := by decide +kernel
theorem dL_refuses_23 : decode cL_refuses 23 = .ok (.if_icmp .ne 344, 3) := by decide +kernel
theorem dL_refuses_26 : decode cL_refuses 26 = .ok (.aload_n 0, 1) := by decide +kernel
theorem dL_refuses_27 : decode cL_refuses 27 = .ok (.iload_n 1, 1) := by decide +kernel
theorem dL_refuses_28 : decode cL_refuses 28 = .ok (.bipush 8, 2) := by decide +kernel
theorem dL_refuses_30 : decode cL_refuses 30 = .ok (.invokestatic 151, 3) := by decide +kernel
theorem dL_refuses_33 : decode cL_refuses 33 = .ok (.sipush (-1001), 3) := by decide +kernel
theorem dL_refuses_36 : decode cL_refuses 36 = .ok (.if_icmp .ne 331, 3) := by decide +kernel
theorem dL_refuses_39 : decode cL_refuses 39 = .ok (.aload_n 0, 1) := by decide +kernel
theorem dL_refuses_40 : decode cL_refuses 40 = .ok (.iconst 0, 1) := by decide +kernel
theorem dL_refuses_41 : decode cL_refuses 41 = .ok (.bipush 8, 2) := by decide +kernel
theorem dL_refuses_43 : decode cL_refuses 43 = .ok (.invokestatic 151, 3) := by decide +kernel
theorem dL_refuses_46 : decode cL_refuses 46 = .ok (.sipush (-1002), 3) := by decide +kernel
theorem dL_refuses_49 : decode cL_refuses 49 = .ok (.if_icmp .ne 318, 3) := by decide +kernel
theorem dL_refuses_52 : decode cL_refuses 52 = .ok (.aload_n 0, 1) := by decide +kernel
theorem dL_refuses_53 : decode cL_refuses 53 = .ok (.iconst 2, 1) := by decide +kernel
theorem dL_refuses_54 : decode cL_refuses 54 = .ok (.iconst 4, 1) := by decide +kernel
theorem dL_refuses_55 : decode cL_refuses 55 = .ok (.invokestatic 135, 3) := by decide +kernel
theorem dL_refuses_58 : decode cL_refuses 58 = .ok (.sipush (-1001), 3) := by decide +kernel
theorem dL_refuses_61 : decode cL_refuses 61 = .ok (.if_icmp .ne 306, 3) := by decide +kernel
theorem dL_refuses_64 : decode cL_refuses 64 = .ok (.aload_n 0, 1) := by decide +kernel
theorem dL_refuses_65 : decode cL_refuses 65 = .ok (.iconst 0, 1) := by decide +kernel
theorem dL_refuses_66 : decode cL_refuses 66 = .ok (.iconst 4, 1) := by decide +kernel
theorem dL_refuses_67 : decode cL_refuses 67 = .ok (.invokestatic 135, 3) := by decide +kernel
theorem dL_refuses_70 : decode cL_refuses 70 = .ok (.sipush (-1002), 3) := by decide +kernel
theorem dL_refuses_73 : decode cL_refuses 73 = .ok (.if_icmp .ne 294, 3) := by decide +kernel
theorem dL_refuses_76 : decode cL_refuses 76 = .ok (.aload_n 0, 1) := by decide +kernel
theorem dL_refuses_77 : decode cL_refuses 77 = .ok (.aload_n 0, 1) := by decide +kernel
theorem dL_refuses_78 : decode cL_refuses 78 = .ok (.bipush 7, 2) := by decide +kernel
theorem dL_refuses_80 : decode cL_refuses 80 = .ok (.invokestatic 129, 3) := by decide +kernel
theorem dL_refuses_83 : decode cL_refuses 83 = .ok (.invokestatic 132, 3) := by decide +kernel
theorem dL_refuses_86 : decode cL_refuses 86 = .ok (.sipush (-1001), 3) := by decide +kernel
theorem dL_refuses_89 : decode cL_refuses 89 = .ok (.if_icmp .ne 278, 3) := by decide +kernel
theorem dL_refuses_92 : decode cL_refuses 92 = .ok (.aload_n 0, 1) := by decide +kernel
theorem dL_refuses_93 : decode cL_refuses 93 = .ok (.bipush 6, 2) := by decide +kernel
theorem dL_refuses_95 : decode cL_refuses 95 = .ok (.invokestatic 148, 3) := by decide +kernel
theorem dL_refuses_98 : decode cL_refuses 98 = .ok (.sipush (-1002), 3) := by decide +kernel
theorem dL_refuses_101 : decode cL_refuses 101 = .ok (.if_icmp .ne 266, 3) := by decide +kernel
theorem dL_refuses_104 : decode cL_refuses 104 = .ok (.aload_n 0, 1) := by decide +kernel
theorem dL_refuses_105 : decode cL_refuses 105 = .ok (.iconst 0, 1) := by decide +kernel
theorem dL_refuses_106 : decode cL_refuses 106 = .ok (.iconst 0, 1) := by decide +kernel
theorem dL_refuses_107 : decode cL_refuses 107 = .ok (.invokestatic 154, 3) := by decide +kernel
theorem dL_refuses_110 : decode cL_refuses 110 = .ok (.sipush (-1002), 3) := by decide +kernel
theorem dL_refuses_113 : decode cL_refuses 113 = .ok (.if_icmp .ne 254, 3) := by decide +kernel
theorem dL_refuses_116 : decode cL_refuses 116 = .ok (.aload_n 0, 1) := by decide +kernel
theorem dL_refuses_117 : decode cL_refuses 117 = .ok (.bipush 97, 2) := by decide +kernel
theorem dL_refuses_119 : decode cL_refuses 119 = .ok (.iconst 0, 1) := by decide +kernel
theorem dL_refuses_120 : decode cL_refuses 120 = .ok (.invokestatic 154, 3) := by decide +kernel
theorem dL_refuses_123 : decode cL_refuses 123 = .ok (.sipush (-1002), 3) := by decide +kernel
theorem dL_refuses_126 : decode cL_refuses 126 = .ok (.if_icmp .ne 241, 3) := by decide +kernel
theorem dL_refuses_129 : decode cL_refuses 129 = .ok (.aload_n 0, 1) := by decide +kernel
theorem dL_refuses_130 : decode cL_refuses 130 = .ok (.iconst 1, 1) := by decide +kernel
theorem dL_refuses_131 : decode cL_refuses 131 = .ok (.bipush 6, 2) := by decide +kernel
theorem dL_refuses_133 : decode cL_refuses 133 = .ok (.invokestatic 154, 3) := by decide +kernel
theorem dL_refuses_136 : decode cL_refuses 136 = .ok (.sipush (-1002), 3) := by decide +kernel
theorem dL_refuses_139 : decode cL_refuses 139 = .ok (.if_icmp .ne 228, 3) := by decide +kernel
theorem dL_refuses_142 : decode cL_refuses 142 = .ok (.aload_n 0, 1) := by decide +kernel
theorem dL_refuses_143 : decode cL_refuses 143 = .ok (.bipush 21, 2) := by decide +kernel
theorem dL_refuses_145 : decode cL_refuses 145 = .ok (.invokestatic 157, 3) := by decide +kernel
theorem dL_refuses_148 : decode cL_refuses 148 = .ok (.sipush (-1002), 3) := by decide +kernel
theorem dL_refuses_151 : decode cL_refuses 151 = .ok (.if_icmp .ne 216, 3) := by decide +kernel
theorem dL_refuses_154 : decode cL_refuses 154 = .ok (.aload_n 0, 1) := by decide +kernel
theorem dL_refuses_155 : decode cL_refuses 155 = .ok (.iconst 0, 1) := by decide +kernel
theorem dL_refuses_156 : decode cL_refuses 156 = .ok (.bipush 39, 2) := by decide +kernel
theorem dL_refuses_158 : decode cL_refuses 158 = .ok (.invokestatic 160, 3) := by decide +kernel
theorem dL_refuses_161 : decode cL_refuses 161 = .ok (.sipush (-1002), 3) := by decide +kernel
theorem dL_refuses_164 : decode cL_refuses 164 = .ok (.if_icmp .ne 203, 3) := by decide +kernel
theorem dL_refuses_167 : decode cL_refuses 167 = .ok (.aload_n 0, 1) := by decide +kernel
theorem dL_refuses_168 : decode cL_refuses 168 = .ok (.iconst 1, 1) := by decide +kernel
theorem dL_refuses_169 : decode cL_refuses 169 = .ok (.bipush 10, 2) := by decide +kernel
theorem dL_refuses_171 : decode cL_refuses 171 = .ok (.invokestatic 160, 3) := by decide +kernel
theorem dL_refuses_174 : decode cL_refuses 174 = .ok (.sipush (-1002), 3) := by decide +kernel
theorem dL_refuses_177 : decode cL_refuses 177 = .ok (.if_icmp .ne 190, 3) := by decide +kernel
theorem dL_refuses_180 : decode cL_refuses 180 = .ok (.aload_n 0, 1) := by decide +kernel
theorem dL_refuses_181 : decode cL_refuses 181 = .ok (.iconst 2, 1) := by decide +kernel
theorem dL_refuses_182 : decode cL_refuses 182 = .ok (.bipush 6, 2) := by decide +kernel
theorem dL_refuses_184 : decode cL_refuses 184 = .ok (.invokestatic 160, 3) := by decide +kernel
theorem dL_refuses_187 : decode cL_refuses 187 = .ok (.sipush (-1002), 3) := by decide +kernel
theorem dL_refuses_190 : decode cL_refuses 190 = .ok (.if_icmp .ne 177, 3) := by decide +kernel
theorem dL_refuses_193 : decode cL_refuses 193 = .ok (.aload_n 0, 1) := by decide +kernel
theorem dL_refuses_194 : decode cL_refuses 194 = .ok (.iconst 3, 1) := by decide +kernel
theorem dL_refuses_195 : decode cL_refuses 195 = .ok (.bipush 59, 2) := by decide +kernel
theorem dL_refuses_197 : decode cL_refuses 197 = .ok (.invokestatic 160, 3) := by decide +kernel
theorem dL_refuses_200 : decode cL_refuses 200 = .ok (.sipush (-1002), 3) := by decide +kernel
theorem dL_refuses_203 : decode cL_refuses 203 = .ok (.if_icmp .ne 164, 3) := by decide +kernel
theorem dL_refuses_206 : decode cL_refuses 206 = .ok (.aload_n 0, 1) := by decide +kernel
theorem dL_refuses_207 : decode cL_refuses 207 = .ok (.iconst 4, 1) := by decide +kernel
theorem dL_refuses_208 : decode cL_refuses 208 = .ok (.iconst 0, 1) := by decide +kernel
theorem dL_refuses_209 : decode cL_refuses 209 = .ok (.invokestatic 160, 3) := by decide +kernel
theorem dL_refuses_212 : decode cL_refuses 212 = .ok (.sipush (-1002), 3) := by decide +kernel
theorem dL_refuses_215 : decode cL_refuses 215 = .ok (.if_icmp .ne 152, 3) := by decide +kernel
theorem dL_refuses_218 : decode cL_refuses 218 = .ok (.aload_n 0, 1) := by decide +kernel
theorem dL_refuses_219 : decode cL_refuses 219 = .ok (.iconst 5, 1) := by decide +kernel
theorem dL_refuses_220 : decode cL_refuses 220 = .ok (.bipush 24, 2) := by decide +kernel
theorem dL_refuses_222 : decode cL_refuses 222 = .ok (.invokestatic 160, 3) := by decide +kernel
theorem dL_refuses_225 : decode cL_refuses 225 = .ok (.sipush (-1002), 3) := by decide +kernel
theorem dL_refuses_228 : decode cL_refuses 228 = .ok (.if_icmp .ne 139, 3) := by decide +kernel
theorem dL_refuses_231 : decode cL_refuses 231 = .ok (.aload_n 0, 1) := by decide +kernel
theorem dL_refuses_232 : decode cL_refuses 232 = .ok (.bipush 6, 2) := by decide +kernel
theorem dL_refuses_234 : decode cL_refuses 234 = .ok (.iconst 1, 1) := by decide +kernel
theorem dL_refuses_235 : decode cL_refuses 235 = .ok (.invokestatic 160, 3) := by decide +kernel
theorem dL_refuses_238 : decode cL_refuses 238 = .ok (.sipush (-1002), 3) := by decide +kernel
theorem dL_refuses_241 : decode cL_refuses 241 = .ok (.if_icmp .ne 126, 3) := by decide +kernel
theorem dL_refuses_244 : decode cL_refuses 244 = .ok (.aload_n 0, 1) := by decide +kernel
theorem dL_refuses_245 : decode cL_refuses 245 = .ok (.iconst 2, 1) := by decide +kernel
theorem dL_refuses_246 : decode cL_refuses 246 = .ok (.iconst 1, 1) := by decide +kernel
theorem dL_refuses_247 : decode cL_refuses 247 = .ok (.invokestatic 163, 3) := by decide +kernel
theorem dL_refuses_250 : decode cL_refuses 250 = .ok (.sipush (-1001), 3) := by decide +kernel
theorem dL_refuses_253 : decode cL_refuses 253 = .ok (.if_icmp .ne 114, 3) := by decide +kernel
theorem dL_refuses_256 : decode cL_refuses 256 = .ok (.aload_n 0, 1) := by decide +kernel
theorem dL_refuses_257 : decode cL_refuses 257 = .ok (.iconst (-1), 1) := by decide +kernel
theorem dL_refuses_258 : decode cL_refuses 258 = .ok (.bipush 100, 2) := by decide +kernel
theorem dL_refuses_260 : decode cL_refuses 260 = .ok (.invokestatic 167, 3) := by decide +kernel
theorem dL_refuses_263 : decode cL_refuses 263 = .ok (.sipush (-1001), 3) := by decide +kernel
theorem dL_refuses_266 : decode cL_refuses 266 = .ok (.if_icmp .ne 101, 3) := by decide +kernel
theorem dL_refuses_269 : decode cL_refuses 269 = .ok (.aload_n 0, 1) := by decide +kernel
theorem dL_refuses_270 : decode cL_refuses 270 = .ok (.iconst 0, 1) := by decide +kernel
theorem dL_refuses_271 : decode cL_refuses 271 = .ok (.bipush 100, 2) := by decide +kernel
theorem dL_refuses_273 : decode cL_refuses 273 = .ok (.invokestatic 167, 3) := by decide +kernel
theorem dL_refuses_276 : decode cL_refuses 276 = .ok (.sipush (-1002), 3) := by decide +kernel
theorem dL_refuses_279 : decode cL_refuses 279 = .ok (.if_icmp .ne 88, 3) := by decide +kernel
theorem dL_refuses_282 : decode cL_refuses 282 = .ok (.aload_n 0, 1) := by decide +kernel
theorem dL_refuses_283 : decode cL_refuses 283 = .ok (.iload_n 1, 1) := by decide +kernel
theorem dL_refuses_284 : decode cL_refuses 284 = .ok (.invokestatic 170, 3) := by decide +kernel
theorem dL_refuses_287 : decode cL_refuses 287 = .ok (.sipush (-1001), 3) := by decide +kernel
theorem dL_refuses_290 : decode cL_refuses 290 = .ok (.if_icmp .ne 77, 3) := by decide +kernel
theorem dL_refuses_293 : decode cL_refuses 293 = .ok (.iload_n 2, 1) := by decide +kernel
theorem dL_refuses_294 : decode cL_refuses 294 = .ok (.iconst 4, 1) := by decide +kernel
theorem dL_refuses_295 : decode cL_refuses 295 = .ok (.if_icmp .ne 14, 3) := by decide +kernel
theorem dL_refuses_298 : decode cL_refuses 298 = .ok (.aload_n 0, 1) := by decide +kernel
theorem dL_refuses_299 : decode cL_refuses 299 = .ok (.iconst 0, 1) := by decide +kernel
theorem dL_refuses_300 : decode cL_refuses 300 = .ok (.invokestatic 170, 3) := by decide +kernel
theorem dL_refuses_303 : decode cL_refuses 303 = .ok (.sipush (-1003), 3) := by decide +kernel
theorem dL_refuses_306 : decode cL_refuses 306 = .ok (.if_icmp .ne 61, 3) := by decide +kernel
theorem dL_refuses_309 : decode cL_refuses 309 = .ok (.aload_n 0, 1) := by decide +kernel
theorem dL_refuses_310 : decode cL_refuses 310 = .ok (.iload_n 1, 1) := by decide +kernel
theorem dL_refuses_311 : decode cL_refuses 311 = .ok (.invokestatic 173, 3) := by decide +kernel
theorem dL_refuses_314 : decode cL_refuses 314 = .ok (.sipush (-1001), 3) := by decide +kernel
theorem dL_refuses_317 : decode cL_refuses 317 = .ok (.if_icmp .ne 50, 3) := by decide +kernel
theorem dL_refuses_320 : decode cL_refuses 320 = .ok (.iload_n 2, 1) := by decide +kernel
theorem dL_refuses_321 : decode cL_refuses 321 = .ok (.iconst 4, 1) := by decide +kernel
theorem dL_refuses_322 : decode cL_refuses 322 = .ok (.if_icmp .eq 14, 3) := by decide +kernel
theorem dL_refuses_325 : decode cL_refuses 325 = .ok (.aload_n 0, 1) := by decide +kernel
theorem dL_refuses_326 : decode cL_refuses 326 = .ok (.iconst 0, 1) := by decide +kernel
theorem dL_refuses_327 : decode cL_refuses 327 = .ok (.invokestatic 173, 3) := by decide +kernel
theorem dL_refuses_330 : decode cL_refuses 330 = .ok (.sipush (-1003), 3) := by decide +kernel
theorem dL_refuses_333 : decode cL_refuses 333 = .ok (.if_icmp .ne 34, 3) := by decide +kernel
theorem dL_refuses_336 : decode cL_refuses 336 = .ok (.aload_n 0, 1) := by decide +kernel
theorem dL_refuses_337 : decode cL_refuses 337 = .ok (.iload_n 1, 1) := by decide +kernel
theorem dL_refuses_338 : decode cL_refuses 338 = .ok (.invokestatic 176, 3) := by decide +kernel
theorem dL_refuses_341 : decode cL_refuses 341 = .ok (.sipush (-1001), 3) := by decide +kernel
theorem dL_refuses_344 : decode cL_refuses 344 = .ok (.if_icmp .ne 23, 3) := by decide +kernel
theorem dL_refuses_347 : decode cL_refuses 347 = .ok (.iload_n 2, 1) := by decide +kernel
theorem dL_refuses_348 : decode cL_refuses 348 = .ok (.iconst 3, 1) := by decide +kernel
theorem dL_refuses_349 : decode cL_refuses 349 = .ok (.if_icmp .eq 14, 3) := by decide +kernel
theorem dL_refuses_352 : decode cL_refuses 352 = .ok (.aload_n 0, 1) := by decide +kernel
theorem dL_refuses_353 : decode cL_refuses 353 = .ok (.iconst 0, 1) := by decide +kernel
theorem dL_refuses_354 : decode cL_refuses 354 = .ok (.invokestatic 176, 3) := by decide +kernel
theorem dL_refuses_357 : decode cL_refuses 357 = .ok (.sipush (-1003), 3) := by decide +kernel
theorem dL_refuses_360 : decode cL_refuses 360 = .ok (.if_icmp .ne 7, 3) := by decide +kernel
theorem dL_refuses_363 : decode cL_refuses 363 = .ok (.iconst 1, 1) := by decide +kernel
theorem dL_refuses_364 : decode cL_refuses 364 = .ok (.goto 4, 3) := by decide +kernel
theorem dL_refuses_367 : decode cL_refuses 367 = .ok (.iconst 0, 1) := by decide +kernel
theorem dL_refuses_368 : decode cL_refuses 368 = .ok (.istore_n 3, 1) := by decide +kernel
theorem dL_refuses_369 : decode cL_refuses 369 = .ok (.iload_n 3, 1) := by decide +kernel
theorem dL_refuses_370 : decode cL_refuses 370 = .ok (.ifCond .eq 211, 3) := by decide +kernel
theorem dL_refuses_373 : decode cL_refuses 373 = .ok (.aload_n 0, 1) := by decide +kernel
theorem dL_refuses_374 : decode cL_refuses 374 = .ok (.iload_n 1, 1) := by decide +kernel
theorem dL_refuses_375 : decode cL_refuses 375 = .ok (.invokestatic 179, 3) := by decide +kernel
theorem dL_refuses_378 : decode cL_refuses 378 = .ok (.sipush (-1001), 3) := by decide +kernel
theorem dL_refuses_381 : decode cL_refuses 381 = .ok (.if_icmp .ne 200, 3) := by decide +kernel
theorem dL_refuses_384 : decode cL_refuses 384 = .ok (.aload_n 0, 1) := by decide +kernel
theorem dL_refuses_385 : decode cL_refuses 385 = .ok (.sipush 151, 3) := by decide +kernel
theorem dL_refuses_388 : decode cL_refuses 388 = .ok (.iconst 1, 1) := by decide +kernel
theorem dL_refuses_389 : decode cL_refuses 389 = .ok (.invokestatic 182, 3) := by decide +kernel
theorem dL_refuses_392 : decode cL_refuses 392 = .ok (.sipush (-1002), 3) := by decide +kernel
theorem dL_refuses_395 : decode cL_refuses 395 = .ok (.if_icmp .ne 186, 3) := by decide +kernel
theorem dL_refuses_398 : decode cL_refuses 398 = .ok (.aload_n 0, 1) := by decide +kernel
theorem dL_refuses_399 : decode cL_refuses 399 = .ok (.iconst 0, 1) := by decide +kernel
theorem dL_refuses_400 : decode cL_refuses 400 = .ok (.iconst 0, 1) := by decide +kernel
theorem dL_refuses_401 : decode cL_refuses 401 = .ok (.invokestatic 182, 3) := by decide +kernel
theorem dL_refuses_404 : decode cL_refuses 404 = .ok (.sipush (-1002), 3) := by decide +kernel
theorem dL_refuses_407 : decode cL_refuses 407 = .ok (.if_icmp .ne 174, 3) := by decide +kernel
theorem dL_refuses_410 : decode cL_refuses 410 = .ok (.aload_n 0, 1) := by decide +kernel
theorem dL_refuses_411 : decode cL_refuses 411 = .ok (.iconst 1, 1) := by decide +kernel
theorem dL_refuses_412 : decode cL_refuses 412 = .ok (.iconst 0, 1) := by decide +kernel
theorem dL_refuses_413 : decode cL_refuses 413 = .ok (.bipush 7, 2) := by decide +kernel
theorem dL_refuses_415 : decode cL_refuses 415 = .ok (.invokestatic 185, 3) := by decide +kernel
theorem dL_refuses_418 : decode cL_refuses 418 = .ok (.sipush (-1002), 3) := by decide +kernel
theorem dL_refuses_421 : decode cL_refuses 421 = .ok (.if_icmp .ne 160, 3) := by decide +kernel
theorem dL_refuses_424 : decode cL_refuses 424 = .ok (.aload_n 0, 1) := by decide +kernel
theorem dL_refuses_425 : decode cL_refuses 425 = .ok (.bipush 97, 2) := by decide +kernel
theorem dL_refuses_427 : decode cL_refuses 427 = .ok (.iconst 0, 1) := by decide +kernel
theorem dL_refuses_428 : decode cL_refuses 428 = .ok (.iconst 0, 1) := by decide +kernel
theorem dL_refuses_429 : decode cL_refuses 429 = .ok (.invokestatic 185, 3) := by decide +kernel
theorem dL_refuses_432 : decode cL_refuses 432 = .ok (.sipush (-1002), 3) := by decide +kernel
theorem dL_refuses_435 : decode cL_refuses 435 = .ok (.if_icmp .ne 146, 3) := by decide +kernel
theorem dL_refuses_438 : decode cL_refuses 438 = .ok (.aload_n 0, 1) := by decide +kernel
theorem dL_refuses_439 : decode cL_refuses 439 = .ok (.bipush 100, 2) := by decide +kernel
theorem dL_refuses_441 : decode cL_refuses 441 = .ok (.iconst 0, 1) := by decide +kernel
theorem dL_refuses_442 : decode cL_refuses 442 = .ok (.invokestatic 189, 3) := by decide +kernel
theorem dL_refuses_445 : decode cL_refuses 445 = .ok (.sipush (-1002), 3) := by decide +kernel
theorem dL_refuses_448 : decode cL_refuses 448 = .ok (.if_icmp .ne 133, 3) := by decide +kernel
theorem dL_refuses_451 : decode cL_refuses 451 = .ok (.aload_n 0, 1) := by decide +kernel
theorem dL_refuses_452 : decode cL_refuses 452 = .ok (.iconst 0, 1) := by decide +kernel
theorem dL_refuses_453 : decode cL_refuses 453 = .ok (.bipush 6, 2) := by decide +kernel
theorem dL_refuses_455 : decode cL_refuses 455 = .ok (.invokestatic 189, 3) := by decide +kernel
theorem dL_refuses_458 : decode cL_refuses 458 = .ok (.sipush (-1002), 3) := by decide +kernel
theorem dL_refuses_461 : decode cL_refuses 461 = .ok (.if_icmp .ne 120, 3) := by decide +kernel
theorem dL_refuses_464 : decode cL_refuses 464 = .ok (.aload_n 0, 1) := by decide +kernel
theorem dL_refuses_465 : decode cL_refuses 465 = .ok (.iconst 1, 1) := by decide +kernel
theorem dL_refuses_466 : decode cL_refuses 466 = .ok (.bipush 9, 2) := by decide +kernel
theorem dL_refuses_468 : decode cL_refuses 468 = .ok (.invokestatic 192, 3) := by decide +kernel
theorem dL_refuses_471 : decode cL_refuses 471 = .ok (.sipush (-1002), 3) := by decide +kernel
theorem dL_refuses_474 : decode cL_refuses 474 = .ok (.if_icmp .ne 107, 3) := by decide +kernel
theorem dL_refuses_477 : decode cL_refuses 477 = .ok (.aload_n 0, 1) := by decide +kernel
theorem dL_refuses_478 : decode cL_refuses 478 = .ok (.iconst 0, 1) := by decide +kernel
theorem dL_refuses_479 : decode cL_refuses 479 = .ok (.bipush 10, 2) := by decide +kernel
theorem dL_refuses_481 : decode cL_refuses 481 = .ok (.invokestatic 192, 3) := by decide +kernel
theorem dL_refuses_484 : decode cL_refuses 484 = .ok (.sipush (-1002), 3) := by decide +kernel
theorem dL_refuses_487 : decode cL_refuses 487 = .ok (.if_icmp .ne 94, 3) := by decide +kernel
theorem dL_refuses_490 : decode cL_refuses 490 = .ok (.aload_n 0, 1) := by decide +kernel
theorem dL_refuses_491 : decode cL_refuses 491 = .ok (.bipush 97, 2) := by decide +kernel
theorem dL_refuses_493 : decode cL_refuses 493 = .ok (.iconst 0, 1) := by decide +kernel
theorem dL_refuses_494 : decode cL_refuses 494 = .ok (.invokestatic 195, 3) := by decide +kernel
theorem dL_refuses_497 : decode cL_refuses 497 = .ok (.sipush (-1002), 3) := by decide +kernel
theorem dL_refuses_500 : decode cL_refuses 500 = .ok (.if_icmp .ne 81, 3) := by decide +kernel
theorem dL_refuses_503 : decode cL_refuses 503 = .ok (.aload_n 0, 1) := by decide +kernel
theorem dL_refuses_504 : decode cL_refuses 504 = .ok (.iconst 4, 1) := by decide +kernel
theorem dL_refuses_505 : decode cL_refuses 505 = .ok (.lconst 0, 1) := by decide +kernel
theorem dL_refuses_506 : decode cL_refuses 506 = .ok (.invokestatic 198, 3) := by decide +kernel
theorem dL_refuses_509 : decode cL_refuses 509 = .ok (.sipush (-1002), 3) := by decide +kernel
theorem dL_refuses_512 : decode cL_refuses 512 = .ok (.if_icmp .ne 69, 3) := by decide +kernel
theorem dL_refuses_515 : decode cL_refuses 515 = .ok (.aload_n 0, 1) := by decide +kernel
theorem dL_refuses_516 : decode cL_refuses 516 = .ok (.iconst 1, 1) := by decide +kernel
theorem dL_refuses_517 : decode cL_refuses 517 = .ok (.ldc2_w 202, 3) := by decide +kernel
theorem dL_refuses_520 : decode cL_refuses 520 = .ok (.invokestatic 198, 3) := by decide +kernel
theorem dL_refuses_523 : decode cL_refuses 523 = .ok (.sipush (-1002), 3) := by decide +kernel
theorem dL_refuses_526 : decode cL_refuses 526 = .ok (.if_icmp .ne 55, 3) := by decide +kernel
theorem dL_refuses_529 : decode cL_refuses 529 = .ok (.aload_n 0, 1) := by decide +kernel
theorem dL_refuses_530 : decode cL_refuses 530 = .ok (.lconst 1, 1) := by decide +kernel
theorem dL_refuses_531 : decode cL_refuses 531 = .ok (.bipush 97, 2) := by decide +kernel
theorem dL_refuses_533 : decode cL_refuses 533 = .ok (.invokestatic 204, 3) := by decide +kernel
theorem dL_refuses_536 : decode cL_refuses 536 = .ok (.sipush (-1002), 3) := by decide +kernel
theorem dL_refuses_539 : decode cL_refuses 539 = .ok (.if_icmp .ne 42, 3) := by decide +kernel
theorem dL_refuses_542 : decode cL_refuses 542 = .ok (.aload_n 0, 1) := by decide +kernel
theorem dL_refuses_543 : decode cL_refuses 543 = .ok (.iconst 2, 1) := by decide +kernel
theorem dL_refuses_544 : decode cL_refuses 544 = .ok (.invokestatic 208, 3) := by decide +kernel
theorem dL_refuses_547 : decode cL_refuses 547 = .ok (.sipush (-1001), 3) := by decide +kernel
theorem dL_refuses_550 : decode cL_refuses 550 = .ok (.if_icmp .ne 31, 3) := by decide +kernel
theorem dL_refuses_553 : decode cL_refuses 553 = .ok (.aload_n 0, 1) := by decide +kernel
theorem dL_refuses_554 : decode cL_refuses 554 = .ok (.iconst (-1), 1) := by decide +kernel
theorem dL_refuses_555 : decode cL_refuses 555 = .ok (.invokestatic 142, 3) := by decide +kernel
theorem dL_refuses_558 : decode cL_refuses 558 = .ok (.sipush (-1001), 3) := by decide +kernel
theorem dL_refuses_561 : decode cL_refuses 561 = .ok (.if_icmp .ne 20, 3) := by decide +kernel
theorem dL_refuses_564 : decode cL_refuses 564 = .ok (.aload_n 0, 1) := by decide +kernel
theorem dL_refuses_565 : decode cL_refuses 565 = .ok (.sipush 256, 3) := by decide +kernel
theorem dL_refuses_568 : decode cL_refuses 568 = .ok (.invokestatic 102, 3) := by decide +kernel
theorem dL_refuses_571 : decode cL_refuses 571 = .ok (.sipush (-1002), 3) := by decide +kernel
theorem dL_refuses_574 : decode cL_refuses 574 = .ok (.if_icmp .ne 7, 3) := by decide +kernel
theorem dL_refuses_577 : decode cL_refuses 577 = .ok (.iconst 1, 1) := by decide +kernel
theorem dL_refuses_578 : decode cL_refuses 578 = .ok (.goto 4, 3) := by decide +kernel
theorem dL_refuses_581 : decode cL_refuses 581 = .ok (.iconst 0, 1) := by decide +kernel
theorem dL_refuses_582 : decode cL_refuses 582 = .ok (.ireturn, 1) := by decide +kernel
theorem dL_heat_0 : decode cL_heat 0 = .ok (.iconst 0, 1) := by decide +kernel
theorem dL_heat_1 : decode cL_heat 1 = .ok (.istore_n 1, 1) := by decide +kernel
theorem dL_heat_2 : decode cL_heat 2 = .ok (.iconst 0, 1) := by decide +kernel
theorem dL_heat_3 : decode cL_heat 3 = .ok (.istore_n 2, 1) := by decide +kernel
theorem dL_heat_4 : decode cL_heat 4 = .ok (.iload_n 2, 1) := by decide +kernel
theorem dL_heat_5 : decode cL_heat 5 = .ok (.aload_n 0, 1) := by decide +kernel
theorem dL_heat_6 : decode cL_heat 6 = .ok (.bipush 7, 2) := by decide +kernel
theorem dL_heat_8 : decode cL_heat 8 = .ok (.invokestatic 129, 3) := by decide +kernel
theorem dL_heat_11 : decode cL_heat 11 = .ok (.if_icmp .ge 17, 3) := by decide +kernel
theorem dL_heat_14 : decode cL_heat 14 = .ok (.iload_n 1, 1) := by decide +kernel
theorem dL_heat_15 : decode cL_heat 15 = .ok (.aload_n 0, 1) := by decide +kernel
theorem dL_heat_16 : decode cL_heat 16 = .ok (.iload_n 2, 1) := by decide +kernel
theorem dL_heat_17 : decode cL_heat 17 = .ok (.invokestatic 132, 3) := by decide +kernel
theorem dL_heat_20 : decode cL_heat 20 = .ok (.iadd, 1) := by decide +kernel
theorem dL_heat_21 : decode cL_heat 21 = .ok (.istore_n 1, 1) := by decide +kernel
theorem dL_heat_22 : decode cL_heat 22 = .ok (.iinc 2 1, 3) := by decide +kernel
theorem dL_heat_25 : decode cL_heat 25 = .ok (.goto (-21), 3) := by decide +kernel
theorem dL_heat_28 : decode cL_heat 28 = .ok (.iload_n 1, 1) := by decide +kernel
theorem dL_heat_29 : decode cL_heat 29 = .ok (.ireturn, 1) := by decide +kernel
theorem dL_sound_0 : decode cL_sound 0 = .ok (.aload_n 0, 1) := by decide +kernel
theorem dL_sound_1 : decode cL_sound 1 = .ok (.bipush 6, 2) := by decide +kernel
theorem dL_sound_3 : decode cL_sound 3 = .ok (.invokestatic 129, 3) := by decide +kernel
theorem dL_sound_6 : decode cL_sound 6 = .ok (.istore_n 1, 1) := by decide +kernel
theorem dL_sound_7 : decode cL_sound 7 = .ok (.iconst 2, 1) := by decide +kernel
theorem dL_sound_8 : decode cL_sound 8 = .ok (.newarray .int, 2) := by decide +kernel
theorem dL_sound_10 : decode cL_sound 10 = .ok (.astore_n 2, 1) := by decide +kernel
theorem dL_sound_11 : decode cL_sound 11 = .ok (.iconst 0, 1) := by decide +kernel
theorem dL_sound_12 : decode cL_sound 12 = .ok (.istore_n 3, 1) := by decide +kernel
theorem dL_sound_13 : decode cL_sound 13 = .ok (.iconst 0, 1) := by decide +kernel
theorem dL_sound_14 : decode cL_sound 14 = .ok (.istore 4, 2) := by decide +kernel
theorem dL_sound_16 : decode cL_sound 16 = .ok (.bipush (-9), 2) := by decide +kernel
theorem dL_sound_18 : decode cL_sound 18 = .ok (.istore 5, 2) := by decide +kernel
theorem dL_sound_20 : decode cL_sound 20 = .ok (.aload_n 0, 1) := by decide +kernel
theorem dL_sound_21 : decode cL_sound 21 = .ok (.bipush 9, 2) := by decide +kernel
theorem dL_sound_23 : decode cL_sound 23 = .ok (.invokestatic 129, 3) := by decide +kernel
theorem dL_sound_26 : decode cL_sound 26 = .ok (.aload_n 0, 1) := by decide +kernel
theorem dL_sound_27 : decode cL_sound 27 = .ok (.invokestatic 211, 3) := by decide +kernel
theorem dL_sound_30 : decode cL_sound 30 = .ok (.aload_n 0, 1) := by decide +kernel
theorem dL_sound_31 : decode cL_sound 31 = .ok (.bipush 7, 2) := by decide +kernel
theorem dL_sound_33 : decode cL_sound 33 = .ok (.invokestatic 129, 3) := by decide +kernel
theorem dL_sound_36 : decode cL_sound 36 = .ok (.idiv, 1) := by decide +kernel
theorem dL_sound_37 : decode cL_sound 37 = .ok (.if_icmp .ne 7, 3) := by decide +kernel
theorem dL_sound_40 : decode cL_sound 40 = .ok (.iconst 1, 1) := by decide +kernel
theorem dL_sound_41 : decode cL_sound 41 = .ok (.goto 4, 3) := by decide +kernel
theorem dL_sound_44 : decode cL_sound 44 = .ok (.iconst 0, 1) := by decide +kernel
theorem dL_sound_45 : decode cL_sound 45 = .ok (.istore 6, 2) := by decide +kernel
theorem dL_sound_47 : decode cL_sound 47 = .ok (.iconst 0, 1) := by decide +kernel
theorem dL_sound_48 : decode cL_sound 48 = .ok (.istore 7, 2) := by decide +kernel
theorem dL_sound_50 : decode cL_sound 50 = .ok (.iload 7, 2) := by decide +kernel
theorem dL_sound_52 : decode cL_sound 52 = .ok (.iload_n 1, 1) := by decide +kernel
theorem dL_sound_53 : decode cL_sound 53 = .ok (.if_icmp .ge 214, 3) := by decide +kernel
theorem dL_sound_56 : decode cL_sound 56 = .ok (.iload 6, 2) := by decide +kernel
theorem dL_sound_58 : decode cL_sound 58 = .ok (.ifCond .eq 209, 3) := by decide +kernel
theorem dL_sound_61 : decode cL_sound 61 = .ok (.aload_n 0, 1) := by decide +kernel
theorem dL_sound_62 : decode cL_sound 62 = .ok (.iload 7, 2) := by decide +kernel
theorem dL_sound_64 : decode cL_sound 64 = .ok (.iconst 2, 1) := by decide +kernel
theorem dL_sound_65 : decode cL_sound 65 = .ok (.invokestatic 151, 3) := by decide +kernel
theorem dL_sound_68 : decode cL_sound 68 = .ok (.istore 8, 2) := by decide +kernel
theorem dL_sound_70 : decode cL_sound 70 = .ok (.aload_n 0, 1) := by decide +kernel
theorem dL_sound_71 : decode cL_sound 71 = .ok (.iload 7, 2) := by decide +kernel
theorem dL_sound_73 : decode cL_sound 73 = .ok (.iconst 3, 1) := by decide +kernel
theorem dL_sound_74 : decode cL_sound 74 = .ok (.invokestatic 151, 3) := by decide +kernel
theorem dL_sound_77 : decode cL_sound 77 = .ok (.istore 9, 2) := by decide +kernel
theorem dL_sound_79 : decode cL_sound 79 = .ok (.aload_n 2, 1) := by decide +kernel
theorem dL_sound_80 : decode cL_sound 80 = .ok (.aload_n 0, 1) := by decide +kernel
theorem dL_sound_81 : decode cL_sound 81 = .ok (.iload 7, 2) := by decide +kernel
theorem dL_sound_83 : decode cL_sound 83 = .ok (.iconst 1, 1) := by decide +kernel
theorem dL_sound_84 : decode cL_sound 84 = .ok (.invokestatic 151, 3) := by decide +kernel
theorem dL_sound_87 : decode cL_sound 87 = .ok (.dup2, 1) := by decide +kernel
theorem dL_sound_88 : decode cL_sound 88 = .ok (.iaload, 1) := by decide +kernel
theorem dL_sound_89 : decode cL_sound 89 = .ok (.iload 8, 2) := by decide +kernel
theorem dL_sound_91 : decode cL_sound 91 = .ok (.iconst 1, 1) := by decide +kernel
theorem dL_sound_92 : decode cL_sound 92 = .ok (.if_icmp .eq 9, 3) := by decide +kernel
theorem dL_sound_95 : decode cL_sound 95 = .ok (.iload 8, 2) := by decide +kernel
theorem dL_sound_97 : decode cL_sound 97 = .ok (.iconst 2, 1) := by decide +kernel
theorem dL_sound_98 : decode cL_sound 98 = .ok (.if_icmp .ne 13, 3) := by decide +kernel
theorem dL_sound_101 : decode cL_sound 101 = .ok (.aload_n 0, 1) := by decide +kernel
theorem dL_sound_102 : decode cL_sound 102 = .ok (.iload 7, 2) := by decide +kernel
theorem dL_sound_104 : decode cL_sound 104 = .ok (.iconst 0, 1) := by decide +kernel
theorem dL_sound_105 : decode cL_sound 105 = .ok (.invokestatic 151, 3) := by decide +kernel
theorem dL_sound_108 : decode cL_sound 108 = .ok (.goto 4, 3) := by decide +kernel
theorem dL_sound_111 : decode cL_sound 111 = .ok (.iconst 0, 1) := by decide +kernel
theorem dL_sound_112 : decode cL_sound 112 = .ok (.iadd, 1) := by decide +kernel
theorem dL_sound_113 : decode cL_sound 113 = .ok (.iastore, 1) := by decide +kernel
theorem dL_sound_114 : decode cL_sound 114 = .ok (.iload_n 3, 1) := by decide +kernel
theorem dL_sound_115 : decode cL_sound 115 = .ok (.iload 8, 2) := by decide +kernel
theorem dL_sound_117 : decode cL_sound 117 = .ok (.iconst 2, 1) := by decide +kernel
theorem dL_sound_118 : decode cL_sound 118 = .ok (.if_icmp .ne 7, 3) := by decide +kernel
theorem dL_sound_121 : decode cL_sound 121 = .ok (.iconst 1, 1) := by decide +kernel
theorem dL_sound_122 : decode cL_sound 122 = .ok (.goto 4, 3) := by decide +kernel
theorem dL_sound_125 : decode cL_sound 125 = .ok (.iconst 0, 1) := by decide +kernel
theorem dL_sound_126 : decode cL_sound 126 = .ok (.iadd, 1) := by decide +kernel
theorem dL_sound_127 : decode cL_sound 127 = .ok (.istore_n 3, 1) := by decide +kernel
theorem dL_sound_128 : decode cL_sound 128 = .ok (.iload 4, 2) := by decide +kernel
theorem dL_sound_130 : decode cL_sound 130 = .ok (.aload_n 0, 1) := by decide +kernel
theorem dL_sound_131 : decode cL_sound 131 = .ok (.iload 7, 2) := by decide +kernel
theorem dL_sound_133 : decode cL_sound 133 = .ok (.bipush 6, 2) := by decide +kernel
theorem dL_sound_135 : decode cL_sound 135 = .ok (.invokestatic 151, 3) := by decide +kernel
theorem dL_sound_138 : decode cL_sound 138 = .ok (.iadd, 1) := by decide +kernel
theorem dL_sound_139 : decode cL_sound 139 = .ok (.istore 4, 2) := by decide +kernel
theorem dL_sound_141 : decode cL_sound 141 = .ok (.iload 8, 2) := by decide +kernel
theorem dL_sound_143 : decode cL_sound 143 = .ok (.iconst 1, 1) := by decide +kernel
theorem dL_sound_144 : decode cL_sound 144 = .ok (.if_icmp .ne 7, 3) := by decide +kernel
theorem dL_sound_147 : decode cL_sound 147 = .ok (.iconst 1, 1) := by decide +kernel
theorem dL_sound_148 : decode cL_sound 148 = .ok (.goto 4, 3) := by decide +kernel
theorem dL_sound_151 : decode cL_sound 151 = .ok (.iconst 0, 1) := by decide +kernel
theorem dL_sound_152 : decode cL_sound 152 = .ok (.iload 9, 2) := by decide +kernel
theorem dL_sound_154 : decode cL_sound 154 = .ok (.ifCond .le 7, 3) := by decide +kernel
theorem dL_sound_157 : decode cL_sound 157 = .ok (.iconst 1, 1) := by decide +kernel
theorem dL_sound_158 : decode cL_sound 158 = .ok (.goto 4, 3) := by decide +kernel
theorem dL_sound_161 : decode cL_sound 161 = .ok (.iconst 0, 1) := by decide +kernel
theorem dL_sound_162 : decode cL_sound 162 = .ok (.if_icmp .ne 96, 3) := by decide +kernel
theorem dL_sound_165 : decode cL_sound 165 = .ok (.iload 9, 2) := by decide +kernel
theorem dL_sound_167 : decode cL_sound 167 = .ok (.iconst 5, 1) := by decide +kernel
theorem dL_sound_168 : decode cL_sound 168 = .ok (.if_icmp .gt 90, 3) := by decide +kernel
theorem dL_sound_171 : decode cL_sound 171 = .ok (.aload_n 0, 1) := by decide +kernel
theorem dL_sound_172 : decode cL_sound 172 = .ok (.iload 7, 2) := by decide +kernel
theorem dL_sound_174 : decode cL_sound 174 = .ok (.bipush 6, 2) := by decide +kernel
theorem dL_sound_176 : decode cL_sound 176 = .ok (.invokestatic 151, 3) := by decide +kernel
theorem dL_sound_179 : decode cL_sound 179 = .ok (.aload_n 0, 1) := by decide +kernel
theorem dL_sound_180 : decode cL_sound 180 = .ok (.iload 7, 2) := by decide +kernel
theorem dL_sound_182 : decode cL_sound 182 = .ok (.iconst 0, 1) := by decide +kernel
theorem dL_sound_183 : decode cL_sound 183 = .ok (.invokestatic 151, 3) := by decide +kernel
theorem dL_sound_186 : decode cL_sound 186 = .ok (.aload_n 0, 1) := by decide +kernel
theorem dL_sound_187 : decode cL_sound 187 = .ok (.iload 7, 2) := by decide +kernel
theorem dL_sound_189 : decode cL_sound 189 = .ok (.iconst 4, 1) := by decide +kernel
theorem dL_sound_190 : decode cL_sound 190 = .ok (.invokestatic 151, 3) := by decide +kernel
theorem dL_sound_193 : decode cL_sound 193 = .ok (.imul, 1) := by decide +kernel
theorem dL_sound_194 : decode cL_sound 194 = .ok (.if_icmp .lt 64, 3) := by decide +kernel
theorem dL_sound_197 : decode cL_sound 197 = .ok (.aload_n 0, 1) := by decide +kernel
theorem dL_sound_198 : decode cL_sound 198 = .ok (.iload 7, 2) := by decide +kernel
theorem dL_sound_200 : decode cL_sound 200 = .ok (.iconst 4, 1) := by decide +kernel
theorem dL_sound_201 : decode cL_sound 201 = .ok (.invokestatic 151, 3) := by decide +kernel
theorem dL_sound_204 : decode cL_sound 204 = .ok (.aload_n 0, 1) := by decide +kernel
theorem dL_sound_205 : decode cL_sound 205 = .ok (.bipush 8, 2) := by decide +kernel
theorem dL_sound_207 : decode cL_sound 207 = .ok (.invokestatic 129, 3) := by decide +kernel
theorem dL_sound_210 : decode cL_sound 210 = .ok (.if_icmp .gt 48, 3) := by decide +kernel
theorem dL_sound_213 : decode cL_sound 213 = .ok (.aload_n 0, 1) := by decide +kernel
theorem dL_sound_214 : decode cL_sound 214 = .ok (.iload 7, 2) := by decide +kernel
theorem dL_sound_216 : decode cL_sound 216 = .ok (.iconst 5, 1) := by decide +kernel
theorem dL_sound_217 : decode cL_sound 217 = .ok (.invokestatic 151, 3) := by decide +kernel
theorem dL_sound_220 : decode cL_sound 220 = .ok (.ifCond .gt 14, 3) := by decide +kernel
theorem dL_sound_223 : decode cL_sound 223 = .ok (.iload 8, 2) := by decide +kernel
theorem dL_sound_225 : decode cL_sound 225 = .ok (.ifCond .eq 9, 3) := by decide +kernel
theorem dL_sound_228 : decode cL_sound 228 = .ok (.iload 8, 2) := by decide +kernel
theorem dL_sound_230 : decode cL_sound 230 = .ok (.iconst 4, 1) := by decide +kernel
theorem dL_sound_231 : decode cL_sound 231 = .ok (.if_icmp .ne 27, 3) := by decide +kernel
theorem dL_sound_234 : decode cL_sound 234 = .ok (.aload_n 0, 1) := by decide +kernel
theorem dL_sound_235 : decode cL_sound 235 = .ok (.iload 7, 2) := by decide +kernel
theorem dL_sound_237 : decode cL_sound 237 = .ok (.iconst 4, 1) := by decide +kernel
theorem dL_sound_238 : decode cL_sound 238 = .ok (.invokestatic 151, 3) := by decide +kernel
theorem dL_sound_241 : decode cL_sound 241 = .ok (.ifCond .eq 13, 3) := by decide +kernel
theorem dL_sound_244 : decode cL_sound 244 = .ok (.aload_n 0, 1) := by decide +kernel
theorem dL_sound_245 : decode cL_sound 245 = .ok (.iload 7, 2) := by decide +kernel
theorem dL_sound_247 : decode cL_sound 247 = .ok (.iconst 5, 1) := by decide +kernel
theorem dL_sound_248 : decode cL_sound 248 = .ok (.invokestatic 151, 3) := by decide +kernel
theorem dL_sound_251 : decode cL_sound 251 = .ok (.ifCond .le 7, 3) := by decide +kernel
theorem dL_sound_254 : decode cL_sound 254 = .ok (.iconst 1, 1) := by decide +kernel
theorem dL_sound_255 : decode cL_sound 255 = .ok (.goto 4, 3) := by decide +kernel
theorem dL_sound_258 : decode cL_sound 258 = .ok (.iconst 0, 1) := by decide +kernel
theorem dL_sound_259 : decode cL_sound 259 = .ok (.istore 6, 2) := by decide +kernel
theorem dL_sound_261 : decode cL_sound 261 = .ok (.iinc 7 1, 3) := by decide +kernel
theorem dL_sound_264 : decode cL_sound 264 = .ok (.goto (-214), 3) := by decide +kernel
theorem dL_sound_267 : decode cL_sound 267 = .ok (.iconst 0, 1) := by decide +kernel
theorem dL_sound_268 : decode cL_sound 268 = .ok (.istore 7, 2) := by decide +kernel
theorem dL_sound_270 : decode cL_sound 270 = .ok (.iload 7, 2) := by decide +kernel
theorem dL_sound_272 : decode cL_sound 272 = .ok (.iload_n 1, 1) := by decide +kernel
theorem dL_sound_273 : decode cL_sound 273 = .ok (.if_icmp .ge 201, 3) := by decide +kernel
theorem dL_sound_276 : decode cL_sound 276 = .ok (.iload 6, 2) := by decide +kernel
theorem dL_sound_278 : decode cL_sound 278 = .ok (.ifCond .eq 196, 3) := by decide +kernel
theorem dL_sound_281 : decode cL_sound 281 = .ok (.aload_n 0, 1) := by decide +kernel
theorem dL_sound_282 : decode cL_sound 282 = .ok (.iload 7, 2) := by decide +kernel
theorem dL_sound_284 : decode cL_sound 284 = .ok (.iconst 1, 1) := by decide +kernel
theorem dL_sound_285 : decode cL_sound 285 = .ok (.invokestatic 151, 3) := by decide +kernel
theorem dL_sound_288 : decode cL_sound 288 = .ok (.istore 8, 2) := by decide +kernel
theorem dL_sound_290 : decode cL_sound 290 = .ok (.aload_n 0, 1) := by decide +kernel
theorem dL_sound_291 : decode cL_sound 291 = .ok (.iload 7, 2) := by decide +kernel
theorem dL_sound_293 : decode cL_sound 293 = .ok (.iconst 2, 1) := by decide +kernel
theorem dL_sound_294 : decode cL_sound 294 = .ok (.invokestatic 151, 3) := by decide +kernel
theorem dL_sound_297 : decode cL_sound 297 = .ok (.istore 9, 2) := by decide +kernel
theorem dL_sound_299 : decode cL_sound 299 = .ok (.aload_n 0, 1) := by decide +kernel
theorem dL_sound_300 : decode cL_sound 300 = .ok (.iload 8, 2) := by decide +kernel
theorem dL_sound_302 : decode cL_sound 302 = .ok (.iconst 2, 1) := by decide +kernel
theorem dL_sound_303 : decode cL_sound 303 = .ok (.invokestatic 135, 3) := by decide +kernel
theorem dL_sound_306 : decode cL_sound 306 = .ok (.iconst 1, 1) := by decide +kernel
theorem dL_sound_307 : decode cL_sound 307 = .ok (.if_icmp .ne 29, 3) := by decide +kernel
theorem dL_sound_310 : decode cL_sound 310 = .ok (.aload_n 2, 1) := by decide +kernel
theorem dL_sound_311 : decode cL_sound 311 = .ok (.iload 8, 2) := by decide +kernel
theorem dL_sound_313 : decode cL_sound 313 = .ok (.iaload, 1) := by decide +kernel
theorem dL_sound_314 : decode cL_sound 314 = .ok (.aload_n 0, 1) := by decide +kernel
theorem dL_sound_315 : decode cL_sound 315 = .ok (.iload 7, 2) := by decide +kernel
theorem dL_sound_317 : decode cL_sound 317 = .ok (.iconst 0, 1) := by decide +kernel
theorem dL_sound_318 : decode cL_sound 318 = .ok (.invokestatic 151, 3) := by decide +kernel
theorem dL_sound_321 : decode cL_sound 321 = .ok (.iadd, 1) := by decide +kernel
theorem dL_sound_322 : decode cL_sound 322 = .ok (.aload_n 0, 1) := by decide +kernel
theorem dL_sound_323 : decode cL_sound 323 = .ok (.iload 8, 2) := by decide +kernel
theorem dL_sound_325 : decode cL_sound 325 = .ok (.iconst 0, 1) := by decide +kernel
theorem dL_sound_326 : decode cL_sound 326 = .ok (.invokestatic 135, 3) := by decide +kernel
theorem dL_sound_329 : decode cL_sound 329 = .ok (.if_icmp .gt 7, 3) := by decide +kernel
theorem dL_sound_332 : decode cL_sound 332 = .ok (.iconst 1, 1) := by decide +kernel
theorem dL_sound_333 : decode cL_sound 333 = .ok (.goto 4, 3) := by decide +kernel
theorem dL_sound_336 : decode cL_sound 336 = .ok (.iconst 0, 1) := by decide +kernel
theorem dL_sound_337 : decode cL_sound 337 = .ok (.istore 10, 2) := by decide +kernel
theorem dL_sound_339 : decode cL_sound 339 = .ok (.iload 9, 2) := by decide +kernel
theorem dL_sound_341 : decode cL_sound 341 = .ok (.iconst 1, 1) := by decide +kernel
theorem dL_sound_342 : decode cL_sound 342 = .ok (.if_icmp .eq 9, 3) := by decide +kernel
theorem dL_sound_345 : decode cL_sound 345 = .ok (.iload 9, 2) := by decide +kernel
theorem dL_sound_347 : decode cL_sound 347 = .ok (.iconst 2, 1) := by decide +kernel
theorem dL_sound_348 : decode cL_sound 348 = .ok (.if_icmp .ne 7, 3) := by decide +kernel
theorem dL_sound_351 : decode cL_sound 351 = .ok (.iconst 1, 1) := by decide +kernel
theorem dL_sound_352 : decode cL_sound 352 = .ok (.goto 37, 3) := by decide +kernel
theorem dL_sound_355 : decode cL_sound 355 = .ok (.iload 9, 2) := by decide +kernel
theorem dL_sound_357 : decode cL_sound 357 = .ok (.iconst 4, 1) := by decide +kernel
theorem dL_sound_358 : decode cL_sound 358 = .ok (.if_icmp .ne 7, 3) := by decide +kernel
theorem dL_sound_361 : decode cL_sound 361 = .ok (.iconst 2, 1) := by decide +kernel
theorem dL_sound_362 : decode cL_sound 362 = .ok (.goto 27, 3) := by decide +kernel
theorem dL_sound_365 : decode cL_sound 365 = .ok (.iload 10, 2) := by decide +kernel
theorem dL_sound_367 : decode cL_sound 367 = .ok (.ifCond .eq 7, 3) := by decide +kernel
theorem dL_sound_370 : decode cL_sound 370 = .ok (.iconst 0, 1) := by decide +kernel
theorem dL_sound_371 : decode cL_sound 371 = .ok (.goto 18, 3) := by decide +kernel
theorem dL_sound_374 : decode cL_sound 374 = .ok (.aload_n 0, 1) := by decide +kernel
theorem dL_sound_375 : decode cL_sound 375 = .ok (.iload 8, 2) := by decide +kernel
theorem dL_sound_377 : decode cL_sound 377 = .ok (.iconst 2, 1) := by decide +kernel
theorem dL_sound_378 : decode cL_sound 378 = .ok (.invokestatic 135, 3) := by decide +kernel
theorem dL_sound_381 : decode cL_sound 381 = .ok (.ifCond .ne 7, 3) := by decide +kernel
theorem dL_sound_384 : decode cL_sound 384 = .ok (.iconst 3, 1) := by decide +kernel
theorem dL_sound_385 : decode cL_sound 385 = .ok (.goto 4, 3) := by decide +kernel
theorem dL_sound_388 : decode cL_sound 388 = .ok (.iconst 4, 1) := by decide +kernel
theorem dL_sound_389 : decode cL_sound 389 = .ok (.istore 11, 2) := by decide +kernel
theorem dL_sound_391 : decode cL_sound 391 = .ok (.iload 11, 2) := by decide +kernel
theorem dL_sound_393 : decode cL_sound 393 = .ok (.ifCond .ne 32, 3) := by decide +kernel
theorem dL_sound_396 : decode cL_sound 396 = .ok (.iload 5, 2) := by decide +kernel
theorem dL_sound_398 : decode cL_sound 398 = .ok (.bipush (-9), 2) := by decide +kernel
theorem dL_sound_400 : decode cL_sound 400 = .ok (.if_icmp .eq 20, 3) := by decide +kernel
theorem dL_sound_403 : decode cL_sound 403 = .ok (.aload_n 0, 1) := by decide +kernel
theorem dL_sound_404 : decode cL_sound 404 = .ok (.iload 7, 2) := by decide +kernel
theorem dL_sound_406 : decode cL_sound 406 = .ok (.iconst 4, 1) := by decide +kernel
theorem dL_sound_407 : decode cL_sound 407 = .ok (.invokestatic 151, 3) := by decide +kernel
theorem dL_sound_410 : decode cL_sound 410 = .ok (.aload_n 0, 1) := by decide +kernel
theorem dL_sound_411 : decode cL_sound 411 = .ok (.iload 5, 2) := by decide +kernel
theorem dL_sound_413 : decode cL_sound 413 = .ok (.iconst 4, 1) := by decide +kernel
theorem dL_sound_414 : decode cL_sound 414 = .ok (.invokestatic 151, 3) := by decide +kernel
theorem dL_sound_417 : decode cL_sound 417 = .ok (.if_icmp .ge 8, 3) := by decide +kernel
theorem dL_sound_420 : decode cL_sound 420 = .ok (.iload 7, 2) := by decide +kernel
theorem dL_sound_422 : decode cL_sound 422 = .ok (.goto 5, 3) := by decide +kernel
theorem dL_sound_425 : decode cL_sound 425 = .ok (.iload 5, 2) := by decide +kernel
theorem dL_sound_427 : decode cL_sound 427 = .ok (.istore 5, 2) := by decide +kernel
theorem dL_sound_429 : decode cL_sound 429 = .ok (.aload_n 0, 1) := by decide +kernel
theorem dL_sound_430 : decode cL_sound 430 = .ok (.iload 7, 2) := by decide +kernel
theorem dL_sound_432 : decode cL_sound 432 = .ok (.bipush 7, 2) := by decide +kernel
theorem dL_sound_434 : decode cL_sound 434 = .ok (.invokestatic 151, 3) := by decide +kernel
theorem dL_sound_437 : decode cL_sound 437 = .ok (.iload 10, 2) := by decide +kernel
theorem dL_sound_439 : decode cL_sound 439 = .ok (.ifCond .eq 7, 3) := by decide +kernel
theorem dL_sound_442 : decode cL_sound 442 = .ok (.iconst 1, 1) := by decide +kernel
theorem dL_sound_443 : decode cL_sound 443 = .ok (.goto 4, 3) := by decide +kernel
theorem dL_sound_446 : decode cL_sound 446 = .ok (.iconst 0, 1) := by decide +kernel
theorem dL_sound_447 : decode cL_sound 447 = .ok (.if_icmp .ne 18, 3) := by decide +kernel
theorem dL_sound_450 : decode cL_sound 450 = .ok (.aload_n 0, 1) := by decide +kernel
theorem dL_sound_451 : decode cL_sound 451 = .ok (.iload 7, 2) := by decide +kernel
theorem dL_sound_453 : decode cL_sound 453 = .ok (.invokestatic 179, 3) := by decide +kernel
theorem dL_sound_456 : decode cL_sound 456 = .ok (.iload 11, 2) := by decide +kernel
theorem dL_sound_458 : decode cL_sound 458 = .ok (.if_icmp .ne 7, 3) := by decide +kernel
theorem dL_sound_461 : decode cL_sound 461 = .ok (.iconst 1, 1) := by decide +kernel
theorem dL_sound_462 : decode cL_sound 462 = .ok (.goto 4, 3) := by decide +kernel
theorem dL_sound_465 : decode cL_sound 465 = .ok (.iconst 0, 1) := by decide +kernel
theorem dL_sound_466 : decode cL_sound 466 = .ok (.istore 6, 2) := by decide +kernel
theorem dL_sound_468 : decode cL_sound 468 = .ok (.iinc 7 1, 3) := by decide +kernel
theorem dL_sound_471 : decode cL_sound 471 = .ok (.goto (-201), 3) := by decide +kernel
theorem dL_sound_474 : decode cL_sound 474 = .ok (.aload_n 0, 1) := by decide +kernel
theorem dL_sound_475 : decode cL_sound 475 = .ok (.bipush 11, 2) := by decide +kernel
theorem dL_sound_477 : decode cL_sound 477 = .ok (.invokestatic 129, 3) := by decide +kernel
theorem dL_sound_480 : decode cL_sound 480 = .ok (.iconst 1, 1) := by decide +kernel
theorem dL_sound_481 : decode cL_sound 481 = .ok (.if_icmp .ne 7, 3) := by decide +kernel
theorem dL_sound_484 : decode cL_sound 484 = .ok (.iconst 1, 1) := by decide +kernel
theorem dL_sound_485 : decode cL_sound 485 = .ok (.goto 4, 3) := by decide +kernel
theorem dL_sound_488 : decode cL_sound 488 = .ok (.iconst 0, 1) := by decide +kernel
theorem dL_sound_489 : decode cL_sound 489 = .ok (.istore 7, 2) := by decide +kernel
theorem dL_sound_491 : decode cL_sound 491 = .ok (.iload 6, 2) := by decide +kernel
theorem dL_sound_493 : decode cL_sound 493 = .ok (.ifCond .eq 142, 3) := by decide +kernel
theorem dL_sound_496 : decode cL_sound 496 = .ok (.aload_n 2, 1) := by decide +kernel
theorem dL_sound_497 : decode cL_sound 497 = .ok (.iconst 0, 1) := by decide +kernel
theorem dL_sound_498 : decode cL_sound 498 = .ok (.iaload, 1) := by decide +kernel
theorem dL_sound_499 : decode cL_sound 499 = .ok (.aload_n 0, 1) := by decide +kernel
theorem dL_sound_500 : decode cL_sound 500 = .ok (.iconst 0, 1) := by decide +kernel
theorem dL_sound_501 : decode cL_sound 501 = .ok (.iconst 1, 1) := by decide +kernel
theorem dL_sound_502 : decode cL_sound 502 = .ok (.invokestatic 135, 3) := by decide +kernel
theorem dL_sound_505 : decode cL_sound 505 = .ok (.if_icmp .ne 130, 3) := by decide +kernel
theorem dL_sound_508 : decode cL_sound 508 = .ok (.aload_n 2, 1) := by decide +kernel
theorem dL_sound_509 : decode cL_sound 509 = .ok (.iconst 1, 1) := by decide +kernel
theorem dL_sound_510 : decode cL_sound 510 = .ok (.iaload, 1) := by decide +kernel
theorem dL_sound_511 : decode cL_sound 511 = .ok (.aload_n 0, 1) := by decide +kernel
theorem dL_sound_512 : decode cL_sound 512 = .ok (.iconst 1, 1) := by decide +kernel
theorem dL_sound_513 : decode cL_sound 513 = .ok (.iconst 1, 1) := by decide +kernel
theorem dL_sound_514 : decode cL_sound 514 = .ok (.invokestatic 135, 3) := by decide +kernel
theorem dL_sound_517 : decode cL_sound 517 = .ok (.if_icmp .ne 118, 3) := by decide +kernel
theorem dL_sound_520 : decode cL_sound 520 = .ok (.iload_n 3, 1) := by decide +kernel
theorem dL_sound_521 : decode cL_sound 521 = .ok (.aload_n 0, 1) := by decide +kernel
theorem dL_sound_522 : decode cL_sound 522 = .ok (.bipush 16, 2) := by decide +kernel
theorem dL_sound_524 : decode cL_sound 524 = .ok (.invokestatic 129, 3) := by decide +kernel
theorem dL_sound_527 : decode cL_sound 527 = .ok (.if_icmp .ne 108, 3) := by decide +kernel
theorem dL_sound_530 : decode cL_sound 530 = .ok (.iload 4, 2) := by decide +kernel
theorem dL_sound_532 : decode cL_sound 532 = .ok (.aload_n 0, 1) := by decide +kernel
theorem dL_sound_533 : decode cL_sound 533 = .ok (.iconst 4, 1) := by decide +kernel
theorem dL_sound_534 : decode cL_sound 534 = .ok (.invokestatic 148, 3) := by decide +kernel
theorem dL_sound_537 : decode cL_sound 537 = .ok (.if_icmp .ne 98, 3) := by decide +kernel
theorem dL_sound_540 : decode cL_sound 540 = .ok (.iload 5, 2) := by decide +kernel
theorem dL_sound_542 : decode cL_sound 542 = .ok (.aload_n 0, 1) := by decide +kernel
theorem dL_sound_543 : decode cL_sound 543 = .ok (.invokevirtual 145, 3) := by decide +kernel
theorem dL_sound_546 : decode cL_sound 546 = .ok (.if_icmp .ne 89, 3) := by decide +kernel
theorem dL_sound_549 : decode cL_sound 549 = .ok (.aload_n 0, 1) := by decide +kernel
theorem dL_sound_550 : decode cL_sound 550 = .ok (.iconst 0, 1) := by decide +kernel
theorem dL_sound_551 : decode cL_sound 551 = .ok (.iconst 3, 1) := by decide +kernel
theorem dL_sound_552 : decode cL_sound 552 = .ok (.invokestatic 135, 3) := by decide +kernel
theorem dL_sound_555 : decode cL_sound 555 = .ok (.aload_n 0, 1) := by decide +kernel
theorem dL_sound_556 : decode cL_sound 556 = .ok (.iconst 1, 1) := by decide +kernel
theorem dL_sound_557 : decode cL_sound 557 = .ok (.iconst 3, 1) := by decide +kernel
theorem dL_sound_558 : decode cL_sound 558 = .ok (.invokestatic 135, 3) := by decide +kernel
theorem dL_sound_561 : decode cL_sound 561 = .ok (.iadd, 1) := by decide +kernel
theorem dL_sound_562 : decode cL_sound 562 = .ok (.iload_n 1, 1) := by decide +kernel
theorem dL_sound_563 : decode cL_sound 563 = .ok (.if_icmp .ne 72, 3) := by decide +kernel
theorem dL_sound_566 : decode cL_sound 566 = .ok (.aload_n 0, 1) := by decide +kernel
theorem dL_sound_567 : decode cL_sound 567 = .ok (.iconst 1, 1) := by decide +kernel
theorem dL_sound_568 : decode cL_sound 568 = .ok (.invokestatic 148, 3) := by decide +kernel
theorem dL_sound_571 : decode cL_sound 571 = .ok (.bipush 10, 2) := by decide +kernel
theorem dL_sound_573 : decode cL_sound 573 = .ok (.aload_n 0, 1) := by decide +kernel
theorem dL_sound_574 : decode cL_sound 574 = .ok (.iconst 5, 1) := by decide +kernel
theorem dL_sound_575 : decode cL_sound 575 = .ok (.invokestatic 148, 3) := by decide +kernel
theorem dL_sound_578 : decode cL_sound 578 = .ok (.imul, 1) := by decide +kernel
theorem dL_sound_579 : decode cL_sound 579 = .ok (.if_icmp .ne 56, 3) := by decide +kernel
theorem dL_sound_582 : decode cL_sound 582 = .ok (.iload 7, 2) := by decide +kernel
theorem dL_sound_584 : decode cL_sound 584 = .ok (.ifCond .ne 21, 3) := by decide +kernel
theorem dL_sound_587 : decode cL_sound 587 = .ok (.aload_n 0, 1) := by decide +kernel
theorem dL_sound_588 : decode cL_sound 588 = .ok (.bipush 12, 2) := by decide +kernel
theorem dL_sound_590 : decode cL_sound 590 = .ok (.invokestatic 129, 3) := by decide +kernel
theorem dL_sound_593 : decode cL_sound 593 = .ok (.ifCond .ne 42, 3) := by decide +kernel
theorem dL_sound_596 : decode cL_sound 596 = .ok (.aload_n 0, 1) := by decide +kernel
theorem dL_sound_597 : decode cL_sound 597 = .ok (.bipush 13, 2) := by decide +kernel
theorem dL_sound_599 : decode cL_sound 599 = .ok (.invokestatic 129, 3) := by decide +kernel
theorem dL_sound_602 : decode cL_sound 602 = .ok (.ifCond .ne 33, 3) := by decide +kernel
theorem dL_sound_605 : decode cL_sound 605 = .ok (.aload_n 0, 1) := by decide +kernel
theorem dL_sound_606 : decode cL_sound 606 = .ok (.bipush 12, 2) := by decide +kernel
theorem dL_sound_608 : decode cL_sound 608 = .ok (.invokestatic 129, 3) := by decide +kernel
theorem dL_sound_611 : decode cL_sound 611 = .ok (.aload_n 0, 1) := by decide +kernel
theorem dL_sound_612 : decode cL_sound 612 = .ok (.bipush 13, 2) := by decide +kernel
theorem dL_sound_614 : decode cL_sound 614 = .ok (.invokestatic 129, 3) := by decide +kernel
theorem dL_sound_617 : decode cL_sound 617 = .ok (.if_icmp .gt 18, 3) := by decide +kernel
theorem dL_sound_620 : decode cL_sound 620 = .ok (.aload_n 0, 1) := by decide +kernel
theorem dL_sound_621 : decode cL_sound 621 = .ok (.bipush 13, 2) := by decide +kernel
theorem dL_sound_623 : decode cL_sound 623 = .ok (.invokestatic 129, 3) := by decide +kernel
theorem dL_sound_626 : decode cL_sound 626 = .ok (.bipush 12, 2) := by decide +kernel
theorem dL_sound_628 : decode cL_sound 628 = .ok (.if_icmp .ge 7, 3) := by decide +kernel
theorem dL_sound_631 : decode cL_sound 631 = .ok (.iconst 1, 1) := by decide +kernel
theorem dL_sound_632 : decode cL_sound 632 = .ok (.goto 4, 3) := by decide +kernel
theorem dL_sound_635 : decode cL_sound 635 = .ok (.iconst 0, 1) := by decide +kernel
theorem dL_sound_636 : decode cL_sound 636 = .ok (.ireturn, 1) := by decide +kernel
theorem dL_ticks_0 : decode cL_ticks 0 = .ok (.aload_n 0, 1) := by decide +kernel
theorem dL_ticks_1 : decode cL_ticks 1 = .ok (.bipush 6, 2) := by decide +kernel
theorem dL_ticks_3 : decode cL_ticks 3 = .ok (.invokestatic 129, 3) := by decide +kernel
theorem dL_ticks_6 : decode cL_ticks 6 = .ok (.istore_n 2, 1) := by decide +kernel
theorem dL_ticks_7 : decode cL_ticks 7 = .ok (.iconst 1, 1) := by decide +kernel
theorem dL_ticks_8 : decode cL_ticks 8 = .ok (.iload_n 1, 1) := by decide +kernel
theorem dL_ticks_9 : decode cL_ticks 9 = .ok (.bipush 20, 2) := by decide +kernel
theorem dL_ticks_11 : decode cL_ticks 11 = .ok (.irem, 1) := by decide +kernel
theorem dL_ticks_12 : decode cL_ticks 12 = .ok (.iadd, 1) := by decide +kernel
theorem dL_ticks_13 : decode cL_ticks 13 = .ok (.istore_n 3, 1) := by decide +kernel
theorem dL_ticks_14 : decode cL_ticks 14 = .ok (.iload_n 1, 1) := by decide +kernel
theorem dL_ticks_15 : decode cL_ticks 15 = .ok (.bipush 32, 2) := by decide +kernel
theorem dL_ticks_17 : decode cL_ticks 17 = .ok (.idiv, 1) := by decide +kernel
theorem dL_ticks_18 : decode cL_ticks 18 = .ok (.iconst 4, 1) := by decide +kernel
theorem dL_ticks_19 : decode cL_ticks 19 = .ok (.irem, 1) := by decide +kernel
theorem dL_ticks_20 : decode cL_ticks 20 = .ok (.istore 4, 2) := by decide +kernel
theorem dL_ticks_22 : decode cL_ticks 22 = .ok (.aload_n 0, 1) := by decide +kernel
theorem dL_ticks_23 : decode cL_ticks 23 = .ok (.iload_n 3, 1) := by decide +kernel
theorem dL_ticks_24 : decode cL_ticks 24 = .ok (.iload 4, 2) := by decide +kernel
theorem dL_ticks_26 : decode cL_ticks 26 = .ok (.iconst 0, 1) := by decide +kernel
theorem dL_ticks_27 : decode cL_ticks 27 = .ok (.invokestatic 185, 3) := by decide +kernel
theorem dL_ticks_30 : decode cL_ticks 30 = .ok (.istore 5, 2) := by decide +kernel
theorem dL_ticks_32 : decode cL_ticks 32 = .ok (.aload_n 0, 1) := by decide +kernel
theorem dL_ticks_33 : decode cL_ticks 33 = .ok (.iload_n 3, 1) := by decide +kernel
theorem dL_ticks_34 : decode cL_ticks 34 = .ok (.iload 4, 2) := by decide +kernel
theorem dL_ticks_36 : decode cL_ticks 36 = .ok (.bipush 6, 2) := by decide +kernel
theorem dL_ticks_38 : decode cL_ticks 38 = .ok (.invokestatic 185, 3) := by decide +kernel
theorem dL_ticks_41 : decode cL_ticks 41 = .ok (.istore 6, 2) := by decide +kernel
theorem dL_ticks_43 : decode cL_ticks 43 = .ok (.aload_n 0, 1) := by decide +kernel
theorem dL_ticks_44 : decode cL_ticks 44 = .ok (.iload_n 3, 1) := by decide +kernel
theorem dL_ticks_45 : decode cL_ticks 45 = .ok (.iload 4, 2) := by decide +kernel
theorem dL_ticks_47 : decode cL_ticks 47 = .ok (.iconst 3, 1) := by decide +kernel
theorem dL_ticks_48 : decode cL_ticks 48 = .ok (.invokestatic 185, 3) := by decide +kernel
theorem dL_ticks_51 : decode cL_ticks 51 = .ok (.aload_n 0, 1) := by decide +kernel
theorem dL_ticks_52 : decode cL_ticks 52 = .ok (.iconst 4, 1) := by decide +kernel
theorem dL_ticks_53 : decode cL_ticks 53 = .ok (.invokestatic 148, 3) := by decide +kernel
theorem dL_ticks_56 : decode cL_ticks 56 = .ok (.iadd, 1) := by decide +kernel
theorem dL_ticks_57 : decode cL_ticks 57 = .ok (.istore 7, 2) := by decide +kernel
theorem dL_ticks_59 : decode cL_ticks 59 = .ok (.aload_n 0, 1) := by decide +kernel
theorem dL_ticks_60 : decode cL_ticks 60 = .ok (.iload_n 3, 1) := by decide +kernel
theorem dL_ticks_61 : decode cL_ticks 61 = .ok (.iload 4, 2) := by decide +kernel
theorem dL_ticks_63 : decode cL_ticks 63 = .ok (.iconst 4, 1) := by decide +kernel
theorem dL_ticks_64 : decode cL_ticks 64 = .ok (.invokestatic 185, 3) := by decide +kernel
theorem dL_ticks_67 : decode cL_ticks 67 = .ok (.istore 8, 2) := by decide +kernel
theorem dL_ticks_69 : decode cL_ticks 69 = .ok (.aload_n 0, 1) := by decide +kernel
theorem dL_ticks_70 : decode cL_ticks 70 = .ok (.iload_n 3, 1) := by decide +kernel
theorem dL_ticks_71 : decode cL_ticks 71 = .ok (.iload 4, 2) := by decide +kernel
theorem dL_ticks_73 : decode cL_ticks 73 = .ok (.iconst 5, 1) := by decide +kernel
theorem dL_ticks_74 : decode cL_ticks 74 = .ok (.invokestatic 185, 3) := by decide +kernel
theorem dL_ticks_77 : decode cL_ticks 77 = .ok (.aload_n 0, 1) := by decide +kernel
theorem dL_ticks_78 : decode cL_ticks 78 = .ok (.bipush 14, 2) := by decide +kernel
theorem dL_ticks_80 : decode cL_ticks 80 = .ok (.invokestatic 129, 3) := by decide +kernel
theorem dL_ticks_83 : decode cL_ticks 83 = .ok (.iadd, 1) := by decide +kernel
theorem dL_ticks_84 : decode cL_ticks 84 = .ok (.istore 9, 2) := by decide +kernel
theorem dL_ticks_86 : decode cL_ticks 86 = .ok (.bipush 99, 2) := by decide +kernel
theorem dL_ticks_88 : decode cL_ticks 88 = .ok (.istore 10, 2) := by decide +kernel
theorem dL_ticks_90 : decode cL_ticks 90 = .ok (.iconst 1, 1) := by decide +kernel
theorem dL_ticks_91 : decode cL_ticks 91 = .ok (.istore 11, 2) := by decide +kernel
theorem dL_ticks_93 : decode cL_ticks 93 = .ok (.iconst 0, 1) := by decide +kernel
theorem dL_ticks_94 : decode cL_ticks 94 = .ok (.istore 12, 2) := by decide +kernel
theorem dL_ticks_96 : decode cL_ticks 96 = .ok (.iload 12, 2) := by decide +kernel
theorem dL_ticks_98 : decode cL_ticks 98 = .ok (.iload_n 3, 1) := by decide +kernel
theorem dL_ticks_99 : decode cL_ticks 99 = .ok (.if_icmp .ge 858, 3) := by decide +kernel
theorem dL_ticks_102 : decode cL_ticks 102 = .ok (.iload 11, 2) := by decide +kernel
theorem dL_ticks_104 : decode cL_ticks 104 = .ok (.ifCond .eq 853, 3) := by decide +kernel
theorem dL_ticks_107 : decode cL_ticks 107 = .ok (.aload_n 0, 1) := by decide +kernel
theorem dL_ticks_108 : decode cL_ticks 108 = .ok (.invokestatic 211, 3) := by decide +kernel
theorem dL_ticks_111 : decode cL_ticks 111 = .ok (.istore 13, 2) := by decide +kernel
theorem dL_ticks_113 : decode cL_ticks 113 = .ok (.aload_n 0, 1) := by decide +kernel
theorem dL_ticks_114 : decode cL_ticks 114 = .ok (.iconst 1, 1) := by decide +kernel
theorem dL_ticks_115 : decode cL_ticks 115 = .ok (.invokestatic 148, 3) := by decide +kernel
theorem dL_ticks_118 : decode cL_ticks 118 = .ok (.istore 14, 2) := by decide +kernel
theorem dL_ticks_120 : decode cL_ticks 120 = .ok (.aload_n 0, 1) := by decide +kernel
theorem dL_ticks_121 : decode cL_ticks 121 = .ok (.iconst 2, 1) := by decide +kernel
theorem dL_ticks_122 : decode cL_ticks 122 = .ok (.invokestatic 148, 3) := by decide +kernel
theorem dL_ticks_125 : decode cL_ticks 125 = .ok (.istore 15, 2) := by decide +kernel
theorem dL_ticks_127 : decode cL_ticks 127 = .ok (.aload_n 0, 1) := by decide +kernel
theorem dL_ticks_128 : decode cL_ticks 128 = .ok (.iconst 3, 1) := by decide +kernel
theorem dL_ticks_129 : decode cL_ticks 129 = .ok (.invokestatic 148, 3) := by decide +kernel
theorem dL_ticks_132 : decode cL_ticks 132 = .ok (.istore 16, 2) := by decide +kernel
theorem dL_ticks_134 : decode cL_ticks 134 = .ok (.aload_n 0, 1) := by decide +kernel
theorem dL_ticks_135 : decode cL_ticks 135 = .ok (.iconst 0, 1) := by decide +kernel
theorem dL_ticks_136 : decode cL_ticks 136 = .ok (.invokestatic 148, 3) := by decide +kernel
theorem dL_ticks_139 : decode cL_ticks 139 = .ok (.istore 17, 2) := by decide +kernel
theorem dL_ticks_141 : decode cL_ticks 141 = .ok (.aload_n 0, 1) := by decide +kernel
theorem dL_ticks_142 : decode cL_ticks 142 = .ok (.bipush 8, 2) := by decide +kernel
theorem dL_ticks_144 : decode cL_ticks 144 = .ok (.invokestatic 129, 3) := by decide +kernel
theorem dL_ticks_147 : decode cL_ticks 147 = .ok (.bipush 24, 2) := by decide +kernel
theorem dL_ticks_149 : decode cL_ticks 149 = .ok (.irem, 1) := by decide +kernel
theorem dL_ticks_150 : decode cL_ticks 150 = .ok (.aload_n 0, 1) := by decide +kernel
theorem dL_ticks_151 : decode cL_ticks 151 = .ok (.iconst 5, 1) := by decide +kernel
theorem dL_ticks_152 : decode cL_ticks 152 = .ok (.invokestatic 129, 3) := by decide +kernel
theorem dL_ticks_155 : decode cL_ticks 155 = .ok (.if_icmp .ne 7, 3) := by decide +kernel
theorem dL_ticks_158 : decode cL_ticks 158 = .ok (.iconst 1, 1) := by decide +kernel
theorem dL_ticks_159 : decode cL_ticks 159 = .ok (.goto 4, 3) := by decide +kernel
theorem dL_ticks_162 : decode cL_ticks 162 = .ok (.iconst 0, 1) := by decide +kernel
theorem dL_ticks_163 : decode cL_ticks 163 = .ok (.istore 18, 2) := by decide +kernel
theorem dL_ticks_165 : decode cL_ticks 165 = .ok (.aload_n 0, 1) := by decide +kernel
theorem dL_ticks_166 : decode cL_ticks 166 = .ok (.bipush 11, 2) := by decide +kernel
theorem dL_ticks_168 : decode cL_ticks 168 = .ok (.invokestatic 129, 3) := by decide +kernel
theorem dL_ticks_171 : decode cL_ticks 171 = .ok (.iconst 1, 1) := by decide +kernel
theorem dL_ticks_172 : decode cL_ticks 172 = .ok (.if_icmp .ne 7, 3) := by decide +kernel
theorem dL_ticks_175 : decode cL_ticks 175 = .ok (.iconst 1, 1) := by decide +kernel
theorem dL_ticks_176 : decode cL_ticks 176 = .ok (.goto 4, 3) := by decide +kernel
theorem dL_ticks_179 : decode cL_ticks 179 = .ok (.iconst 0, 1) := by decide +kernel
theorem dL_ticks_180 : decode cL_ticks 180 = .ok (.istore 19, 2) := by decide +kernel
theorem dL_ticks_182 : decode cL_ticks 182 = .ok (.aload_n 0, 1) := by decide +kernel
theorem dL_ticks_183 : decode cL_ticks 183 = .ok (.bipush 14, 2) := by decide +kernel
theorem dL_ticks_185 : decode cL_ticks 185 = .ok (.invokestatic 129, 3) := by decide +kernel
theorem dL_ticks_188 : decode cL_ticks 188 = .ok (.aload_n 0, 1) := by decide +kernel
theorem dL_ticks_189 : decode cL_ticks 189 = .ok (.bipush 15, 2) := by decide +kernel
theorem dL_ticks_191 : decode cL_ticks 191 = .ok (.invokestatic 129, 3) := by decide +kernel
theorem dL_ticks_194 : decode cL_ticks 194 = .ok (.iadd, 1) := by decide +kernel
theorem dL_ticks_195 : decode cL_ticks 195 = .ok (.istore 20, 2) := by decide +kernel
theorem dL_ticks_197 : decode cL_ticks 197 = .ok (.bipush 20, 2) := by decide +kernel
theorem dL_ticks_199 : decode cL_ticks 199 = .ok (.newarray .int, 2) := by decide +kernel
theorem dL_ticks_201 : decode cL_ticks 201 = .ok (.astore 21, 2) := by decide +kernel
theorem dL_ticks_203 : decode cL_ticks 203 = .ok (.iconst 0, 1) := by decide +kernel
theorem dL_ticks_204 : decode cL_ticks 204 = .ok (.istore 22, 2) := by decide +kernel
theorem dL_ticks_206 : decode cL_ticks 206 = .ok (.iload 22, 2) := by decide +kernel
theorem dL_ticks_208 : decode cL_ticks 208 = .ok (.iload_n 2, 1) := by decide +kernel
theorem dL_ticks_209 : decode cL_ticks 209 = .ok (.if_icmp .ge 72, 3) := by decide +kernel
theorem dL_ticks_212 : decode cL_ticks 212 = .ok (.aload 21, 2) := by decide +kernel
theorem dL_ticks_214 : decode cL_ticks 214 = .ok (.iconst 4, 1) := by decide +kernel
theorem dL_ticks_215 : decode cL_ticks 215 = .ok (.iload 22, 2) := by decide +kernel
theorem dL_ticks_217 : decode cL_ticks 217 = .ok (.imul, 1) := by decide +kernel
theorem dL_ticks_218 : decode cL_ticks 218 = .ok (.aload_n 0, 1) := by decide +kernel
theorem dL_ticks_219 : decode cL_ticks 219 = .ok (.iload 22, 2) := by decide +kernel
theorem dL_ticks_221 : decode cL_ticks 221 = .ok (.iconst 2, 1) := by decide +kernel
theorem dL_ticks_222 : decode cL_ticks 222 = .ok (.invokestatic 151, 3) := by decide +kernel
theorem dL_ticks_225 : decode cL_ticks 225 = .ok (.iastore, 1) := by decide +kernel
theorem dL_ticks_226 : decode cL_ticks 226 = .ok (.aload 21, 2) := by decide +kernel
theorem dL_ticks_228 : decode cL_ticks 228 = .ok (.iconst 4, 1) := by decide +kernel
theorem dL_ticks_229 : decode cL_ticks 229 = .ok (.iload 22, 2) := by decide +kernel
theorem dL_ticks_231 : decode cL_ticks 231 = .ok (.imul, 1) := by decide +kernel
theorem dL_ticks_232 : decode cL_ticks 232 = .ok (.iconst 1, 1) := by decide +kernel
theorem dL_ticks_233 : decode cL_ticks 233 = .ok (.iadd, 1) := by decide +kernel
theorem dL_ticks_234 : decode cL_ticks 234 = .ok (.aload_n 0, 1) := by decide +kernel
theorem dL_ticks_235 : decode cL_ticks 235 = .ok (.iload 22, 2) := by decide +kernel
theorem dL_ticks_237 : decode cL_ticks 237 = .ok (.iconst 5, 1) := by decide +kernel
theorem dL_ticks_238 : decode cL_ticks 238 = .ok (.invokestatic 151, 3) := by decide +kernel
theorem dL_ticks_241 : decode cL_ticks 241 = .ok (.iastore, 1) := by decide +kernel
theorem dL_ticks_242 : decode cL_ticks 242 = .ok (.aload 21, 2) := by decide +kernel
theorem dL_ticks_244 : decode cL_ticks 244 = .ok (.iconst 4, 1) := by decide +kernel
theorem dL_ticks_245 : decode cL_ticks 245 = .ok (.iload 22, 2) := by decide +kernel
theorem dL_ticks_247 : decode cL_ticks 247 = .ok (.imul, 1) := by decide +kernel
theorem dL_ticks_248 : decode cL_ticks 248 = .ok (.iconst 2, 1) := by decide +kernel
theorem dL_ticks_249 : decode cL_ticks 249 = .ok (.iadd, 1) := by decide +kernel
theorem dL_ticks_250 : decode cL_ticks 250 = .ok (.aload_n 0, 1) := by decide +kernel
theorem dL_ticks_251 : decode cL_ticks 251 = .ok (.iload 22, 2) := by decide +kernel
theorem dL_ticks_253 : decode cL_ticks 253 = .ok (.iconst 4, 1) := by decide +kernel
theorem dL_ticks_254 : decode cL_ticks 254 = .ok (.invokestatic 151, 3) := by decide +kernel
theorem dL_ticks_257 : decode cL_ticks 257 = .ok (.iastore, 1) := by decide +kernel
theorem dL_ticks_258 : decode cL_ticks 258 = .ok (.aload 21, 2) := by decide +kernel
theorem dL_ticks_260 : decode cL_ticks 260 = .ok (.iconst 4, 1) := by decide +kernel
theorem dL_ticks_261 : decode cL_ticks 261 = .ok (.iload 22, 2) := by decide +kernel
theorem dL_ticks_263 : decode cL_ticks 263 = .ok (.imul, 1) := by decide +kernel
theorem dL_ticks_264 : decode cL_ticks 264 = .ok (.iconst 3, 1) := by decide +kernel
theorem dL_ticks_265 : decode cL_ticks 265 = .ok (.iadd, 1) := by decide +kernel
theorem dL_ticks_266 : decode cL_ticks 266 = .ok (.aload_n 0, 1) := by decide +kernel
theorem dL_ticks_267 : decode cL_ticks 267 = .ok (.iload 22, 2) := by decide +kernel
theorem dL_ticks_269 : decode cL_ticks 269 = .ok (.bipush 6, 2) := by decide +kernel
theorem dL_ticks_271 : decode cL_ticks 271 = .ok (.invokestatic 151, 3) := by decide +kernel
theorem dL_ticks_274 : decode cL_ticks 274 = .ok (.iastore, 1) := by decide +kernel
theorem dL_ticks_275 : decode cL_ticks 275 = .ok (.iinc 22 1, 3) := by decide +kernel
theorem dL_ticks_278 : decode cL_ticks 278 = .ok (.goto (-72), 3) := by decide +kernel
theorem dL_ticks_281 : decode cL_ticks 281 = .ok (.aload_n 0, 1) := by decide +kernel
theorem dL_ticks_282 : decode cL_ticks 282 = .ok (.iconst 1, 1) := by decide +kernel
theorem dL_ticks_283 : decode cL_ticks 283 = .ok (.iload 4, 2) := by decide +kernel
theorem dL_ticks_285 : decode cL_ticks 285 = .ok (.invokestatic 154, 3) := by decide +kernel
theorem dL_ticks_288 : decode cL_ticks 288 = .ok (.istore 22, 2) := by decide +kernel
theorem dL_ticks_290 : decode cL_ticks 290 = .ok (.iload 22, 2) := by decide +kernel
theorem dL_ticks_292 : decode cL_ticks 292 = .ok (.iload 10, 2) := by decide +kernel
theorem dL_ticks_294 : decode cL_ticks 294 = .ok (.if_icmp .ge 8, 3) := by decide +kernel
theorem dL_ticks_297 : decode cL_ticks 297 = .ok (.iload 22, 2) := by decide +kernel
theorem dL_ticks_299 : decode cL_ticks 299 = .ok (.goto 5, 3) := by decide +kernel
theorem dL_ticks_302 : decode cL_ticks 302 = .ok (.iload 10, 2) := by decide +kernel
theorem dL_ticks_304 : decode cL_ticks 304 = .ok (.istore 10, 2) := by decide +kernel
theorem dL_ticks_306 : decode cL_ticks 306 = .ok (.iconst 0, 1) := by decide +kernel
theorem dL_ticks_307 : decode cL_ticks 307 = .ok (.istore 23, 2) := by decide +kernel
theorem dL_ticks_309 : decode cL_ticks 309 = .ok (.iconst 0, 1) := by decide +kernel
theorem dL_ticks_310 : decode cL_ticks 310 = .ok (.istore 24, 2) := by decide +kernel
theorem dL_ticks_312 : decode cL_ticks 312 = .ok (.iconst 0, 1) := by decide +kernel
theorem dL_ticks_313 : decode cL_ticks 313 = .ok (.istore 25, 2) := by decide +kernel
theorem dL_ticks_315 : decode cL_ticks 315 = .ok (.iconst 0, 1) := by decide +kernel
theorem dL_ticks_316 : decode cL_ticks 316 = .ok (.istore 26, 2) := by decide +kernel
theorem dL_ticks_318 : decode cL_ticks 318 = .ok (.iload 26, 2) := by decide +kernel
theorem dL_ticks_320 : decode cL_ticks 320 = .ok (.iload_n 2, 1) := by decide +kernel
theorem dL_ticks_321 : decode cL_ticks 321 = .ok (.if_icmp .ge 367, 3) := by decide +kernel
theorem dL_ticks_324 : decode cL_ticks 324 = .ok (.iload 11, 2) := by decide +kernel
theorem dL_ticks_326 : decode cL_ticks 326 = .ok (.ifCond .eq 362, 3) := by decide +kernel
theorem dL_ticks_329 : decode cL_ticks 329 = .ok (.aload_n 0, 1) := by decide +kernel
theorem dL_ticks_330 : decode cL_ticks 330 = .ok (.iload 26, 2) := by decide +kernel
theorem dL_ticks_332 : decode cL_ticks 332 = .ok (.iconst 5, 1) := by decide +kernel
theorem dL_ticks_333 : decode cL_ticks 333 = .ok (.invokestatic 151, 3) := by decide +kernel
theorem dL_ticks_336 : decode cL_ticks 336 = .ok (.aload 21, 2) := by decide +kernel
theorem dL_ticks_338 : decode cL_ticks 338 = .ok (.iconst 4, 1) := by decide +kernel
theorem dL_ticks_339 : decode cL_ticks 339 = .ok (.iload 26, 2) := by decide +kernel
theorem dL_ticks_341 : decode cL_ticks 341 = .ok (.imul, 1) := by decide +kernel
theorem dL_ticks_342 : decode cL_ticks 342 = .ok (.iconst 1, 1) := by decide +kernel
theorem dL_ticks_343 : decode cL_ticks 343 = .ok (.iadd, 1) := by decide +kernel
theorem dL_ticks_344 : decode cL_ticks 344 = .ok (.iaload, 1) := by decide +kernel
theorem dL_ticks_345 : decode cL_ticks 345 = .ok (.iconst 1, 1) := by decide +kernel
theorem dL_ticks_346 : decode cL_ticks 346 = .ok (.iadd, 1) := by decide +kernel
theorem dL_ticks_347 : decode cL_ticks 347 = .ok (.if_icmp .ne 7, 3) := by decide +kernel
theorem dL_ticks_350 : decode cL_ticks 350 = .ok (.iconst 1, 1) := by decide +kernel
theorem dL_ticks_351 : decode cL_ticks 351 = .ok (.goto 4, 3) := by decide +kernel
theorem dL_ticks_354 : decode cL_ticks 354 = .ok (.iconst 0, 1) := by decide +kernel
theorem dL_ticks_355 : decode cL_ticks 355 = .ok (.istore 27, 2) := by decide +kernel
theorem dL_ticks_357 : decode cL_ticks 357 = .ok (.aload_n 0, 1) := by decide +kernel
theorem dL_ticks_358 : decode cL_ticks 358 = .ok (.iload 26, 2) := by decide +kernel
theorem dL_ticks_360 : decode cL_ticks 360 = .ok (.iconst 4, 1) := by decide +kernel
theorem dL_ticks_361 : decode cL_ticks 361 = .ok (.invokestatic 151, 3) := by decide +kernel
theorem dL_ticks_364 : decode cL_ticks 364 = .ok (.aload 21, 2) := by decide +kernel
theorem dL_ticks_366 : decode cL_ticks 366 = .ok (.iconst 4, 1) := by decide +kernel
theorem dL_ticks_367 : decode cL_ticks 367 = .ok (.iload 26, 2) := by decide +kernel
theorem dL_ticks_369 : decode cL_ticks 369 = .ok (.imul, 1) := by decide +kernel
theorem dL_ticks_370 : decode cL_ticks 370 = .ok (.iconst 2, 1) := by decide +kernel
theorem dL_ticks_371 : decode cL_ticks 371 = .ok (.iadd, 1) := by decide +kernel
theorem dL_ticks_372 : decode cL_ticks 372 = .ok (.iaload, 1) := by decide +kernel
theorem dL_ticks_373 : decode cL_ticks 373 = .ok (.iconst 1, 1) := by decide +kernel
theorem dL_ticks_374 : decode cL_ticks 374 = .ok (.iadd, 1) := by decide +kernel
theorem dL_ticks_375 : decode cL_ticks 375 = .ok (.if_icmp .ne 7, 3) := by decide +kernel
theorem dL_ticks_378 : decode cL_ticks 378 = .ok (.iconst 1, 1) := by decide +kernel
theorem dL_ticks_379 : decode cL_ticks 379 = .ok (.goto 4, 3) := by decide +kernel
theorem dL_ticks_382 : decode cL_ticks 382 = .ok (.iconst 0, 1) := by decide +kernel
theorem dL_ticks_383 : decode cL_ticks 383 = .ok (.istore 28, 2) := by decide +kernel
theorem dL_ticks_385 : decode cL_ticks 385 = .ok (.aload_n 0, 1) := by decide +kernel
theorem dL_ticks_386 : decode cL_ticks 386 = .ok (.iload 26, 2) := by decide +kernel
theorem dL_ticks_388 : decode cL_ticks 388 = .ok (.iconst 2, 1) := by decide +kernel
theorem dL_ticks_389 : decode cL_ticks 389 = .ok (.invokestatic 151, 3) := by decide +kernel
theorem dL_ticks_392 : decode cL_ticks 392 = .ok (.istore 29, 2) := by decide +kernel
theorem dL_ticks_394 : decode cL_ticks 394 = .ok (.iload 23, 2) := by decide +kernel
theorem dL_ticks_396 : decode cL_ticks 396 = .ok (.iload 27, 2) := by decide +kernel
theorem dL_ticks_398 : decode cL_ticks 398 = .ok (.ifCond .eq 7, 3) := by decide +kernel
theorem dL_ticks_401 : decode cL_ticks 401 = .ok (.iconst 1, 1) := by decide +kernel
theorem dL_ticks_402 : decode cL_ticks 402 = .ok (.goto 4, 3) := by decide +kernel
theorem dL_ticks_405 : decode cL_ticks 405 = .ok (.iconst 0, 1) := by decide +kernel
theorem dL_ticks_406 : decode cL_ticks 406 = .ok (.iadd, 1) := by decide +kernel
theorem dL_ticks_407 : decode cL_ticks 407 = .ok (.istore 23, 2) := by decide +kernel
theorem dL_ticks_409 : decode cL_ticks 409 = .ok (.iload 24, 2) := by decide +kernel
theorem dL_ticks_411 : decode cL_ticks 411 = .ok (.aload 21, 2) := by decide +kernel
theorem dL_ticks_413 : decode cL_ticks 413 = .ok (.iconst 4, 1) := by decide +kernel
theorem dL_ticks_414 : decode cL_ticks 414 = .ok (.iload 26, 2) := by decide +kernel
theorem dL_ticks_416 : decode cL_ticks 416 = .ok (.imul, 1) := by decide +kernel
theorem dL_ticks_417 : decode cL_ticks 417 = .ok (.iaload, 1) := by decide +kernel
theorem dL_ticks_418 : decode cL_ticks 418 = .ok (.iconst 2, 1) := by decide +kernel
theorem dL_ticks_419 : decode cL_ticks 419 = .ok (.if_icmp .ne 13, 3) := by decide +kernel
theorem dL_ticks_422 : decode cL_ticks 422 = .ok (.iload 29, 2) := by decide +kernel
theorem dL_ticks_424 : decode cL_ticks 424 = .ok (.iconst 3, 1) := by decide +kernel
theorem dL_ticks_425 : decode cL_ticks 425 = .ok (.if_icmp .ne 7, 3) := by decide +kernel
theorem dL_ticks_428 : decode cL_ticks 428 = .ok (.iconst 1, 1) := by decide +kernel
theorem dL_ticks_429 : decode cL_ticks 429 = .ok (.goto 4, 3) := by decide +kernel
theorem dL_ticks_432 : decode cL_ticks 432 = .ok (.iconst 0, 1) := by decide +kernel
theorem dL_ticks_433 : decode cL_ticks 433 = .ok (.iadd, 1) := by decide +kernel
theorem dL_ticks_434 : decode cL_ticks 434 = .ok (.istore 24, 2) := by decide +kernel
theorem dL_ticks_436 : decode cL_ticks 436 = .ok (.iload 25, 2) := by decide +kernel
theorem dL_ticks_438 : decode cL_ticks 438 = .ok (.iload 28, 2) := by decide +kernel
theorem dL_ticks_440 : decode cL_ticks 440 = .ok (.ifCond .eq 13, 3) := by decide +kernel
theorem dL_ticks_443 : decode cL_ticks 443 = .ok (.aload_n 0, 1) := by decide +kernel
theorem dL_ticks_444 : decode cL_ticks 444 = .ok (.iload 26, 2) := by decide +kernel
theorem dL_ticks_446 : decode cL_ticks 446 = .ok (.iconst 0, 1) := by decide +kernel
theorem dL_ticks_447 : decode cL_ticks 447 = .ok (.invokestatic 151, 3) := by decide +kernel
theorem dL_ticks_450 : decode cL_ticks 450 = .ok (.goto 4, 3) := by decide +kernel
theorem dL_ticks_453 : decode cL_ticks 453 = .ok (.iconst 0, 1) := by decide +kernel
theorem dL_ticks_454 : decode cL_ticks 454 = .ok (.iadd, 1) := by decide +kernel
theorem dL_ticks_455 : decode cL_ticks 455 = .ok (.istore 25, 2) := by decide +kernel
theorem dL_ticks_457 : decode cL_ticks 457 = .ok (.iload 8, 2) := by decide +kernel
theorem dL_ticks_459 : decode cL_ticks 459 = .ok (.iload 27, 2) := by decide +kernel
theorem dL_ticks_461 : decode cL_ticks 461 = .ok (.ifCond .eq 7, 3) := by decide +kernel
theorem dL_ticks_464 : decode cL_ticks 464 = .ok (.iconst 1, 1) := by decide +kernel
theorem dL_ticks_465 : decode cL_ticks 465 = .ok (.goto 4, 3) := by decide +kernel
theorem dL_ticks_468 : decode cL_ticks 468 = .ok (.iconst 0, 1) := by decide +kernel
theorem dL_ticks_469 : decode cL_ticks 469 = .ok (.isub, 1) := by decide +kernel
theorem dL_ticks_470 : decode cL_ticks 470 = .ok (.istore 8, 2) := by decide +kernel
theorem dL_ticks_472 : decode cL_ticks 472 = .ok (.iload 27, 2) := by decide +kernel
theorem dL_ticks_474 : decode cL_ticks 474 = .ok (.ifCond .ne 22, 3) := by decide +kernel
theorem dL_ticks_477 : decode cL_ticks 477 = .ok (.aload_n 0, 1) := by decide +kernel
theorem dL_ticks_478 : decode cL_ticks 478 = .ok (.iload 26, 2) := by decide +kernel
theorem dL_ticks_480 : decode cL_ticks 480 = .ok (.iconst 5, 1) := by decide +kernel
theorem dL_ticks_481 : decode cL_ticks 481 = .ok (.invokestatic 151, 3) := by decide +kernel
theorem dL_ticks_484 : decode cL_ticks 484 = .ok (.aload 21, 2) := by decide +kernel
theorem dL_ticks_486 : decode cL_ticks 486 = .ok (.iconst 4, 1) := by decide +kernel
theorem dL_ticks_487 : decode cL_ticks 487 = .ok (.iload 26, 2) := by decide +kernel
theorem dL_ticks_489 : decode cL_ticks 489 = .ok (.imul, 1) := by decide +kernel
theorem dL_ticks_490 : decode cL_ticks 490 = .ok (.iconst 1, 1) := by decide +kernel
theorem dL_ticks_491 : decode cL_ticks 491 = .ok (.iadd, 1) := by decide +kernel
theorem dL_ticks_492 : decode cL_ticks 492 = .ok (.iaload, 1) := by decide +kernel
theorem dL_ticks_493 : decode cL_ticks 493 = .ok (.if_icmp .ne 186, 3) := by decide +kernel
theorem dL_ticks_496 : decode cL_ticks 496 = .ok (.iload 28, 2) := by decide +kernel
theorem dL_ticks_498 : decode cL_ticks 498 = .ok (.ifCond .ne 22, 3) := by decide +kernel
theorem dL_ticks_501 : decode cL_ticks 501 = .ok (.aload_n 0, 1) := by decide +kernel
theorem dL_ticks_502 : decode cL_ticks 502 = .ok (.iload 26, 2) := by decide +kernel
theorem dL_ticks_504 : decode cL_ticks 504 = .ok (.iconst 4, 1) := by decide +kernel
theorem dL_ticks_505 : decode cL_ticks 505 = .ok (.invokestatic 151, 3) := by decide +kernel
theorem dL_ticks_508 : decode cL_ticks 508 = .ok (.aload 21, 2) := by decide +kernel
theorem dL_ticks_510 : decode cL_ticks 510 = .ok (.iconst 4, 1) := by decide +kernel
theorem dL_ticks_511 : decode cL_ticks 511 = .ok (.iload 26, 2) := by decide +kernel
theorem dL_ticks_513 : decode cL_ticks 513 = .ok (.imul, 1) := by decide +kernel
theorem dL_ticks_514 : decode cL_ticks 514 = .ok (.iconst 2, 1) := by decide +kernel
theorem dL_ticks_515 : decode cL_ticks 515 = .ok (.iadd, 1) := by decide +kernel
theorem dL_ticks_516 : decode cL_ticks 516 = .ok (.iaload, 1) := by decide +kernel
theorem dL_ticks_517 : decode cL_ticks 517 = .ok (.if_icmp .ne 162, 3) := by decide +kernel
theorem dL_ticks_520 : decode cL_ticks 520 = .ok (.iload 28, 2) := by decide +kernel
theorem dL_ticks_522 : decode cL_ticks 522 = .ok (.aload 21, 2) := by decide +kernel
theorem dL_ticks_524 : decode cL_ticks 524 = .ok (.iconst 4, 1) := by decide +kernel
theorem dL_ticks_525 : decode cL_ticks 525 = .ok (.iload 26, 2) := by decide +kernel
theorem dL_ticks_527 : decode cL_ticks 527 = .ok (.imul, 1) := by decide +kernel
theorem dL_ticks_528 : decode cL_ticks 528 = .ok (.iaload, 1) := by decide +kernel
theorem dL_ticks_529 : decode cL_ticks 529 = .ok (.iconst 2, 1) := by decide +kernel
theorem dL_ticks_530 : decode cL_ticks 530 = .ok (.if_icmp .ne 9, 3) := by decide +kernel
theorem dL_ticks_533 : decode cL_ticks 533 = .ok (.iload 29, 2) := by decide +kernel
theorem dL_ticks_535 : decode cL_ticks 535 = .ok (.iconst 2, 1) := by decide +kernel
theorem dL_ticks_536 : decode cL_ticks 536 = .ok (.if_icmp .eq 19, 3) := by decide +kernel
theorem dL_ticks_539 : decode cL_ticks 539 = .ok (.aload 21, 2) := by decide +kernel
theorem dL_ticks_541 : decode cL_ticks 541 = .ok (.iconst 4, 1) := by decide +kernel
theorem dL_ticks_542 : decode cL_ticks 542 = .ok (.iload 26, 2) := by decide +kernel
theorem dL_ticks_544 : decode cL_ticks 544 = .ok (.imul, 1) := by decide +kernel
theorem dL_ticks_545 : decode cL_ticks 545 = .ok (.iaload, 1) := by decide +kernel
theorem dL_ticks_546 : decode cL_ticks 546 = .ok (.iconst 3, 1) := by decide +kernel
theorem dL_ticks_547 : decode cL_ticks 547 = .ok (.if_icmp .ne 12, 3) := by decide +kernel
theorem dL_ticks_550 : decode cL_ticks 550 = .ok (.iload 27, 2) := by decide +kernel
theorem dL_ticks_552 : decode cL_ticks 552 = .ok (.ifCond .eq 7, 3) := by decide +kernel
theorem dL_ticks_555 : decode cL_ticks 555 = .ok (.iconst 1, 1) := by decide +kernel
theorem dL_ticks_556 : decode cL_ticks 556 = .ok (.goto 4, 3) := by decide +kernel
theorem dL_ticks_559 : decode cL_ticks 559 = .ok (.iconst 0, 1) := by decide +kernel
theorem dL_ticks_560 : decode cL_ticks 560 = .ok (.if_icmp .ne 119, 3) := by decide +kernel
theorem dL_ticks_563 : decode cL_ticks 563 = .ok (.aload_n 0, 1) := by decide +kernel
theorem dL_ticks_564 : decode cL_ticks 564 = .ok (.iload 26, 2) := by decide +kernel
theorem dL_ticks_566 : decode cL_ticks 566 = .ok (.bipush 6, 2) := by decide +kernel
theorem dL_ticks_568 : decode cL_ticks 568 = .ok (.invokestatic 151, 3) := by decide +kernel
theorem dL_ticks_571 : decode cL_ticks 571 = .ok (.aload 21, 2) := by decide +kernel
theorem dL_ticks_573 : decode cL_ticks 573 = .ok (.iconst 4, 1) := by decide +kernel
theorem dL_ticks_574 : decode cL_ticks 574 = .ok (.iload 26, 2) := by decide +kernel
theorem dL_ticks_576 : decode cL_ticks 576 = .ok (.imul, 1) := by decide +kernel
theorem dL_ticks_577 : decode cL_ticks 577 = .ok (.iconst 3, 1) := by decide +kernel
theorem dL_ticks_578 : decode cL_ticks 578 = .ok (.iadd, 1) := by decide +kernel
theorem dL_ticks_579 : decode cL_ticks 579 = .ok (.iaload, 1) := by decide +kernel
theorem dL_ticks_580 : decode cL_ticks 580 = .ok (.isub, 1) := by decide +kernel
theorem dL_ticks_581 : decode cL_ticks 581 = .ok (.iload 28, 2) := by decide +kernel
theorem dL_ticks_583 : decode cL_ticks 583 = .ok (.ifCond .eq 13, 3) := by decide +kernel
theorem dL_ticks_586 : decode cL_ticks 586 = .ok (.aload_n 0, 1) := by decide +kernel
theorem dL_ticks_587 : decode cL_ticks 587 = .ok (.iload 26, 2) := by decide +kernel
theorem dL_ticks_589 : decode cL_ticks 589 = .ok (.iconst 0, 1) := by decide +kernel
theorem dL_ticks_590 : decode cL_ticks 590 = .ok (.invokestatic 151, 3) := by decide +kernel
theorem dL_ticks_593 : decode cL_ticks 593 = .ok (.goto 14, 3) := by decide +kernel
theorem dL_ticks_596 : decode cL_ticks 596 = .ok (.iload 29, 2) := by decide +kernel
theorem dL_ticks_598 : decode cL_ticks 598 = .ok (.iconst 3, 1) := by decide +kernel
theorem dL_ticks_599 : decode cL_ticks 599 = .ok (.if_icmp .ne 7, 3) := by decide +kernel
theorem dL_ticks_602 : decode cL_ticks 602 = .ok (.iconst 1, 1) := by decide +kernel
theorem dL_ticks_603 : decode cL_ticks 603 = .ok (.goto 4, 3) := by decide +kernel
theorem dL_ticks_606 : decode cL_ticks 606 = .ok (.iconst 0, 1) := by decide +kernel
theorem dL_ticks_607 : decode cL_ticks 607 = .ok (.if_icmp .ne 72, 3) := by decide +kernel
theorem dL_ticks_610 : decode cL_ticks 610 = .ok (.iload 27, 2) := by decide +kernel
theorem dL_ticks_612 : decode cL_ticks 612 = .ok (.ifCond .eq 24, 3) := by decide +kernel
theorem dL_ticks_615 : decode cL_ticks 615 = .ok (.aload 21, 2) := by decide +kernel
theorem dL_ticks_617 : decode cL_ticks 617 = .ok (.iconst 4, 1) := by decide +kernel
theorem dL_ticks_618 : decode cL_ticks 618 = .ok (.iload 26, 2) := by decide +kernel
theorem dL_ticks_620 : decode cL_ticks 620 = .ok (.imul, 1) := by decide +kernel
theorem dL_ticks_621 : decode cL_ticks 621 = .ok (.iaload, 1) := by decide +kernel
theorem dL_ticks_622 : decode cL_ticks 622 = .ok (.ifCond .eq 14, 3) := by decide +kernel
theorem dL_ticks_625 : decode cL_ticks 625 = .ok (.aload 21, 2) := by decide +kernel
theorem dL_ticks_627 : decode cL_ticks 627 = .ok (.iconst 4, 1) := by decide +kernel
theorem dL_ticks_628 : decode cL_ticks 628 = .ok (.iload 26, 2) := by decide +kernel
theorem dL_ticks_630 : decode cL_ticks 630 = .ok (.imul, 1) := by decide +kernel
theorem dL_ticks_631 : decode cL_ticks 631 = .ok (.iaload, 1) := by decide +kernel
theorem dL_ticks_632 : decode cL_ticks 632 = .ok (.iconst 3, 1) := by decide +kernel
theorem dL_ticks_633 : decode cL_ticks 633 = .ok (.if_icmp .ne 46, 3) := by decide +kernel
theorem dL_ticks_636 : decode cL_ticks 636 = .ok (.aload 21, 2) := by decide +kernel
theorem dL_ticks_638 : decode cL_ticks 638 = .ok (.iconst 4, 1) := by decide +kernel
theorem dL_ticks_639 : decode cL_ticks 639 = .ok (.iload 26, 2) := by decide +kernel
theorem dL_ticks_641 : decode cL_ticks 641 = .ok (.imul, 1) := by decide +kernel
theorem dL_ticks_642 : decode cL_ticks 642 = .ok (.iaload, 1) := by decide +kernel
theorem dL_ticks_643 : decode cL_ticks 643 = .ok (.iconst 4, 1) := by decide +kernel
theorem dL_ticks_644 : decode cL_ticks 644 = .ok (.if_icmp .ne 9, 3) := by decide +kernel
theorem dL_ticks_647 : decode cL_ticks 647 = .ok (.iload 29, 2) := by decide +kernel
theorem dL_ticks_649 : decode cL_ticks 649 = .ok (.iconst 4, 1) := by decide +kernel
theorem dL_ticks_650 : decode cL_ticks 650 = .ok (.if_icmp .ne 29, 3) := by decide +kernel
theorem dL_ticks_653 : decode cL_ticks 653 = .ok (.aload 21, 2) := by decide +kernel
theorem dL_ticks_655 : decode cL_ticks 655 = .ok (.iconst 4, 1) := by decide +kernel
theorem dL_ticks_656 : decode cL_ticks 656 = .ok (.iload 26, 2) := by decide +kernel
theorem dL_ticks_658 : decode cL_ticks 658 = .ok (.imul, 1) := by decide +kernel
theorem dL_ticks_659 : decode cL_ticks 659 = .ok (.iaload, 1) := by decide +kernel
theorem dL_ticks_660 : decode cL_ticks 660 = .ok (.iconst 3, 1) := by decide +kernel
theorem dL_ticks_661 : decode cL_ticks 661 = .ok (.if_icmp .ne 14, 3) := by decide +kernel
theorem dL_ticks_664 : decode cL_ticks 664 = .ok (.iload 27, 2) := by decide +kernel
theorem dL_ticks_666 : decode cL_ticks 666 = .ok (.ifCond .ne 9, 3) := by decide +kernel
theorem dL_ticks_669 : decode cL_ticks 669 = .ok (.iload 29, 2) := by decide +kernel
theorem dL_ticks_671 : decode cL_ticks 671 = .ok (.iconst 3, 1) := by decide +kernel
theorem dL_ticks_672 : decode cL_ticks 672 = .ok (.if_icmp .ne 7, 3) := by decide +kernel
theorem dL_ticks_675 : decode cL_ticks 675 = .ok (.iconst 1, 1) := by decide +kernel
theorem dL_ticks_676 : decode cL_ticks 676 = .ok (.goto 4, 3) := by decide +kernel
theorem dL_ticks_679 : decode cL_ticks 679 = .ok (.iconst 0, 1) := by decide +kernel
theorem dL_ticks_680 : decode cL_ticks 680 = .ok (.istore 11, 2) := by decide +kernel
theorem dL_ticks_682 : decode cL_ticks 682 = .ok (.iinc 26 1, 3) := by decide +kernel
theorem dL_ticks_685 : decode cL_ticks 685 = .ok (.goto (-367), 3) := by decide +kernel
theorem dL_ticks_688 : decode cL_ticks 688 = .ok (.aload_n 0, 1) := by decide +kernel
theorem dL_ticks_689 : decode cL_ticks 689 = .ok (.bipush 10, 2) := by decide +kernel
theorem dL_ticks_691 : decode cL_ticks 691 = .ok (.invokestatic 129, 3) := by decide +kernel
theorem dL_ticks_694 : decode cL_ticks 694 = .ok (.istore 26, 2) := by decide +kernel
theorem dL_ticks_696 : decode cL_ticks 696 = .ok (.aload_n 0, 1) := by decide +kernel
theorem dL_ticks_697 : decode cL_ticks 697 = .ok (.bipush 11, 2) := by decide +kernel
theorem dL_ticks_699 : decode cL_ticks 699 = .ok (.invokestatic 129, 3) := by decide +kernel
theorem dL_ticks_702 : decode cL_ticks 702 = .ok (.iconst 1, 1) := by decide +kernel
theorem dL_ticks_703 : decode cL_ticks 703 = .ok (.if_icmp .ne 7, 3) := by decide +kernel
theorem dL_ticks_706 : decode cL_ticks 706 = .ok (.iconst 1, 1) := by decide +kernel
theorem dL_ticks_707 : decode cL_ticks 707 = .ok (.goto 4, 3) := by decide +kernel
theorem dL_ticks_710 : decode cL_ticks 710 = .ok (.iconst 0, 1) := by decide +kernel
theorem dL_ticks_711 : decode cL_ticks 711 = .ok (.istore 27, 2) := by decide +kernel
theorem dL_ticks_713 : decode cL_ticks 713 = .ok (.aload_n 0, 1) := by decide +kernel
theorem dL_ticks_714 : decode cL_ticks 714 = .ok (.bipush 14, 2) := by decide +kernel
theorem dL_ticks_716 : decode cL_ticks 716 = .ok (.invokestatic 129, 3) := by decide +kernel
theorem dL_ticks_719 : decode cL_ticks 719 = .ok (.aload_n 0, 1) := by decide +kernel
theorem dL_ticks_720 : decode cL_ticks 720 = .ok (.bipush 15, 2) := by decide +kernel
theorem dL_ticks_722 : decode cL_ticks 722 = .ok (.invokestatic 129, 3) := by decide +kernel
theorem dL_ticks_725 : decode cL_ticks 725 = .ok (.iadd, 1) := by decide +kernel
theorem dL_ticks_726 : decode cL_ticks 726 = .ok (.iload 20, 2) := by decide +kernel
theorem dL_ticks_728 : decode cL_ticks 728 = .ok (.isub, 1) := by decide +kernel
theorem dL_ticks_729 : decode cL_ticks 729 = .ok (.istore 28, 2) := by decide +kernel
theorem dL_ticks_731 : decode cL_ticks 731 = .ok (.iload 11, 2) := by decide +kernel
theorem dL_ticks_733 : decode cL_ticks 733 = .ok (.ifCond .eq 166, 3) := by decide +kernel
theorem dL_ticks_736 : decode cL_ticks 736 = .ok (.iload 23, 2) := by decide +kernel
theorem dL_ticks_738 : decode cL_ticks 738 = .ok (.iconst 1, 1) := by decide +kernel
theorem dL_ticks_739 : decode cL_ticks 739 = .ok (.if_icmp .gt 160, 3) := by decide +kernel
theorem dL_ticks_742 : decode cL_ticks 742 = .ok (.iload 24, 2) := by decide +kernel
theorem dL_ticks_744 : decode cL_ticks 744 = .ok (.iconst 1, 1) := by decide +kernel
theorem dL_ticks_745 : decode cL_ticks 745 = .ok (.if_icmp .gt 154, 3) := by decide +kernel
theorem dL_ticks_748 : decode cL_ticks 748 = .ok (.iload 23, 2) := by decide +kernel
theorem dL_ticks_750 : decode cL_ticks 750 = .ok (.iload 24, 2) := by decide +kernel
theorem dL_ticks_752 : decode cL_ticks 752 = .ok (.iadd, 1) := by decide +kernel
theorem dL_ticks_753 : decode cL_ticks 753 = .ok (.iconst 1, 1) := by decide +kernel
theorem dL_ticks_754 : decode cL_ticks 754 = .ok (.if_icmp .gt 145, 3) := by decide +kernel
theorem dL_ticks_757 : decode cL_ticks 757 = .ok (.iload 26, 2) := by decide +kernel
theorem dL_ticks_759 : decode cL_ticks 759 = .ok (.ifCond .eq 11, 3) := by decide +kernel
theorem dL_ticks_762 : decode cL_ticks 762 = .ok (.iload 23, 2) := by decide +kernel
theorem dL_ticks_764 : decode cL_ticks 764 = .ok (.iload 24, 2) := by decide +kernel
theorem dL_ticks_766 : decode cL_ticks 766 = .ok (.iadd, 1) := by decide +kernel
theorem dL_ticks_767 : decode cL_ticks 767 = .ok (.ifCond .ne 132, 3) := by decide +kernel
theorem dL_ticks_770 : decode cL_ticks 770 = .ok (.aload_n 0, 1) := by decide +kernel
theorem dL_ticks_771 : decode cL_ticks 771 = .ok (.iconst 0, 1) := by decide +kernel
theorem dL_ticks_772 : decode cL_ticks 772 = .ok (.invokestatic 148, 3) := by decide +kernel
theorem dL_ticks_775 : decode cL_ticks 775 = .ok (.iload 17, 2) := by decide +kernel
theorem dL_ticks_777 : decode cL_ticks 777 = .ok (.iload 25, 2) := by decide +kernel
theorem dL_ticks_779 : decode cL_ticks 779 = .ok (.iadd, 1) := by decide +kernel
theorem dL_ticks_780 : decode cL_ticks 780 = .ok (.if_icmp .ne 119, 3) := by decide +kernel
theorem dL_ticks_783 : decode cL_ticks 783 = .ok (.aload_n 0, 1) := by decide +kernel
theorem dL_ticks_784 : decode cL_ticks 784 = .ok (.invokestatic 211, 3) := by decide +kernel
theorem dL_ticks_787 : decode cL_ticks 787 = .ok (.iload 13, 2) := by decide +kernel
theorem dL_ticks_789 : decode cL_ticks 789 = .ok (.iload 25, 2) := by decide +kernel
theorem dL_ticks_791 : decode cL_ticks 791 = .ok (.iadd, 1) := by decide +kernel
theorem dL_ticks_792 : decode cL_ticks 792 = .ok (.aload_n 0, 1) := by decide +kernel
theorem dL_ticks_793 : decode cL_ticks 793 = .ok (.iconst 1, 1) := by decide +kernel
theorem dL_ticks_794 : decode cL_ticks 794 = .ok (.invokestatic 148, 3) := by decide +kernel
theorem dL_ticks_797 : decode cL_ticks 797 = .ok (.iadd, 1) := by decide +kernel
theorem dL_ticks_798 : decode cL_ticks 798 = .ok (.iload 14, 2) := by decide +kernel
theorem dL_ticks_800 : decode cL_ticks 800 = .ok (.isub, 1) := by decide +kernel
theorem dL_ticks_801 : decode cL_ticks 801 = .ok (.aload_n 0, 1) := by decide +kernel
theorem dL_ticks_802 : decode cL_ticks 802 = .ok (.iconst 2, 1) := by decide +kernel
theorem dL_ticks_803 : decode cL_ticks 803 = .ok (.invokestatic 148, 3) := by decide +kernel
theorem dL_ticks_806 : decode cL_ticks 806 = .ok (.isub, 1) := by decide +kernel
theorem dL_ticks_807 : decode cL_ticks 807 = .ok (.iload 15, 2) := by decide +kernel
theorem dL_ticks_809 : decode cL_ticks 809 = .ok (.iadd, 1) := by decide +kernel
theorem dL_ticks_810 : decode cL_ticks 810 = .ok (.aload_n 0, 1) := by decide +kernel
theorem dL_ticks_811 : decode cL_ticks 811 = .ok (.iconst 3, 1) := by decide +kernel
theorem dL_ticks_812 : decode cL_ticks 812 = .ok (.invokestatic 148, 3) := by decide +kernel
theorem dL_ticks_815 : decode cL_ticks 815 = .ok (.isub, 1) := by decide +kernel
theorem dL_ticks_816 : decode cL_ticks 816 = .ok (.iload 16, 2) := by decide +kernel
theorem dL_ticks_818 : decode cL_ticks 818 = .ok (.iadd, 1) := by decide +kernel
theorem dL_ticks_819 : decode cL_ticks 819 = .ok (.if_icmp .ne 80, 3) := by decide +kernel
theorem dL_ticks_822 : decode cL_ticks 822 = .ok (.aload_n 0, 1) := by decide +kernel
theorem dL_ticks_823 : decode cL_ticks 823 = .ok (.iconst 1, 1) := by decide +kernel
theorem dL_ticks_824 : decode cL_ticks 824 = .ok (.invokestatic 148, 3) := by decide +kernel
theorem dL_ticks_827 : decode cL_ticks 827 = .ok (.iload 14, 2) := by decide +kernel
theorem dL_ticks_829 : decode cL_ticks 829 = .ok (.bipush 10, 2) := by decide +kernel
theorem dL_ticks_831 : decode cL_ticks 831 = .ok (.iload 4, 2) := by decide +kernel
theorem dL_ticks_833 : decode cL_ticks 833 = .ok (.imul, 1) := by decide +kernel
theorem dL_ticks_834 : decode cL_ticks 834 = .ok (.iadd, 1) := by decide +kernel
theorem dL_ticks_835 : decode cL_ticks 835 = .ok (.if_icmp .ne 64, 3) := by decide +kernel
theorem dL_ticks_838 : decode cL_ticks 838 = .ok (.iload 27, 2) := by decide +kernel
theorem dL_ticks_840 : decode cL_ticks 840 = .ok (.iload 19, 2) := by decide +kernel
theorem dL_ticks_842 : decode cL_ticks 842 = .ok (.ifCond .ne 8, 3) := by decide +kernel
theorem dL_ticks_845 : decode cL_ticks 845 = .ok (.iload 18, 2) := by decide +kernel
theorem dL_ticks_847 : decode cL_ticks 847 = .ok (.ifCond .eq 12, 3) := by decide +kernel
theorem dL_ticks_850 : decode cL_ticks 850 = .ok (.iload 28, 2) := by decide +kernel
theorem dL_ticks_852 : decode cL_ticks 852 = .ok (.ifCond .ne 7, 3) := by decide +kernel
theorem dL_ticks_855 : decode cL_ticks 855 = .ok (.iconst 1, 1) := by decide +kernel
theorem dL_ticks_856 : decode cL_ticks 856 = .ok (.goto 4, 3) := by decide +kernel
theorem dL_ticks_859 : decode cL_ticks 859 = .ok (.iconst 0, 1) := by decide +kernel
theorem dL_ticks_860 : decode cL_ticks 860 = .ok (.if_icmp .ne 39, 3) := by decide +kernel
theorem dL_ticks_863 : decode cL_ticks 863 = .ok (.iload 28, 2) := by decide +kernel
theorem dL_ticks_865 : decode cL_ticks 865 = .ok (.ifCond .lt 34, 3) := by decide +kernel
theorem dL_ticks_868 : decode cL_ticks 868 = .ok (.iload 28, 2) := by decide +kernel
theorem dL_ticks_870 : decode cL_ticks 870 = .ok (.iload 19, 2) := by decide +kernel
theorem dL_ticks_872 : decode cL_ticks 872 = .ok (.ifCond .ne 8, 3) := by decide +kernel
theorem dL_ticks_875 : decode cL_ticks 875 = .ok (.iload 18, 2) := by decide +kernel
theorem dL_ticks_877 : decode cL_ticks 877 = .ok (.ifCond .eq 7, 3) := by decide +kernel
theorem dL_ticks_880 : decode cL_ticks 880 = .ok (.iconst 1, 1) := by decide +kernel
theorem dL_ticks_881 : decode cL_ticks 881 = .ok (.goto 4, 3) := by decide +kernel
theorem dL_ticks_884 : decode cL_ticks 884 = .ok (.iconst 0, 1) := by decide +kernel
theorem dL_ticks_885 : decode cL_ticks 885 = .ok (.if_icmp .gt 14, 3) := by decide +kernel
theorem dL_ticks_888 : decode cL_ticks 888 = .ok (.aload_n 0, 1) := by decide +kernel
theorem dL_ticks_889 : decode cL_ticks 889 = .ok (.invokestatic 214, 3) := by decide +kernel
theorem dL_ticks_892 : decode cL_ticks 892 = .ok (.ifCond .eq 7, 3) := by decide +kernel
theorem dL_ticks_895 : decode cL_ticks 895 = .ok (.iconst 1, 1) := by decide +kernel
theorem dL_ticks_896 : decode cL_ticks 896 = .ok (.goto 4, 3) := by decide +kernel
theorem dL_ticks_899 : decode cL_ticks 899 = .ok (.iconst 0, 1) := by decide +kernel
theorem dL_ticks_900 : decode cL_ticks 900 = .ok (.istore 11, 2) := by decide +kernel
theorem dL_ticks_902 : decode cL_ticks 902 = .ok (.iconst 1, 1) := by decide +kernel
theorem dL_ticks_903 : decode cL_ticks 903 = .ok (.istore 29, 2) := by decide +kernel
theorem dL_ticks_905 : decode cL_ticks 905 = .ok (.iload 29, 2) := by decide +kernel
theorem dL_ticks_907 : decode cL_ticks 907 = .ok (.aload_n 0, 1) := by decide +kernel
theorem dL_ticks_908 : decode cL_ticks 908 = .ok (.bipush 7, 2) := by decide +kernel
theorem dL_ticks_910 : decode cL_ticks 910 = .ok (.invokestatic 129, 3) := by decide +kernel
theorem dL_ticks_913 : decode cL_ticks 913 = .ok (.if_icmp .ge 38, 3) := by decide +kernel
theorem dL_ticks_916 : decode cL_ticks 916 = .ok (.iload 11, 2) := by decide +kernel
theorem dL_ticks_918 : decode cL_ticks 918 = .ok (.ifCond .eq 33, 3) := by decide +kernel
theorem dL_ticks_921 : decode cL_ticks 921 = .ok (.aload_n 0, 1) := by decide +kernel
theorem dL_ticks_922 : decode cL_ticks 922 = .ok (.iload 29, 2) := by decide +kernel
theorem dL_ticks_924 : decode cL_ticks 924 = .ok (.iconst 1, 1) := by decide +kernel
theorem dL_ticks_925 : decode cL_ticks 925 = .ok (.isub, 1) := by decide +kernel
theorem dL_ticks_926 : decode cL_ticks 926 = .ok (.invokestatic 132, 3) := by decide +kernel
theorem dL_ticks_929 : decode cL_ticks 929 = .ok (.aload_n 0, 1) := by decide +kernel
theorem dL_ticks_930 : decode cL_ticks 930 = .ok (.iload 29, 2) := by decide +kernel
theorem dL_ticks_932 : decode cL_ticks 932 = .ok (.invokestatic 132, 3) := by decide +kernel
theorem dL_ticks_935 : decode cL_ticks 935 = .ok (.if_icmp .gt 7, 3) := by decide +kernel
theorem dL_ticks_938 : decode cL_ticks 938 = .ok (.iconst 1, 1) := by decide +kernel
theorem dL_ticks_939 : decode cL_ticks 939 = .ok (.goto 4, 3) := by decide +kernel
theorem dL_ticks_942 : decode cL_ticks 942 = .ok (.iconst 0, 1) := by decide +kernel
theorem dL_ticks_943 : decode cL_ticks 943 = .ok (.istore 11, 2) := by decide +kernel
theorem dL_ticks_945 : decode cL_ticks 945 = .ok (.iinc 29 1, 3) := by decide +kernel
theorem dL_ticks_948 : decode cL_ticks 948 = .ok (.goto (-43), 3) := by decide +kernel
theorem dL_ticks_951 : decode cL_ticks 951 = .ok (.iinc 12 1, 3) := by decide +kernel
theorem dL_ticks_954 : decode cL_ticks 954 = .ok (.goto (-858), 3) := by decide +kernel
theorem dL_ticks_957 : decode cL_ticks 957 = .ok (.iload 11, 2) := by decide +kernel
theorem dL_ticks_959 : decode cL_ticks 959 = .ok (.ifCond .eq 51, 3) := by decide +kernel
theorem dL_ticks_962 : decode cL_ticks 962 = .ok (.aload_n 0, 1) := by decide +kernel
theorem dL_ticks_963 : decode cL_ticks 963 = .ok (.bipush 9, 2) := by decide +kernel
theorem dL_ticks_965 : decode cL_ticks 965 = .ok (.invokestatic 129, 3) := by decide +kernel
theorem dL_ticks_968 : decode cL_ticks 968 = .ok (.iload 5, 2) := by decide +kernel
theorem dL_ticks_970 : decode cL_ticks 970 = .ok (.if_icmp .ne 40, 3) := by decide +kernel
theorem dL_ticks_973 : decode cL_ticks 973 = .ok (.iload 10, 2) := by decide +kernel
theorem dL_ticks_975 : decode cL_ticks 975 = .ok (.iload 6, 2) := by decide +kernel
theorem dL_ticks_977 : decode cL_ticks 977 = .ok (.if_icmp .ne 33, 3) := by decide +kernel
theorem dL_ticks_980 : decode cL_ticks 980 = .ok (.aload_n 0, 1) := by decide +kernel
theorem dL_ticks_981 : decode cL_ticks 981 = .ok (.iconst 4, 1) := by decide +kernel
theorem dL_ticks_982 : decode cL_ticks 982 = .ok (.invokestatic 148, 3) := by decide +kernel
theorem dL_ticks_985 : decode cL_ticks 985 = .ok (.iload 7, 2) := by decide +kernel
theorem dL_ticks_987 : decode cL_ticks 987 = .ok (.if_icmp .ne 23, 3) := by decide +kernel
theorem dL_ticks_990 : decode cL_ticks 990 = .ok (.iload 8, 2) := by decide +kernel
theorem dL_ticks_992 : decode cL_ticks 992 = .ok (.ifCond .ne 18, 3) := by decide +kernel
theorem dL_ticks_995 : decode cL_ticks 995 = .ok (.aload_n 0, 1) := by decide +kernel
theorem dL_ticks_996 : decode cL_ticks 996 = .ok (.bipush 14, 2) := by decide +kernel
theorem dL_ticks_998 : decode cL_ticks 998 = .ok (.invokestatic 129, 3) := by decide +kernel
theorem dL_ticks_1001 : decode cL_ticks 1001 = .ok (.iload 9, 2) := by decide +kernel
theorem dL_ticks_1003 : decode cL_ticks 1003 = .ok (.if_icmp .ne 7, 3) := by decide +kernel
theorem dL_ticks_1006 : decode cL_ticks 1006 = .ok (.iconst 1, 1) := by decide +kernel
theorem dL_ticks_1007 : decode cL_ticks 1007 = .ok (.goto 4, 3) := by decide +kernel
theorem dL_ticks_1010 : decode cL_ticks 1010 = .ok (.iconst 0, 1) := by decide +kernel
theorem dL_ticks_1011 : decode cL_ticks 1011 = .ok (.ireturn, 1) := by decide +kernel
theorem dL_hands_0 : decode cL_hands 0 = .ok (.aload_n 0, 1) := by decide +kernel
theorem dL_hands_1 : decode cL_hands 1 = .ok (.bipush 6, 2) := by decide +kernel
theorem dL_hands_3 : decode cL_hands 3 = .ok (.invokestatic 129, 3) := by decide +kernel
theorem dL_hands_6 : decode cL_hands 6 = .ok (.istore_n 2, 1) := by decide +kernel
theorem dL_hands_7 : decode cL_hands 7 = .ok (.aload_n 0, 1) := by decide +kernel
theorem dL_hands_8 : decode cL_hands 8 = .ok (.bipush 7, 2) := by decide +kernel
theorem dL_hands_10 : decode cL_hands 10 = .ok (.invokestatic 129, 3) := by decide +kernel
theorem dL_hands_13 : decode cL_hands 13 = .ok (.istore_n 3, 1) := by decide +kernel
theorem dL_hands_14 : decode cL_hands 14 = .ok (.aload_n 0, 1) := by decide +kernel
theorem dL_hands_15 : decode cL_hands 15 = .ok (.bipush 8, 2) := by decide +kernel
theorem dL_hands_17 : decode cL_hands 17 = .ok (.invokestatic 129, 3) := by decide +kernel
theorem dL_hands_20 : decode cL_hands 20 = .ok (.istore 4, 2) := by decide +kernel
theorem dL_hands_22 : decode cL_hands 22 = .ok (.aload_n 0, 1) := by decide +kernel
theorem dL_hands_23 : decode cL_hands 23 = .ok (.iconst 0, 1) := by decide +kernel
theorem dL_hands_24 : decode cL_hands 24 = .ok (.invokestatic 208, 3) := by decide +kernel
theorem dL_hands_27 : decode cL_hands 27 = .ok (.iload 4, 2) := by decide +kernel
theorem dL_hands_29 : decode cL_hands 29 = .ok (.if_icmp .ne 7, 3) := by decide +kernel
theorem dL_hands_32 : decode cL_hands 32 = .ok (.iconst 1, 1) := by decide +kernel
theorem dL_hands_33 : decode cL_hands 33 = .ok (.goto 4, 3) := by decide +kernel
theorem dL_hands_36 : decode cL_hands 36 = .ok (.iconst 0, 1) := by decide +kernel
theorem dL_hands_37 : decode cL_hands 37 = .ok (.istore 5, 2) := by decide +kernel
theorem dL_hands_39 : decode cL_hands 39 = .ok (.aload_n 0, 1) := by decide +kernel
theorem dL_hands_40 : decode cL_hands 40 = .ok (.iload_n 3, 1) := by decide +kernel
theorem dL_hands_41 : decode cL_hands 41 = .ok (.iconst 1, 1) := by decide +kernel
theorem dL_hands_42 : decode cL_hands 42 = .ok (.isub, 1) := by decide +kernel
theorem dL_hands_43 : decode cL_hands 43 = .ok (.invokestatic 132, 3) := by decide +kernel
theorem dL_hands_46 : decode cL_hands 46 = .ok (.istore 6, 2) := by decide +kernel
theorem dL_hands_48 : decode cL_hands 48 = .ok (.aload_n 0, 1) := by decide +kernel
theorem dL_hands_49 : decode cL_hands 49 = .ok (.iconst 0, 1) := by decide +kernel
theorem dL_hands_50 : decode cL_hands 50 = .ok (.invokestatic 132, 3) := by decide +kernel
theorem dL_hands_53 : decode cL_hands 53 = .ok (.istore 7, 2) := by decide +kernel
theorem dL_hands_55 : decode cL_hands 55 = .ok (.iload 5, 2) := by decide +kernel
theorem dL_hands_57 : decode cL_hands 57 = .ok (.ifCond .eq 54, 3) := by decide +kernel
theorem dL_hands_60 : decode cL_hands 60 = .ok (.aload_n 0, 1) := by decide +kernel
theorem dL_hands_61 : decode cL_hands 61 = .ok (.iconst 1, 1) := by decide +kernel
theorem dL_hands_62 : decode cL_hands 62 = .ok (.invokestatic 157, 3) := by decide +kernel
theorem dL_hands_65 : decode cL_hands 65 = .ok (.iload 6, 2) := by decide +kernel
theorem dL_hands_67 : decode cL_hands 67 = .ok (.if_icmp .ne 44, 3) := by decide +kernel
theorem dL_hands_70 : decode cL_hands 70 = .ok (.aload_n 0, 1) := by decide +kernel
theorem dL_hands_71 : decode cL_hands 71 = .ok (.iconst 0, 1) := by decide +kernel
theorem dL_hands_72 : decode cL_hands 72 = .ok (.invokestatic 132, 3) := by decide +kernel
theorem dL_hands_75 : decode cL_hands 75 = .ok (.bipush 10, 2) := by decide +kernel
theorem dL_hands_77 : decode cL_hands 77 = .ok (.if_icmp .ne 34, 3) := by decide +kernel
theorem dL_hands_80 : decode cL_hands 80 = .ok (.aload_n 0, 1) := by decide +kernel
theorem dL_hands_81 : decode cL_hands 81 = .ok (.iconst 1, 1) := by decide +kernel
theorem dL_hands_82 : decode cL_hands 82 = .ok (.invokestatic 132, 3) := by decide +kernel
theorem dL_hands_85 : decode cL_hands 85 = .ok (.iload 7, 2) := by decide +kernel
theorem dL_hands_87 : decode cL_hands 87 = .ok (.if_icmp .ne 24, 3) := by decide +kernel
theorem dL_hands_90 : decode cL_hands 90 = .ok (.aload_n 0, 1) := by decide +kernel
theorem dL_hands_91 : decode cL_hands 91 = .ok (.invokestatic 139, 3) := by decide +kernel
theorem dL_hands_94 : decode cL_hands 94 = .ok (.ifCond .lt 17, 3) := by decide +kernel
theorem dL_hands_97 : decode cL_hands 97 = .ok (.aload_n 0, 1) := by decide +kernel
theorem dL_hands_98 : decode cL_hands 98 = .ok (.iconst 0, 1) := by decide +kernel
theorem dL_hands_99 : decode cL_hands 99 = .ok (.invokestatic 132, 3) := by decide +kernel
theorem dL_hands_102 : decode cL_hands 102 = .ok (.iload 7, 2) := by decide +kernel
theorem dL_hands_104 : decode cL_hands 104 = .ok (.if_icmp .ne 7, 3) := by decide +kernel
theorem dL_hands_107 : decode cL_hands 107 = .ok (.iconst 1, 1) := by decide +kernel
theorem dL_hands_108 : decode cL_hands 108 = .ok (.goto 4, 3) := by decide +kernel
theorem dL_hands_111 : decode cL_hands 111 = .ok (.iconst 0, 1) := by decide +kernel
theorem dL_hands_112 : decode cL_hands 112 = .ok (.istore 5, 2) := by decide +kernel
theorem dL_hands_114 : decode cL_hands 114 = .ok (.iload_n 1, 1) := by decide +kernel
theorem dL_hands_115 : decode cL_hands 115 = .ok (.iconst 2, 1) := by decide +kernel
theorem dL_hands_116 : decode cL_hands 116 = .ok (.irem, 1) := by decide +kernel
theorem dL_hands_117 : decode cL_hands 117 = .ok (.istore 8, 2) := by decide +kernel
theorem dL_hands_119 : decode cL_hands 119 = .ok (.iconst 0, 1) := by decide +kernel
theorem dL_hands_120 : decode cL_hands 120 = .ok (.istore 9, 2) := by decide +kernel
theorem dL_hands_122 : decode cL_hands 122 = .ok (.iconst 0, 1) := by decide +kernel
theorem dL_hands_123 : decode cL_hands 123 = .ok (.istore 10, 2) := by decide +kernel
theorem dL_hands_125 : decode cL_hands 125 = .ok (.iload 10, 2) := by decide +kernel
theorem dL_hands_127 : decode cL_hands 127 = .ok (.iload_n 2, 1) := by decide +kernel
theorem dL_hands_128 : decode cL_hands 128 = .ok (.if_icmp .ge 51, 3) := by decide +kernel
theorem dL_hands_131 : decode cL_hands 131 = .ok (.aload_n 0, 1) := by decide +kernel
theorem dL_hands_132 : decode cL_hands 132 = .ok (.iload 10, 2) := by decide +kernel
theorem dL_hands_134 : decode cL_hands 134 = .ok (.iconst 2, 1) := by decide +kernel
theorem dL_hands_135 : decode cL_hands 135 = .ok (.invokestatic 151, 3) := by decide +kernel
theorem dL_hands_138 : decode cL_hands 138 = .ok (.istore 11, 2) := by decide +kernel
theorem dL_hands_140 : decode cL_hands 140 = .ok (.iload 9, 2) := by decide +kernel
theorem dL_hands_142 : decode cL_hands 142 = .ok (.aload_n 0, 1) := by decide +kernel
theorem dL_hands_143 : decode cL_hands 143 = .ok (.iload 10, 2) := by decide +kernel
theorem dL_hands_145 : decode cL_hands 145 = .ok (.iconst 1, 1) := by decide +kernel
theorem dL_hands_146 : decode cL_hands 146 = .ok (.invokestatic 151, 3) := by decide +kernel
theorem dL_hands_149 : decode cL_hands 149 = .ok (.iload 8, 2) := by decide +kernel
theorem dL_hands_151 : decode cL_hands 151 = .ok (.if_icmp .ne 18, 3) := by decide +kernel
theorem dL_hands_154 : decode cL_hands 154 = .ok (.iload 11, 2) := by decide +kernel
theorem dL_hands_156 : decode cL_hands 156 = .ok (.ifCond .le 13, 3) := by decide +kernel
theorem dL_hands_159 : decode cL_hands 159 = .ok (.iload 11, 2) := by decide +kernel
theorem dL_hands_161 : decode cL_hands 161 = .ok (.iconst 4, 1) := by decide +kernel
theorem dL_hands_162 : decode cL_hands 162 = .ok (.if_icmp .ge 7, 3) := by decide +kernel
theorem dL_hands_165 : decode cL_hands 165 = .ok (.iconst 1, 1) := by decide +kernel
theorem dL_hands_166 : decode cL_hands 166 = .ok (.goto 4, 3) := by decide +kernel
theorem dL_hands_169 : decode cL_hands 169 = .ok (.iconst 0, 1) := by decide +kernel
theorem dL_hands_170 : decode cL_hands 170 = .ok (.iadd, 1) := by decide +kernel
theorem dL_hands_171 : decode cL_hands 171 = .ok (.istore 9, 2) := by decide +kernel
theorem dL_hands_173 : decode cL_hands 173 = .ok (.iinc 10 1, 3) := by decide +kernel
theorem dL_hands_176 : decode cL_hands 176 = .ok (.goto (-51), 3) := by decide +kernel
theorem dL_hands_179 : decode cL_hands 179 = .ok (.iload 5, 2) := by decide +kernel
theorem dL_hands_181 : decode cL_hands 181 = .ok (.ifCond .eq 67, 3) := by decide +kernel
theorem dL_hands_184 : decode cL_hands 184 = .ok (.aload_n 0, 1) := by decide +kernel
theorem dL_hands_185 : decode cL_hands 185 = .ok (.iload 8, 2) := by decide +kernel
theorem dL_hands_187 : decode cL_hands 187 = .ok (.iconst 0, 1) := by decide +kernel
theorem dL_hands_188 : decode cL_hands 188 = .ok (.invokestatic 163, 3) := by decide +kernel
theorem dL_hands_191 : decode cL_hands 191 = .ok (.iload 9, 2) := by decide +kernel
theorem dL_hands_193 : decode cL_hands 193 = .ok (.if_icmp .ne 55, 3) := by decide +kernel
theorem dL_hands_196 : decode cL_hands 196 = .ok (.aload_n 0, 1) := by decide +kernel
theorem dL_hands_197 : decode cL_hands 197 = .ok (.iload 8, 2) := by decide +kernel
theorem dL_hands_199 : decode cL_hands 199 = .ok (.iconst 1, 1) := by decide +kernel
theorem dL_hands_200 : decode cL_hands 200 = .ok (.invokestatic 135, 3) := by decide +kernel
theorem dL_hands_203 : decode cL_hands 203 = .ok (.ifCond .ne 45, 3) := by decide +kernel
theorem dL_hands_206 : decode cL_hands 206 = .ok (.aload_n 0, 1) := by decide +kernel
theorem dL_hands_207 : decode cL_hands 207 = .ok (.iload 8, 2) := by decide +kernel
theorem dL_hands_209 : decode cL_hands 209 = .ok (.iconst 1, 1) := by decide +kernel
theorem dL_hands_210 : decode cL_hands 210 = .ok (.invokestatic 163, 3) := by decide +kernel
theorem dL_hands_213 : decode cL_hands 213 = .ok (.ifCond .ne 35, 3) := by decide +kernel
theorem dL_hands_216 : decode cL_hands 216 = .ok (.aload_n 0, 1) := by decide +kernel
theorem dL_hands_217 : decode cL_hands 217 = .ok (.iload 8, 2) := by decide +kernel
theorem dL_hands_219 : decode cL_hands 219 = .ok (.iconst 2, 1) := by decide +kernel
theorem dL_hands_220 : decode cL_hands 220 = .ok (.invokestatic 135, 3) := by decide +kernel
theorem dL_hands_223 : decode cL_hands 223 = .ok (.iconst 1, 1) := by decide +kernel
theorem dL_hands_224 : decode cL_hands 224 = .ok (.if_icmp .ne 24, 3) := by decide +kernel
theorem dL_hands_227 : decode cL_hands 227 = .ok (.aload_n 0, 1) := by decide +kernel
theorem dL_hands_228 : decode cL_hands 228 = .ok (.invokestatic 214, 3) := by decide +kernel
theorem dL_hands_231 : decode cL_hands 231 = .ok (.ifCond .eq 17, 3) := by decide +kernel
theorem dL_hands_234 : decode cL_hands 234 = .ok (.aload_n 0, 1) := by decide +kernel
theorem dL_hands_235 : decode cL_hands 235 = .ok (.iconst 0, 1) := by decide +kernel
theorem dL_hands_236 : decode cL_hands 236 = .ok (.invokestatic 142, 3) := by decide +kernel
theorem dL_hands_239 : decode cL_hands 239 = .ok (.iload 4, 2) := by decide +kernel
theorem dL_hands_241 : decode cL_hands 241 = .ok (.if_icmp .ne 7, 3) := by decide +kernel
theorem dL_hands_244 : decode cL_hands 244 = .ok (.iconst 1, 1) := by decide +kernel
theorem dL_hands_245 : decode cL_hands 245 = .ok (.goto 4, 3) := by decide +kernel
theorem dL_hands_248 : decode cL_hands 248 = .ok (.iconst 0, 1) := by decide +kernel
theorem dL_hands_249 : decode cL_hands 249 = .ok (.istore 5, 2) := by decide +kernel
theorem dL_hands_251 : decode cL_hands 251 = .ok (.iload_n 1, 1) := by decide +kernel
theorem dL_hands_252 : decode cL_hands 252 = .ok (.iconst 2, 1) := by decide +kernel
theorem dL_hands_253 : decode cL_hands 253 = .ok (.idiv, 1) := by decide +kernel
theorem dL_hands_254 : decode cL_hands 254 = .ok (.iload_n 2, 1) := by decide +kernel
theorem dL_hands_255 : decode cL_hands 255 = .ok (.irem, 1) := by decide +kernel
theorem dL_hands_256 : decode cL_hands 256 = .ok (.istore 10, 2) := by decide +kernel
theorem dL_hands_258 : decode cL_hands 258 = .ok (.aload_n 0, 1) := by decide +kernel
theorem dL_hands_259 : decode cL_hands 259 = .ok (.iload 10, 2) := by decide +kernel
theorem dL_hands_261 : decode cL_hands 261 = .ok (.iconst 2, 1) := by decide +kernel
theorem dL_hands_262 : decode cL_hands 262 = .ok (.invokestatic 151, 3) := by decide +kernel
theorem dL_hands_265 : decode cL_hands 265 = .ok (.istore 11, 2) := by decide +kernel
theorem dL_hands_267 : decode cL_hands 267 = .ok (.iload 5, 2) := by decide +kernel
theorem dL_hands_269 : decode cL_hands 269 = .ok (.ifCond .eq 101, 3) := by decide +kernel
theorem dL_hands_272 : decode cL_hands 272 = .ok (.iload 11, 2) := by decide +kernel
theorem dL_hands_274 : decode cL_hands 274 = .ok (.iconst 4, 1) := by decide +kernel
theorem dL_hands_275 : decode cL_hands 275 = .ok (.if_icmp .ne 34, 3) := by decide +kernel
theorem dL_hands_278 : decode cL_hands 278 = .ok (.aload_n 0, 1) := by decide +kernel
theorem dL_hands_279 : decode cL_hands 279 = .ok (.iload 10, 2) := by decide +kernel
theorem dL_hands_281 : decode cL_hands 281 = .ok (.invokestatic 173, 3) := by decide +kernel
theorem dL_hands_284 : decode cL_hands 284 = .ok (.ifCond .lt 86, 3) := by decide +kernel
theorem dL_hands_287 : decode cL_hands 287 = .ok (.aload_n 0, 1) := by decide +kernel
theorem dL_hands_288 : decode cL_hands 288 = .ok (.iload 10, 2) := by decide +kernel
theorem dL_hands_290 : decode cL_hands 290 = .ok (.iconst 2, 1) := by decide +kernel
theorem dL_hands_291 : decode cL_hands 291 = .ok (.invokestatic 151, 3) := by decide +kernel
theorem dL_hands_294 : decode cL_hands 294 = .ok (.ifCond .ne 76, 3) := by decide +kernel
theorem dL_hands_297 : decode cL_hands 297 = .ok (.aload_n 0, 1) := by decide +kernel
theorem dL_hands_298 : decode cL_hands 298 = .ok (.iload 10, 2) := by decide +kernel
theorem dL_hands_300 : decode cL_hands 300 = .ok (.invokestatic 170, 3) := by decide +kernel
theorem dL_hands_303 : decode cL_hands 303 = .ok (.ifCond .ne 67, 3) := by decide +kernel
theorem dL_hands_306 : decode cL_hands 306 = .ok (.goto 43, 3) := by decide +kernel
theorem dL_hands_309 : decode cL_hands 309 = .ok (.aload_n 0, 1) := by decide +kernel
theorem dL_hands_310 : decode cL_hands 310 = .ok (.iload 10, 2) := by decide +kernel
theorem dL_hands_312 : decode cL_hands 312 = .ok (.invokestatic 170, 3) := by decide +kernel
theorem dL_hands_315 : decode cL_hands 315 = .ok (.iload 11, 2) := by decide +kernel
theorem dL_hands_317 : decode cL_hands 317 = .ok (.if_icmp .ne 53, 3) := by decide +kernel
theorem dL_hands_320 : decode cL_hands 320 = .ok (.aload_n 0, 1) := by decide +kernel
theorem dL_hands_321 : decode cL_hands 321 = .ok (.iload 10, 2) := by decide +kernel
theorem dL_hands_323 : decode cL_hands 323 = .ok (.invokestatic 179, 3) := by decide +kernel
theorem dL_hands_326 : decode cL_hands 326 = .ok (.iconst 2, 1) := by decide +kernel
theorem dL_hands_327 : decode cL_hands 327 = .ok (.if_icmp .ne 43, 3) := by decide +kernel
theorem dL_hands_330 : decode cL_hands 330 = .ok (.aload_n 0, 1) := by decide +kernel
theorem dL_hands_331 : decode cL_hands 331 = .ok (.iload 10, 2) := by decide +kernel
theorem dL_hands_333 : decode cL_hands 333 = .ok (.invokestatic 173, 3) := by decide +kernel
theorem dL_hands_336 : decode cL_hands 336 = .ok (.ifCond .lt 34, 3) := by decide +kernel
theorem dL_hands_339 : decode cL_hands 339 = .ok (.aload_n 0, 1) := by decide +kernel
theorem dL_hands_340 : decode cL_hands 340 = .ok (.iload 10, 2) := by decide +kernel
theorem dL_hands_342 : decode cL_hands 342 = .ok (.iconst 2, 1) := by decide +kernel
theorem dL_hands_343 : decode cL_hands 343 = .ok (.invokestatic 151, 3) := by decide +kernel
theorem dL_hands_346 : decode cL_hands 346 = .ok (.ifCond .ne 24, 3) := by decide +kernel
theorem dL_hands_349 : decode cL_hands 349 = .ok (.aload_n 0, 1) := by decide +kernel
theorem dL_hands_350 : decode cL_hands 350 = .ok (.invokestatic 214, 3) := by decide +kernel
theorem dL_hands_353 : decode cL_hands 353 = .ok (.ifCond .eq 17, 3) := by decide +kernel
theorem dL_hands_356 : decode cL_hands 356 = .ok (.aload_n 0, 1) := by decide +kernel
theorem dL_hands_357 : decode cL_hands 357 = .ok (.iconst 0, 1) := by decide +kernel
theorem dL_hands_358 : decode cL_hands 358 = .ok (.invokestatic 142, 3) := by decide +kernel
theorem dL_hands_361 : decode cL_hands 361 = .ok (.iload 4, 2) := by decide +kernel
theorem dL_hands_363 : decode cL_hands 363 = .ok (.if_icmp .ne 7, 3) := by decide +kernel
theorem dL_hands_366 : decode cL_hands 366 = .ok (.iconst 1, 1) := by decide +kernel
theorem dL_hands_367 : decode cL_hands 367 = .ok (.goto 4, 3) := by decide +kernel
theorem dL_hands_370 : decode cL_hands 370 = .ok (.iconst 0, 1) := by decide +kernel
theorem dL_hands_371 : decode cL_hands 371 = .ok (.istore 5, 2) := by decide +kernel
theorem dL_hands_373 : decode cL_hands 373 = .ok (.iconst 1, 1) := by decide +kernel
theorem dL_hands_374 : decode cL_hands 374 = .ok (.iload_n 1, 1) := by decide +kernel
theorem dL_hands_375 : decode cL_hands 375 = .ok (.bipush 16, 2) := by decide +kernel
theorem dL_hands_377 : decode cL_hands 377 = .ok (.idiv, 1) := by decide +kernel
theorem dL_hands_378 : decode cL_hands 378 = .ok (.bipush 80, 2) := by decide +kernel
theorem dL_hands_380 : decode cL_hands 380 = .ok (.irem, 1) := by decide +kernel
theorem dL_hands_381 : decode cL_hands 381 = .ok (.iadd, 1) := by decide +kernel
theorem dL_hands_382 : decode cL_hands 382 = .ok (.istore 12, 2) := by decide +kernel
theorem dL_hands_384 : decode cL_hands 384 = .ok (.aload_n 0, 1) := by decide +kernel
theorem dL_hands_385 : decode cL_hands 385 = .ok (.iload 12, 2) := by decide +kernel
theorem dL_hands_387 : decode cL_hands 387 = .ok (.iconst 1, 1) := by decide +kernel
theorem dL_hands_388 : decode cL_hands 388 = .ok (.invokestatic 182, 3) := by decide +kernel
theorem dL_hands_391 : decode cL_hands 391 = .ok (.istore 13, 2) := by decide +kernel
theorem dL_hands_393 : decode cL_hands 393 = .ok (.iconst 0, 1) := by decide +kernel
theorem dL_hands_394 : decode cL_hands 394 = .ok (.istore 14, 2) := by decide +kernel
theorem dL_hands_396 : decode cL_hands 396 = .ok (.iconst 0, 1) := by decide +kernel
theorem dL_hands_397 : decode cL_hands 397 = .ok (.istore 15, 2) := by decide +kernel
theorem dL_hands_399 : decode cL_hands 399 = .ok (.iconst 2, 1) := by decide +kernel
theorem dL_hands_400 : decode cL_hands 400 = .ok (.newarray .int, 2) := by decide +kernel
theorem dL_hands_402 : decode cL_hands 402 = .ok (.astore 16, 2) := by decide +kernel
theorem dL_hands_404 : decode cL_hands 404 = .ok (.iconst 0, 1) := by decide +kernel
theorem dL_hands_405 : decode cL_hands 405 = .ok (.istore 17, 2) := by decide +kernel
theorem dL_hands_407 : decode cL_hands 407 = .ok (.iload 17, 2) := by decide +kernel
theorem dL_hands_409 : decode cL_hands 409 = .ok (.iload_n 2, 1) := by decide +kernel
theorem dL_hands_410 : decode cL_hands 410 = .ok (.if_icmp .ge 62, 3) := by decide +kernel
theorem dL_hands_413 : decode cL_hands 413 = .ok (.iload 13, 2) := by decide +kernel
theorem dL_hands_415 : decode cL_hands 415 = .ok (.bipush (-9), 2) := by decide +kernel
theorem dL_hands_417 : decode cL_hands 417 = .ok (.if_icmp .eq 55, 3) := by decide +kernel
theorem dL_hands_420 : decode cL_hands 420 = .ok (.iload 13, 2) := by decide +kernel
theorem dL_hands_422 : decode cL_hands 422 = .ok (.iload 17, 2) := by decide +kernel
theorem dL_hands_424 : decode cL_hands 424 = .ok (.ishr, 1) := by decide +kernel
theorem dL_hands_425 : decode cL_hands 425 = .ok (.iconst 1, 1) := by decide +kernel
theorem dL_hands_426 : decode cL_hands 426 = .ok (.iand, 1) := by decide +kernel
theorem dL_hands_427 : decode cL_hands 427 = .ok (.iconst 1, 1) := by decide +kernel
theorem dL_hands_428 : decode cL_hands 428 = .ok (.if_icmp .ne 38, 3) := by decide +kernel
theorem dL_hands_431 : decode cL_hands 431 = .ok (.iload 14, 2) := by decide +kernel
theorem dL_hands_433 : decode cL_hands 433 = .ok (.aload_n 0, 1) := by decide +kernel
theorem dL_hands_434 : decode cL_hands 434 = .ok (.iload 17, 2) := by decide +kernel
theorem dL_hands_436 : decode cL_hands 436 = .ok (.iconst 0, 1) := by decide +kernel
theorem dL_hands_437 : decode cL_hands 437 = .ok (.invokestatic 151, 3) := by decide +kernel
theorem dL_hands_440 : decode cL_hands 440 = .ok (.iadd, 1) := by decide +kernel
theorem dL_hands_441 : decode cL_hands 441 = .ok (.istore 14, 2) := by decide +kernel
theorem dL_hands_443 : decode cL_hands 443 = .ok (.iinc 15 1, 3) := by decide +kernel
theorem dL_hands_446 : decode cL_hands 446 = .ok (.aload 16, 2) := by decide +kernel
theorem dL_hands_448 : decode cL_hands 448 = .ok (.aload_n 0, 1) := by decide +kernel
theorem dL_hands_449 : decode cL_hands 449 = .ok (.iload 17, 2) := by decide +kernel
theorem dL_hands_451 : decode cL_hands 451 = .ok (.iconst 1, 1) := by decide +kernel
theorem dL_hands_452 : decode cL_hands 452 = .ok (.invokestatic 151, 3) := by decide +kernel
theorem dL_hands_455 : decode cL_hands 455 = .ok (.dup2, 1) := by decide +kernel
theorem dL_hands_456 : decode cL_hands 456 = .ok (.iaload, 1) := by decide +kernel
theorem dL_hands_457 : decode cL_hands 457 = .ok (.aload_n 0, 1) := by decide +kernel
theorem dL_hands_458 : decode cL_hands 458 = .ok (.iload 17, 2) := by decide +kernel
theorem dL_hands_460 : decode cL_hands 460 = .ok (.iconst 0, 1) := by decide +kernel
theorem dL_hands_461 : decode cL_hands 461 = .ok (.invokestatic 151, 3) := by decide +kernel
theorem dL_hands_464 : decode cL_hands 464 = .ok (.iadd, 1) := by decide +kernel
theorem dL_hands_465 : decode cL_hands 465 = .ok (.iastore, 1) := by decide +kernel
theorem dL_hands_466 : decode cL_hands 466 = .ok (.iinc 17 1, 3) := by decide +kernel
theorem dL_hands_469 : decode cL_hands 469 = .ok (.goto (-62), 3) := by decide +kernel
theorem dL_hands_472 : decode cL_hands 472 = .ok (.iload 5, 2) := by decide +kernel
theorem dL_hands_474 : decode cL_hands 474 = .ok (.ifCond .eq 101, 3) := by decide +kernel
theorem dL_hands_477 : decode cL_hands 477 = .ok (.iload 13, 2) := by decide +kernel
theorem dL_hands_479 : decode cL_hands 479 = .ok (.bipush (-9), 2) := by decide +kernel
theorem dL_hands_481 : decode cL_hands 481 = .ok (.if_icmp .ne 40, 3) := by decide +kernel
theorem dL_hands_484 : decode cL_hands 484 = .ok (.aload_n 0, 1) := by decide +kernel
theorem dL_hands_485 : decode cL_hands 485 = .ok (.iload 12, 2) := by decide +kernel
theorem dL_hands_487 : decode cL_hands 487 = .ok (.iconst 0, 1) := by decide +kernel
theorem dL_hands_488 : decode cL_hands 488 = .ok (.invokestatic 182, 3) := by decide +kernel
theorem dL_hands_491 : decode cL_hands 491 = .ok (.bipush (-9), 2) := by decide +kernel
theorem dL_hands_493 : decode cL_hands 493 = .ok (.if_icmp .ne 82, 3) := by decide +kernel
theorem dL_hands_496 : decode cL_hands 496 = .ok (.iload 12, 2) := by decide +kernel
theorem dL_hands_498 : decode cL_hands 498 = .ok (.sipush 150, 3) := by decide +kernel
theorem dL_hands_501 : decode cL_hands 501 = .ok (.if_icmp .eq 70, 3) := by decide +kernel
theorem dL_hands_504 : decode cL_hands 504 = .ok (.aload_n 0, 1) := by decide +kernel
theorem dL_hands_505 : decode cL_hands 505 = .ok (.iload 12, 2) := by decide +kernel
theorem dL_hands_507 : decode cL_hands 507 = .ok (.iconst 1, 1) := by decide +kernel
theorem dL_hands_508 : decode cL_hands 508 = .ok (.iadd, 1) := by decide +kernel
theorem dL_hands_509 : decode cL_hands 509 = .ok (.iconst 1, 1) := by decide +kernel
theorem dL_hands_510 : decode cL_hands 510 = .ok (.invokestatic 182, 3) := by decide +kernel
theorem dL_hands_513 : decode cL_hands 513 = .ok (.bipush (-9), 2) := by decide +kernel
theorem dL_hands_515 : decode cL_hands 515 = .ok (.if_icmp .ne 60, 3) := by decide +kernel
theorem dL_hands_518 : decode cL_hands 518 = .ok (.goto 53, 3) := by decide +kernel
theorem dL_hands_521 : decode cL_hands 521 = .ok (.aload_n 0, 1) := by decide +kernel
theorem dL_hands_522 : decode cL_hands 522 = .ok (.iload 12, 2) := by decide +kernel
theorem dL_hands_524 : decode cL_hands 524 = .ok (.iconst 0, 1) := by decide +kernel
theorem dL_hands_525 : decode cL_hands 525 = .ok (.invokestatic 182, 3) := by decide +kernel
theorem dL_hands_528 : decode cL_hands 528 = .ok (.iload 14, 2) := by decide +kernel
theorem dL_hands_530 : decode cL_hands 530 = .ok (.if_icmp .ne 45, 3) := by decide +kernel
theorem dL_hands_533 : decode cL_hands 533 = .ok (.iload 14, 2) := by decide +kernel
theorem dL_hands_535 : decode cL_hands 535 = .ok (.iload 12, 2) := by decide +kernel
theorem dL_hands_537 : decode cL_hands 537 = .ok (.if_icmp .lt 38, 3) := by decide +kernel
theorem dL_hands_540 : decode cL_hands 540 = .ok (.iload 15, 2) := by decide +kernel
theorem dL_hands_542 : decode cL_hands 542 = .ok (.ifCond .le 33, 3) := by decide +kernel
theorem dL_hands_545 : decode cL_hands 545 = .ok (.aload 16, 2) := by decide +kernel
theorem dL_hands_547 : decode cL_hands 547 = .ok (.iconst 0, 1) := by decide +kernel
theorem dL_hands_548 : decode cL_hands 548 = .ok (.iaload, 1) := by decide +kernel
theorem dL_hands_549 : decode cL_hands 549 = .ok (.aload_n 0, 1) := by decide +kernel
theorem dL_hands_550 : decode cL_hands 550 = .ok (.iconst 0, 1) := by decide +kernel
theorem dL_hands_551 : decode cL_hands 551 = .ok (.iconst 0, 1) := by decide +kernel
theorem dL_hands_552 : decode cL_hands 552 = .ok (.invokestatic 135, 3) := by decide +kernel
theorem dL_hands_555 : decode cL_hands 555 = .ok (.if_icmp .gt 20, 3) := by decide +kernel
theorem dL_hands_558 : decode cL_hands 558 = .ok (.aload 16, 2) := by decide +kernel
theorem dL_hands_560 : decode cL_hands 560 = .ok (.iconst 1, 1) := by decide +kernel
theorem dL_hands_561 : decode cL_hands 561 = .ok (.iaload, 1) := by decide +kernel
theorem dL_hands_562 : decode cL_hands 562 = .ok (.aload_n 0, 1) := by decide +kernel
theorem dL_hands_563 : decode cL_hands 563 = .ok (.iconst 1, 1) := by decide +kernel
theorem dL_hands_564 : decode cL_hands 564 = .ok (.iconst 0, 1) := by decide +kernel
theorem dL_hands_565 : decode cL_hands 565 = .ok (.invokestatic 135, 3) := by decide +kernel
theorem dL_hands_568 : decode cL_hands 568 = .ok (.if_icmp .gt 7, 3) := by decide +kernel
theorem dL_hands_571 : decode cL_hands 571 = .ok (.iconst 1, 1) := by decide +kernel
theorem dL_hands_572 : decode cL_hands 572 = .ok (.goto 4, 3) := by decide +kernel
theorem dL_hands_575 : decode cL_hands 575 = .ok (.iconst 0, 1) := by decide +kernel
theorem dL_hands_576 : decode cL_hands 576 = .ok (.istore 5, 2) := by decide +kernel
theorem dL_hands_578 : decode cL_hands 578 = .ok (.iload_n 1, 1) := by decide +kernel
theorem dL_hands_579 : decode cL_hands 579 = .ok (.bipush 64, 2) := by decide +kernel
theorem dL_hands_581 : decode cL_hands 581 = .ok (.idiv, 1) := by decide +kernel
theorem dL_hands_582 : decode cL_hands 582 = .ok (.bipush 100, 2) := by decide +kernel
theorem dL_hands_584 : decode cL_hands 584 = .ok (.irem, 1) := by decide +kernel
theorem dL_hands_585 : decode cL_hands 585 = .ok (.istore 17, 2) := by decide +kernel
theorem dL_hands_587 : decode cL_hands 587 = .ok (.iload_n 1, 1) := by decide +kernel
theorem dL_hands_588 : decode cL_hands 588 = .ok (.sipush 8192, 3) := by decide +kernel
theorem dL_hands_591 : decode cL_hands 591 = .ok (.idiv, 1) := by decide +kernel
theorem dL_hands_592 : decode cL_hands 592 = .ok (.bipush 6, 2) := by decide +kernel
theorem dL_hands_594 : decode cL_hands 594 = .ok (.irem, 1) := by decide +kernel
theorem dL_hands_595 : decode cL_hands 595 = .ok (.istore 18, 2) := by decide +kernel
theorem dL_hands_597 : decode cL_hands 597 = .ok (.aload_n 0, 1) := by decide +kernel
theorem dL_hands_598 : decode cL_hands 598 = .ok (.iload 17, 2) := by decide +kernel
theorem dL_hands_600 : decode cL_hands 600 = .ok (.iload 18, 2) := by decide +kernel
theorem dL_hands_602 : decode cL_hands 602 = .ok (.invokestatic 189, 3) := by decide +kernel
theorem dL_hands_605 : decode cL_hands 605 = .ok (.istore 19, 2) := by decide +kernel
theorem dL_hands_607 : decode cL_hands 607 = .ok (.iload 5, 2) := by decide +kernel
theorem dL_hands_609 : decode cL_hands 609 = .ok (.ifCond .eq 36, 3) := by decide +kernel
theorem dL_hands_612 : decode cL_hands 612 = .ok (.iload 19, 2) := by decide +kernel
theorem dL_hands_614 : decode cL_hands 614 = .ok (.ifCond .ne 7, 3) := by decide +kernel
theorem dL_hands_617 : decode cL_hands 617 = .ok (.iconst 1, 1) := by decide +kernel
theorem dL_hands_618 : decode cL_hands 618 = .ok (.goto 4, 3) := by decide +kernel
theorem dL_hands_621 : decode cL_hands 621 = .ok (.iconst 0, 1) := by decide +kernel
theorem dL_hands_622 : decode cL_hands 622 = .ok (.aload_n 0, 1) := by decide +kernel
theorem dL_hands_623 : decode cL_hands 623 = .ok (.bipush 9, 2) := by decide +kernel
theorem dL_hands_625 : decode cL_hands 625 = .ok (.invokestatic 129, 3) := by decide +kernel
theorem dL_hands_628 : decode cL_hands 628 = .ok (.iload 17, 2) := by decide +kernel
theorem dL_hands_630 : decode cL_hands 630 = .ok (.if_icmp .lt 7, 3) := by decide +kernel
theorem dL_hands_633 : decode cL_hands 633 = .ok (.iconst 1, 1) := by decide +kernel
theorem dL_hands_634 : decode cL_hands 634 = .ok (.goto 4, 3) := by decide +kernel
theorem dL_hands_637 : decode cL_hands 637 = .ok (.iconst 0, 1) := by decide +kernel
theorem dL_hands_638 : decode cL_hands 638 = .ok (.if_icmp .ne 7, 3) := by decide +kernel
theorem dL_hands_641 : decode cL_hands 641 = .ok (.iconst 1, 1) := by decide +kernel
theorem dL_hands_642 : decode cL_hands 642 = .ok (.goto 4, 3) := by decide +kernel
theorem dL_hands_645 : decode cL_hands 645 = .ok (.iconst 0, 1) := by decide +kernel
theorem dL_hands_646 : decode cL_hands 646 = .ok (.istore 5, 2) := by decide +kernel
theorem dL_hands_648 : decode cL_hands 648 = .ok (.iload 19, 2) := by decide +kernel
theorem dL_hands_650 : decode cL_hands 650 = .ok (.ifCond .le 58, 3) := by decide +kernel
theorem dL_hands_653 : decode cL_hands 653 = .ok (.iload 19, 2) := by decide +kernel
theorem dL_hands_655 : decode cL_hands 655 = .ok (.bipush 97, 2) := by decide +kernel
theorem dL_hands_657 : decode cL_hands 657 = .ok (.if_icmp .ge 51, 3) := by decide +kernel
theorem dL_hands_660 : decode cL_hands 660 = .ok (.iload 5, 2) := by decide +kernel
theorem dL_hands_662 : decode cL_hands 662 = .ok (.ifCond .eq 46, 3) := by decide +kernel
theorem dL_hands_665 : decode cL_hands 665 = .ok (.aload_n 0, 1) := by decide +kernel
theorem dL_hands_666 : decode cL_hands 666 = .ok (.iload 19, 2) := by decide +kernel
theorem dL_hands_668 : decode cL_hands 668 = .ok (.iload 18, 2) := by decide +kernel
theorem dL_hands_670 : decode cL_hands 670 = .ok (.iconst 0, 1) := by decide +kernel
theorem dL_hands_671 : decode cL_hands 671 = .ok (.invokestatic 185, 3) := by decide +kernel
theorem dL_hands_674 : decode cL_hands 674 = .ok (.iload 17, 2) := by decide +kernel
theorem dL_hands_676 : decode cL_hands 676 = .ok (.if_icmp .lt 29, 3) := by decide +kernel
theorem dL_hands_679 : decode cL_hands 679 = .ok (.iload 19, 2) := by decide +kernel
theorem dL_hands_681 : decode cL_hands 681 = .ok (.iconst 1, 1) := by decide +kernel
theorem dL_hands_682 : decode cL_hands 682 = .ok (.if_icmp .eq 19, 3) := by decide +kernel
theorem dL_hands_685 : decode cL_hands 685 = .ok (.aload_n 0, 1) := by decide +kernel
theorem dL_hands_686 : decode cL_hands 686 = .ok (.iload 19, 2) := by decide +kernel
theorem dL_hands_688 : decode cL_hands 688 = .ok (.iconst 1, 1) := by decide +kernel
theorem dL_hands_689 : decode cL_hands 689 = .ok (.isub, 1) := by decide +kernel
theorem dL_hands_690 : decode cL_hands 690 = .ok (.iload 18, 2) := by decide +kernel
theorem dL_hands_692 : decode cL_hands 692 = .ok (.iconst 0, 1) := by decide +kernel
theorem dL_hands_693 : decode cL_hands 693 = .ok (.invokestatic 185, 3) := by decide +kernel
theorem dL_hands_696 : decode cL_hands 696 = .ok (.iload 17, 2) := by decide +kernel
theorem dL_hands_698 : decode cL_hands 698 = .ok (.if_icmp .ge 7, 3) := by decide +kernel
theorem dL_hands_701 : decode cL_hands 701 = .ok (.iconst 1, 1) := by decide +kernel
theorem dL_hands_702 : decode cL_hands 702 = .ok (.goto 4, 3) := by decide +kernel
theorem dL_hands_705 : decode cL_hands 705 = .ok (.iconst 0, 1) := by decide +kernel
theorem dL_hands_706 : decode cL_hands 706 = .ok (.istore 5, 2) := by decide +kernel
theorem dL_hands_708 : decode cL_hands 708 = .ok (.iconst 1, 1) := by decide +kernel
theorem dL_hands_709 : decode cL_hands 709 = .ok (.iload_n 1, 1) := by decide +kernel
theorem dL_hands_710 : decode cL_hands 710 = .ok (.bipush 30, 2) := by decide +kernel
theorem dL_hands_712 : decode cL_hands 712 = .ok (.irem, 1) := by decide +kernel
theorem dL_hands_713 : decode cL_hands 713 = .ok (.iadd, 1) := by decide +kernel
theorem dL_hands_714 : decode cL_hands 714 = .ok (.istore 20, 2) := by decide +kernel
theorem dL_hands_716 : decode cL_hands 716 = .ok (.aload_n 0, 1) := by decide +kernel
theorem dL_hands_717 : decode cL_hands 717 = .ok (.iload 20, 2) := by decide +kernel
theorem dL_hands_719 : decode cL_hands 719 = .ok (.iload 18, 2) := by decide +kernel
theorem dL_hands_721 : decode cL_hands 721 = .ok (.invokestatic 195, 3) := by decide +kernel
theorem dL_hands_724 : decode cL_hands 724 = .ok (.istore 21, 2) := by decide +kernel
theorem dL_hands_726 : decode cL_hands 726 = .ok (.aload_n 0, 1) := by decide +kernel
theorem dL_hands_727 : decode cL_hands 727 = .ok (.iload 21, 2) := by decide +kernel
theorem dL_hands_729 : decode cL_hands 729 = .ok (.iload 20, 2) := by decide +kernel
theorem dL_hands_731 : decode cL_hands 731 = .ok (.iload 18, 2) := by decide +kernel
theorem dL_hands_733 : decode cL_hands 733 = .ok (.iload 4, 2) := by decide +kernel
theorem dL_hands_735 : decode cL_hands 735 = .ok (.invokestatic 218, 3) := by decide +kernel
theorem dL_hands_738 : decode cL_hands 738 = .ok (.istore 22, 2) := by decide +kernel
theorem dL_hands_740 : decode cL_hands 740 = .ok (.aload_n 0, 1) := by decide +kernel
theorem dL_hands_741 : decode cL_hands 741 = .ok (.iconst 1, 1) := by decide +kernel
theorem dL_hands_742 : decode cL_hands 742 = .ok (.iload_n 1, 1) := by decide +kernel
theorem dL_hands_743 : decode cL_hands 743 = .ok (.sipush 128, 3) := by decide +kernel
theorem dL_hands_746 : decode cL_hands 746 = .ok (.idiv, 1) := by decide +kernel
theorem dL_hands_747 : decode cL_hands 747 = .ok (.iconst 5, 1) := by decide +kernel
theorem dL_hands_748 : decode cL_hands 748 = .ok (.irem, 1) := by decide +kernel
theorem dL_hands_749 : decode cL_hands 749 = .ok (.iadd, 1) := by decide +kernel
theorem dL_hands_750 : decode cL_hands 750 = .ok (.iload 20, 2) := by decide +kernel
theorem dL_hands_752 : decode cL_hands 752 = .ok (.iload 18, 2) := by decide +kernel
theorem dL_hands_754 : decode cL_hands 754 = .ok (.iload 4, 2) := by decide +kernel
theorem dL_hands_756 : decode cL_hands 756 = .ok (.invokestatic 218, 3) := by decide +kernel
theorem dL_hands_759 : decode cL_hands 759 = .ok (.istore 23, 2) := by decide +kernel
theorem dL_hands_761 : decode cL_hands 761 = .ok (.aload_n 0, 1) := by decide +kernel
theorem dL_hands_762 : decode cL_hands 762 = .ok (.iload 20, 2) := by decide +kernel
theorem dL_hands_764 : decode cL_hands 764 = .ok (.bipush 10, 2) := by decide +kernel
theorem dL_hands_766 : decode cL_hands 766 = .ok (.iload 17, 2) := by decide +kernel
theorem dL_hands_768 : decode cL_hands 768 = .ok (.bipush 71, 2) := by decide +kernel
theorem dL_hands_770 : decode cL_hands 770 = .ok (.irem, 1) := by decide +kernel
theorem dL_hands_771 : decode cL_hands 771 = .ok (.iadd, 1) := by decide +kernel
theorem dL_hands_772 : decode cL_hands 772 = .ok (.invokestatic 192, 3) := by decide +kernel
theorem dL_hands_775 : decode cL_hands 775 = .ok (.istore 24, 2) := by decide +kernel
theorem dL_hands_777 : decode cL_hands 777 = .ok (.iload 5, 2) := by decide +kernel
theorem dL_hands_779 : decode cL_hands 779 = .ok (.ifCond .eq 49, 3) := by decide +kernel
theorem dL_hands_782 : decode cL_hands 782 = .ok (.iload 21, 2) := by decide +kernel
theorem dL_hands_784 : decode cL_hands 784 = .ok (.iconst 1, 1) := by decide +kernel
theorem dL_hands_785 : decode cL_hands 785 = .ok (.if_icmp .lt 43, 3) := by decide +kernel
theorem dL_hands_788 : decode cL_hands 788 = .ok (.iload 21, 2) := by decide +kernel
theorem dL_hands_790 : decode cL_hands 790 = .ok (.iconst 5, 1) := by decide +kernel
theorem dL_hands_791 : decode cL_hands 791 = .ok (.if_icmp .gt 37, 3) := by decide +kernel
theorem dL_hands_794 : decode cL_hands 794 = .ok (.iload 22, 2) := by decide +kernel
theorem dL_hands_796 : decode cL_hands 796 = .ok (.iload 23, 2) := by decide +kernel
theorem dL_hands_798 : decode cL_hands 798 = .ok (.if_icmp .gt 30, 3) := by decide +kernel
theorem dL_hands_801 : decode cL_hands 801 = .ok (.iload 24, 2) := by decide +kernel
theorem dL_hands_803 : decode cL_hands 803 = .ok (.bipush (-9), 2) := by decide +kernel
theorem dL_hands_805 : decode cL_hands 805 = .ok (.if_icmp .lt 23, 3) := by decide +kernel
theorem dL_hands_808 : decode cL_hands 808 = .ok (.iload 24, 2) := by decide +kernel
theorem dL_hands_810 : decode cL_hands 810 = .ok (.iconst 5, 1) := by decide +kernel
theorem dL_hands_811 : decode cL_hands 811 = .ok (.if_icmp .gt 17, 3) := by decide +kernel
theorem dL_hands_814 : decode cL_hands 814 = .ok (.aload_n 0, 1) := by decide +kernel
theorem dL_hands_815 : decode cL_hands 815 = .ok (.invokestatic 139, 3) := by decide +kernel
theorem dL_hands_818 : decode cL_hands 818 = .ok (.sipush (-1003), 3) := by decide +kernel
theorem dL_hands_821 : decode cL_hands 821 = .ok (.if_icmp .ne 7, 3) := by decide +kernel
theorem dL_hands_824 : decode cL_hands 824 = .ok (.iconst 1, 1) := by decide +kernel
theorem dL_hands_825 : decode cL_hands 825 = .ok (.goto 4, 3) := by decide +kernel
theorem dL_hands_828 : decode cL_hands 828 = .ok (.iconst 0, 1) := by decide +kernel
theorem dL_hands_829 : decode cL_hands 829 = .ok (.ireturn, 1) := by decide +kernel
theorem dL_purgeFuel_0 : decode cL_purgeFuel 0 = .ok (.aload_n 0, 1) := by decide +kernel
theorem dL_purgeFuel_1 : decode cL_purgeFuel 1 = .ok (.iconst 2, 1) := by decide +kernel
theorem dL_purgeFuel_2 : decode cL_purgeFuel 2 = .ok (.iload_n 1, 1) := by decide +kernel
theorem dL_purgeFuel_3 : decode cL_purgeFuel 3 = .ok (.invokestatic 160, 3) := by decide +kernel
theorem dL_purgeFuel_6 : decode cL_purgeFuel 6 = .ok (.istore 5, 2) := by decide +kernel
theorem dL_purgeFuel_8 : decode cL_purgeFuel 8 = .ok (.aload_n 0, 1) := by decide +kernel
theorem dL_purgeFuel_9 : decode cL_purgeFuel 9 = .ok (.iload_n 2, 1) := by decide +kernel
theorem dL_purgeFuel_10 : decode cL_purgeFuel 10 = .ok (.iload_n 3, 1) := by decide +kernel
theorem dL_purgeFuel_11 : decode cL_purgeFuel 11 = .ok (.iconst 3, 1) := by decide +kernel
theorem dL_purgeFuel_12 : decode cL_purgeFuel 12 = .ok (.invokestatic 185, 3) := by decide +kernel
theorem dL_purgeFuel_15 : decode cL_purgeFuel 15 = .ok (.istore 6, 2) := by decide +kernel
theorem dL_purgeFuel_17 : decode cL_purgeFuel 17 = .ok (.iload 5, 2) := by decide +kernel
theorem dL_purgeFuel_19 : decode cL_purgeFuel 19 = .ok (.ifCond .le 18, 3) := by decide +kernel
theorem dL_purgeFuel_22 : decode cL_purgeFuel 22 = .ok (.aload_n 0, 1) := by decide +kernel
theorem dL_purgeFuel_23 : decode cL_purgeFuel 23 = .ok (.iconst 0, 1) := by decide +kernel
theorem dL_purgeFuel_24 : decode cL_purgeFuel 24 = .ok (.invokestatic 142, 3) := by decide +kernel
theorem dL_purgeFuel_27 : decode cL_purgeFuel 27 = .ok (.iload 4, 2) := by decide +kernel
theorem dL_purgeFuel_29 : decode cL_purgeFuel 29 = .ok (.if_icmp .ne 8, 3) := by decide +kernel
theorem dL_purgeFuel_32 : decode cL_purgeFuel 32 = .ok (.iload 6, 2) := by decide +kernel
theorem dL_purgeFuel_34 : decode cL_purgeFuel 34 = .ok (.goto 4, 3) := by decide +kernel
theorem dL_purgeFuel_37 : decode cL_purgeFuel 37 = .ok (.iconst (-1), 1) := by decide +kernel
theorem dL_purgeFuel_38 : decode cL_purgeFuel 38 = .ok (.ireturn, 1) := by decide +kernel
theorem dL_scripts_0 : decode cL_scripts 0 = .ok (.aload_n 0, 1) := by decide +kernel
theorem dL_scripts_1 : decode cL_scripts 1 = .ok (.bipush 9, 2) := by decide +kernel
theorem dL_scripts_3 : decode cL_scripts 3 = .ok (.invokestatic 129, 3) := by decide +kernel
theorem dL_scripts_6 : decode cL_scripts 6 = .ok (.istore_n 2, 1) := by decide +kernel
theorem dL_scripts_7 : decode cL_scripts 7 = .ok (.aload_n 0, 1) := by decide +kernel
theorem dL_scripts_8 : decode cL_scripts 8 = .ok (.bipush 6, 2) := by decide +kernel
theorem dL_scripts_10 : decode cL_scripts 10 = .ok (.invokestatic 129, 3) := by decide +kernel
theorem dL_scripts_13 : decode cL_scripts 13 = .ok (.istore_n 3, 1) := by decide +kernel
theorem dL_scripts_14 : decode cL_scripts 14 = .ok (.iload_n 1, 1) := by decide +kernel
theorem dL_scripts_15 : decode cL_scripts 15 = .ok (.iload_n 3, 1) := by decide +kernel
theorem dL_scripts_16 : decode cL_scripts 16 = .ok (.irem, 1) := by decide +kernel
theorem dL_scripts_17 : decode cL_scripts 17 = .ok (.istore 4, 2) := by decide +kernel
theorem dL_scripts_19 : decode cL_scripts 19 = .ok (.aload_n 0, 1) := by decide +kernel
theorem dL_scripts_20 : decode cL_scripts 20 = .ok (.iload 4, 2) := by decide +kernel
theorem dL_scripts_22 : decode cL_scripts 22 = .ok (.iconst 2, 1) := by decide +kernel
theorem dL_scripts_23 : decode cL_scripts 23 = .ok (.invokestatic 151, 3) := by decide +kernel
theorem dL_scripts_26 : decode cL_scripts 26 = .ok (.istore 5, 2) := by decide +kernel
theorem dL_scripts_28 : decode cL_scripts 28 = .ok (.aload_n 0, 1) := by decide +kernel
theorem dL_scripts_29 : decode cL_scripts 29 = .ok (.bipush 14, 2) := by decide +kernel
theorem dL_scripts_31 : decode cL_scripts 31 = .ok (.invokestatic 129, 3) := by decide +kernel
theorem dL_scripts_34 : decode cL_scripts 34 = .ok (.istore 6, 2) := by decide +kernel
theorem dL_scripts_36 : decode cL_scripts 36 = .ok (.aload_n 0, 1) := by decide +kernel
theorem dL_scripts_37 : decode cL_scripts 37 = .ok (.iload_n 1, 1) := by decide +kernel
theorem dL_scripts_38 : decode cL_scripts 38 = .ok (.i2l, 1) := by decide +kernel
theorem dL_scripts_39 : decode cL_scripts 39 = .ok (.ldc2_w 222, 3) := by decide +kernel
theorem dL_scripts_42 : decode cL_scripts 42 = .ok (.lmul, 1) := by decide +kernel
theorem dL_scripts_43 : decode cL_scripts 43 = .ok (.bipush 20, 2) := by decide +kernel
theorem dL_scripts_45 : decode cL_scripts 45 = .ok (.invokestatic 204, 3) := by decide +kernel
theorem dL_scripts_48 : decode cL_scripts 48 = .ok (.istore 7, 2) := by decide +kernel
theorem dL_scripts_50 : decode cL_scripts 50 = .ok (.aload_n 0, 1) := by decide +kernel
theorem dL_scripts_51 : decode cL_scripts 51 = .ok (.iconst 1, 1) := by decide +kernel
theorem dL_scripts_52 : decode cL_scripts 52 = .ok (.ldc2_w 224, 3) := by decide +kernel
theorem dL_scripts_55 : decode cL_scripts 55 = .ok (.iload_n 2, 1) := by decide +kernel
theorem dL_scripts_56 : decode cL_scripts 56 = .ok (.i2l, 1) := by decide +kernel
theorem dL_scripts_57 : decode cL_scripts 57 = .ok (.ladd, 1) := by decide +kernel
theorem dL_scripts_58 : decode cL_scripts 58 = .ok (.invokestatic 198, 3) := by decide +kernel
theorem dL_scripts_61 : decode cL_scripts 61 = .ok (.bipush (-9), 2) := by decide +kernel
theorem dL_scripts_63 : decode cL_scripts 63 = .ok (.if_icmp .ne 190, 3) := by decide +kernel
theorem dL_scripts_66 : decode cL_scripts 66 = .ok (.iload_n 2, 1) := by decide +kernel
theorem dL_scripts_67 : decode cL_scripts 67 = .ok (.bipush 99, 2) := by decide +kernel
theorem dL_scripts_69 : decode cL_scripts 69 = .ok (.if_icmp .eq 17, 3) := by decide +kernel
theorem dL_scripts_72 : decode cL_scripts 72 = .ok (.aload_n 0, 1) := by decide +kernel
theorem dL_scripts_73 : decode cL_scripts 73 = .ok (.iconst 1, 1) := by decide +kernel
theorem dL_scripts_74 : decode cL_scripts 74 = .ok (.ldc2_w 226, 3) := by decide +kernel
theorem dL_scripts_77 : decode cL_scripts 77 = .ok (.iload_n 2, 1) := by decide +kernel
theorem dL_scripts_78 : decode cL_scripts 78 = .ok (.i2l, 1) := by decide +kernel
theorem dL_scripts_79 : decode cL_scripts 79 = .ok (.ladd, 1) := by decide +kernel
theorem dL_scripts_80 : decode cL_scripts 80 = .ok (.invokestatic 198, 3) := by decide +kernel
theorem dL_scripts_83 : decode cL_scripts 83 = .ok (.ifCond .ne 170, 3) := by decide +kernel
theorem dL_scripts_86 : decode cL_scripts 86 = .ok (.aload_n 0, 1) := by decide +kernel
theorem dL_scripts_87 : decode cL_scripts 87 = .ok (.iconst 1, 1) := by decide +kernel
theorem dL_scripts_88 : decode cL_scripts 88 = .ok (.ldc2_w 228, 3) := by decide +kernel
theorem dL_scripts_91 : decode cL_scripts 91 = .ok (.ldc2_w 230, 3) := by decide +kernel
theorem dL_scripts_94 : decode cL_scripts 94 = .ok (.iload 4, 2) := by decide +kernel
theorem dL_scripts_96 : decode cL_scripts 96 = .ok (.i2l, 1) := by decide +kernel
theorem dL_scripts_97 : decode cL_scripts 97 = .ok (.lmul, 1) := by decide +kernel
theorem dL_scripts_98 : decode cL_scripts 98 = .ok (.ladd, 1) := by decide +kernel
theorem dL_scripts_99 : decode cL_scripts 99 = .ok (.iload 5, 2) := by decide +kernel
theorem dL_scripts_101 : decode cL_scripts 101 = .ok (.i2l, 1) := by decide +kernel
theorem dL_scripts_102 : decode cL_scripts 102 = .ok (.ladd, 1) := by decide +kernel
theorem dL_scripts_103 : decode cL_scripts 103 = .ok (.invokestatic 198, 3) := by decide +kernel
theorem dL_scripts_106 : decode cL_scripts 106 = .ok (.bipush (-9), 2) := by decide +kernel
theorem dL_scripts_108 : decode cL_scripts 108 = .ok (.if_icmp .ne 145, 3) := by decide +kernel
theorem dL_scripts_111 : decode cL_scripts 111 = .ok (.aload_n 0, 1) := by decide +kernel
theorem dL_scripts_112 : decode cL_scripts 112 = .ok (.iconst 1, 1) := by decide +kernel
theorem dL_scripts_113 : decode cL_scripts 113 = .ok (.ldc2_w 232, 3) := by decide +kernel
theorem dL_scripts_116 : decode cL_scripts 116 = .ok (.ldc2_w 230, 3) := by decide +kernel
theorem dL_scripts_119 : decode cL_scripts 119 = .ok (.iload 4, 2) := by decide +kernel
theorem dL_scripts_121 : decode cL_scripts 121 = .ok (.i2l, 1) := by decide +kernel
theorem dL_scripts_122 : decode cL_scripts 122 = .ok (.lmul, 1) := by decide +kernel
theorem dL_scripts_123 : decode cL_scripts 123 = .ok (.ladd, 1) := by decide +kernel
theorem dL_scripts_124 : decode cL_scripts 124 = .ok (.invokestatic 198, 3) := by decide +kernel
theorem dL_scripts_127 : decode cL_scripts 127 = .ok (.ifCond .ne 126, 3) := by decide +kernel
theorem dL_scripts_130 : decode cL_scripts 130 = .ok (.iload 6, 2) := by decide +kernel
theorem dL_scripts_132 : decode cL_scripts 132 = .ok (.bipush 9, 2) := by decide +kernel
theorem dL_scripts_134 : decode cL_scripts 134 = .ok (.if_icmp .gt 20, 3) := by decide +kernel
theorem dL_scripts_137 : decode cL_scripts 137 = .ok (.aload_n 0, 1) := by decide +kernel
theorem dL_scripts_138 : decode cL_scripts 138 = .ok (.iconst 1, 1) := by decide +kernel
theorem dL_scripts_139 : decode cL_scripts 139 = .ok (.ldc2_w 234, 3) := by decide +kernel
theorem dL_scripts_142 : decode cL_scripts 142 = .ok (.iload 6, 2) := by decide +kernel
theorem dL_scripts_144 : decode cL_scripts 144 = .ok (.i2l, 1) := by decide +kernel
theorem dL_scripts_145 : decode cL_scripts 145 = .ok (.ladd, 1) := by decide +kernel
theorem dL_scripts_146 : decode cL_scripts 146 = .ok (.invokestatic 198, 3) := by decide +kernel
theorem dL_scripts_149 : decode cL_scripts 149 = .ok (.bipush (-9), 2) := by decide +kernel
theorem dL_scripts_151 : decode cL_scripts 151 = .ok (.if_icmp .ne 102, 3) := by decide +kernel
theorem dL_scripts_154 : decode cL_scripts 154 = .ok (.aload_n 0, 1) := by decide +kernel
theorem dL_scripts_155 : decode cL_scripts 155 = .ok (.iconst 1, 1) := by decide +kernel
theorem dL_scripts_156 : decode cL_scripts 156 = .ok (.ldc2_w 236, 3) := by decide +kernel
theorem dL_scripts_159 : decode cL_scripts 159 = .ok (.ldc2_w 230, 3) := by decide +kernel
theorem dL_scripts_162 : decode cL_scripts 162 = .ok (.iload 4, 2) := by decide +kernel
theorem dL_scripts_164 : decode cL_scripts 164 = .ok (.i2l, 1) := by decide +kernel
theorem dL_scripts_165 : decode cL_scripts 165 = .ok (.lmul, 1) := by decide +kernel
theorem dL_scripts_166 : decode cL_scripts 166 = .ok (.ladd, 1) := by decide +kernel
theorem dL_scripts_167 : decode cL_scripts 167 = .ok (.invokestatic 198, 3) := by decide +kernel
theorem dL_scripts_170 : decode cL_scripts 170 = .ok (.iload 5, 2) := by decide +kernel
theorem dL_scripts_172 : decode cL_scripts 172 = .ok (.iconst 4, 1) := by decide +kernel
theorem dL_scripts_173 : decode cL_scripts 173 = .ok (.if_icmp .ne 7, 3) := by decide +kernel
theorem dL_scripts_176 : decode cL_scripts 176 = .ok (.iconst 0, 1) := by decide +kernel
theorem dL_scripts_177 : decode cL_scripts 177 = .ok (.goto 5, 3) := by decide +kernel
theorem dL_scripts_180 : decode cL_scripts 180 = .ok (.bipush (-9), 2) := by decide +kernel
theorem dL_scripts_182 : decode cL_scripts 182 = .ok (.if_icmp .ne 71, 3) := by decide +kernel
theorem dL_scripts_185 : decode cL_scripts 185 = .ok (.aload_n 0, 1) := by decide +kernel
theorem dL_scripts_186 : decode cL_scripts 186 = .ok (.iconst 1, 1) := by decide +kernel
theorem dL_scripts_187 : decode cL_scripts 187 = .ok (.ldc2_w 238, 3) := by decide +kernel
theorem dL_scripts_190 : decode cL_scripts 190 = .ok (.ldc2_w 230, 3) := by decide +kernel
theorem dL_scripts_193 : decode cL_scripts 193 = .ok (.iload 4, 2) := by decide +kernel
theorem dL_scripts_195 : decode cL_scripts 195 = .ok (.i2l, 1) := by decide +kernel
theorem dL_scripts_196 : decode cL_scripts 196 = .ok (.lmul, 1) := by decide +kernel
theorem dL_scripts_197 : decode cL_scripts 197 = .ok (.ladd, 1) := by decide +kernel
theorem dL_scripts_198 : decode cL_scripts 198 = .ok (.invokestatic 198, 3) := by decide +kernel
theorem dL_scripts_201 : decode cL_scripts 201 = .ok (.iload 5, 2) := by decide +kernel
theorem dL_scripts_203 : decode cL_scripts 203 = .ok (.iconst 4, 1) := by decide +kernel
theorem dL_scripts_204 : decode cL_scripts 204 = .ok (.if_icmp .ne 8, 3) := by decide +kernel
theorem dL_scripts_207 : decode cL_scripts 207 = .ok (.bipush (-9), 2) := by decide +kernel
theorem dL_scripts_209 : decode cL_scripts 209 = .ok (.goto 4, 3) := by decide +kernel
theorem dL_scripts_212 : decode cL_scripts 212 = .ok (.iconst 0, 1) := by decide +kernel
theorem dL_scripts_213 : decode cL_scripts 213 = .ok (.if_icmp .ne 40, 3) := by decide +kernel
theorem dL_scripts_216 : decode cL_scripts 216 = .ok (.aload_n 0, 1) := by decide +kernel
theorem dL_scripts_217 : decode cL_scripts 217 = .ok (.iconst 1, 1) := by decide +kernel
theorem dL_scripts_218 : decode cL_scripts 218 = .ok (.ldc2_w 240, 3) := by decide +kernel
theorem dL_scripts_221 : decode cL_scripts 221 = .ok (.invokestatic 198, 3) := by decide +kernel
theorem dL_scripts_224 : decode cL_scripts 224 = .ok (.ifCond .ne 29, 3) := by decide +kernel
theorem dL_scripts_227 : decode cL_scripts 227 = .ok (.aload_n 0, 1) := by decide +kernel
theorem dL_scripts_228 : decode cL_scripts 228 = .ok (.iconst 1, 1) := by decide +kernel
theorem dL_scripts_229 : decode cL_scripts 229 = .ok (.ldc2_w 242, 3) := by decide +kernel
theorem dL_scripts_232 : decode cL_scripts 232 = .ok (.invokestatic 198, 3) := by decide +kernel
theorem dL_scripts_235 : decode cL_scripts 235 = .ok (.ifCond .ne 18, 3) := by decide +kernel
theorem dL_scripts_238 : decode cL_scripts 238 = .ok (.aload_n 0, 1) := by decide +kernel
theorem dL_scripts_239 : decode cL_scripts 239 = .ok (.iconst 1, 1) := by decide +kernel
theorem dL_scripts_240 : decode cL_scripts 240 = .ok (.ldc2_w 244, 3) := by decide +kernel
theorem dL_scripts_243 : decode cL_scripts 243 = .ok (.invokestatic 198, 3) := by decide +kernel
theorem dL_scripts_246 : decode cL_scripts 246 = .ok (.ifCond .ne 7, 3) := by decide +kernel
theorem dL_scripts_249 : decode cL_scripts 249 = .ok (.iconst 1, 1) := by decide +kernel
theorem dL_scripts_250 : decode cL_scripts 250 = .ok (.goto 4, 3) := by decide +kernel
theorem dL_scripts_253 : decode cL_scripts 253 = .ok (.iconst 0, 1) := by decide +kernel
theorem dL_scripts_254 : decode cL_scripts 254 = .ok (.istore 8, 2) := by decide +kernel
theorem dL_scripts_256 : decode cL_scripts 256 = .ok (.iload 8, 2) := by decide +kernel
theorem dL_scripts_258 : decode cL_scripts 258 = .ok (.ifCond .eq 150, 3) := by decide +kernel
theorem dL_scripts_261 : decode cL_scripts 261 = .ok (.aload_n 0, 1) := by decide +kernel
theorem dL_scripts_262 : decode cL_scripts 262 = .ok (.iconst 1, 1) := by decide +kernel
theorem dL_scripts_263 : decode cL_scripts 263 = .ok (.ldc2_w 246, 3) := by decide +kernel
theorem dL_scripts_266 : decode cL_scripts 266 = .ok (.invokestatic 198, 3) := by decide +kernel
theorem dL_scripts_269 : decode cL_scripts 269 = .ok (.ifCond .ne 139, 3) := by decide +kernel
theorem dL_scripts_272 : decode cL_scripts 272 = .ok (.aload_n 0, 1) := by decide +kernel
theorem dL_scripts_273 : decode cL_scripts 273 = .ok (.iconst 1, 1) := by decide +kernel
theorem dL_scripts_274 : decode cL_scripts 274 = .ok (.ldc2_w 248, 3) := by decide +kernel
theorem dL_scripts_277 : decode cL_scripts 277 = .ok (.invokestatic 198, 3) := by decide +kernel
theorem dL_scripts_280 : decode cL_scripts 280 = .ok (.ifCond .ne 128, 3) := by decide +kernel
theorem dL_scripts_283 : decode cL_scripts 283 = .ok (.aload_n 0, 1) := by decide +kernel
theorem dL_scripts_284 : decode cL_scripts 284 = .ok (.iconst 2, 1) := by decide +kernel
theorem dL_scripts_285 : decode cL_scripts 285 = .ok (.ldc2_w 250, 3) := by decide +kernel
theorem dL_scripts_288 : decode cL_scripts 288 = .ok (.invokestatic 198, 3) := by decide +kernel
theorem dL_scripts_291 : decode cL_scripts 291 = .ok (.bipush (-9), 2) := by decide +kernel
theorem dL_scripts_293 : decode cL_scripts 293 = .ok (.if_icmp .ne 115, 3) := by decide +kernel
theorem dL_scripts_296 : decode cL_scripts 296 = .ok (.aload_n 0, 1) := by decide +kernel
theorem dL_scripts_297 : decode cL_scripts 297 = .ok (.iconst 1, 1) := by decide +kernel
theorem dL_scripts_298 : decode cL_scripts 298 = .ok (.ldc2_w 252, 3) := by decide +kernel
theorem dL_scripts_301 : decode cL_scripts 301 = .ok (.invokestatic 198, 3) := by decide +kernel
theorem dL_scripts_304 : decode cL_scripts 304 = .ok (.ifCond .ne 104, 3) := by decide +kernel
theorem dL_scripts_307 : decode cL_scripts 307 = .ok (.aload_n 0, 1) := by decide +kernel
theorem dL_scripts_308 : decode cL_scripts 308 = .ok (.iconst 1, 1) := by decide +kernel
theorem dL_scripts_309 : decode cL_scripts 309 = .ok (.ldc2_w 254, 3) := by decide +kernel
theorem dL_scripts_312 : decode cL_scripts 312 = .ok (.invokestatic 198, 3) := by decide +kernel
theorem dL_scripts_315 : decode cL_scripts 315 = .ok (.bipush (-9), 2) := by decide +kernel
theorem dL_scripts_317 : decode cL_scripts 317 = .ok (.if_icmp .ne 91, 3) := by decide +kernel
theorem dL_scripts_320 : decode cL_scripts 320 = .ok (.aload_n 0, 1) := by decide +kernel
theorem dL_scripts_321 : decode cL_scripts 321 = .ok (.iconst 1, 1) := by decide +kernel
theorem dL_scripts_322 : decode cL_scripts 322 = .ok (.ldc2_w 256, 3) := by decide +kernel
theorem dL_scripts_325 : decode cL_scripts 325 = .ok (.invokestatic 198, 3) := by decide +kernel
theorem dL_scripts_328 : decode cL_scripts 328 = .ok (.ifCond .ne 80, 3) := by decide +kernel
theorem dL_scripts_331 : decode cL_scripts 331 = .ok (.aload_n 0, 1) := by decide +kernel
theorem dL_scripts_332 : decode cL_scripts 332 = .ok (.iconst 1, 1) := by decide +kernel
theorem dL_scripts_333 : decode cL_scripts 333 = .ok (.ldc2_w 258, 3) := by decide +kernel
theorem dL_scripts_336 : decode cL_scripts 336 = .ok (.invokestatic 198, 3) := by decide +kernel
theorem dL_scripts_339 : decode cL_scripts 339 = .ok (.ifCond .ne 69, 3) := by decide +kernel
theorem dL_scripts_342 : decode cL_scripts 342 = .ok (.aload_n 0, 1) := by decide +kernel
theorem dL_scripts_343 : decode cL_scripts 343 = .ok (.iconst 1, 1) := by decide +kernel
theorem dL_scripts_344 : decode cL_scripts 344 = .ok (.ldc2_w 260, 3) := by decide +kernel
theorem dL_scripts_347 : decode cL_scripts 347 = .ok (.invokestatic 198, 3) := by decide +kernel
theorem dL_scripts_350 : decode cL_scripts 350 = .ok (.bipush (-9), 2) := by decide +kernel
theorem dL_scripts_352 : decode cL_scripts 352 = .ok (.if_icmp .ne 56, 3) := by decide +kernel
theorem dL_scripts_355 : decode cL_scripts 355 = .ok (.aload_n 0, 1) := by decide +kernel
theorem dL_scripts_356 : decode cL_scripts 356 = .ok (.iconst 1, 1) := by decide +kernel
theorem dL_scripts_357 : decode cL_scripts 357 = .ok (.ldc2_w 236, 3) := by decide +kernel
theorem dL_scripts_360 : decode cL_scripts 360 = .ok (.ldc2_w 230, 3) := by decide +kernel
theorem dL_scripts_363 : decode cL_scripts 363 = .ok (.iload_n 3, 1) := by decide +kernel
theorem dL_scripts_364 : decode cL_scripts 364 = .ok (.i2l, 1) := by decide +kernel
theorem dL_scripts_365 : decode cL_scripts 365 = .ok (.lmul, 1) := by decide +kernel
theorem dL_scripts_366 : decode cL_scripts 366 = .ok (.ladd, 1) := by decide +kernel
theorem dL_scripts_367 : decode cL_scripts 367 = .ok (.invokestatic 198, 3) := by decide +kernel
theorem dL_scripts_370 : decode cL_scripts 370 = .ok (.ifCond .ne 38, 3) := by decide +kernel
theorem dL_scripts_373 : decode cL_scripts 373 = .ok (.aload_n 0, 1) := by decide +kernel
theorem dL_scripts_374 : decode cL_scripts 374 = .ok (.iconst 1, 1) := by decide +kernel
theorem dL_scripts_375 : decode cL_scripts 375 = .ok (.lconst 0, 1) := by decide +kernel
theorem dL_scripts_376 : decode cL_scripts 376 = .ok (.invokestatic 198, 3) := by decide +kernel
theorem dL_scripts_379 : decode cL_scripts 379 = .ok (.ifCond .ne 29, 3) := by decide +kernel
theorem dL_scripts_382 : decode cL_scripts 382 = .ok (.iload 7, 2) := by decide +kernel
theorem dL_scripts_384 : decode cL_scripts 384 = .ok (.ifCond .lt 24, 3) := by decide +kernel
theorem dL_scripts_387 : decode cL_scripts 387 = .ok (.iload 7, 2) := by decide +kernel
theorem dL_scripts_389 : decode cL_scripts 389 = .ok (.aload_n 0, 1) := by decide +kernel
theorem dL_scripts_390 : decode cL_scripts 390 = .ok (.iload_n 1, 1) := by decide +kernel
theorem dL_scripts_391 : decode cL_scripts 391 = .ok (.i2l, 1) := by decide +kernel
theorem dL_scripts_392 : decode cL_scripts 392 = .ok (.ldc2_w 222, 3) := by decide +kernel
theorem dL_scripts_395 : decode cL_scripts 395 = .ok (.lmul, 1) := by decide +kernel
theorem dL_scripts_396 : decode cL_scripts 396 = .ok (.bipush 20, 2) := by decide +kernel
theorem dL_scripts_398 : decode cL_scripts 398 = .ok (.invokestatic 204, 3) := by decide +kernel
theorem dL_scripts_401 : decode cL_scripts 401 = .ok (.if_icmp .ne 7, 3) := by decide +kernel
theorem dL_scripts_404 : decode cL_scripts 404 = .ok (.iconst 1, 1) := by decide +kernel
theorem dL_scripts_405 : decode cL_scripts 405 = .ok (.goto 4, 3) := by decide +kernel
theorem dL_scripts_408 : decode cL_scripts 408 = .ok (.iconst 0, 1) := by decide +kernel
theorem dL_scripts_409 : decode cL_scripts 409 = .ok (.ireturn, 1) := by decide +kernel
theorem dL_act_0 : decode cL_act 0 = .ok (.iload_n 2, 1) := by decide +kernel
theorem dL_act_1 : decode cL_act 1 = .ok (.aload_n 0, 1) := by decide +kernel
theorem dL_act_2 : decode cL_act 2 = .ok (.bipush 6, 2) := by decide +kernel
theorem dL_act_4 : decode cL_act 4 = .ok (.invokestatic 129, 3) := by decide +kernel
theorem dL_act_7 : decode cL_act 7 = .ok (.irem, 1) := by decide +kernel
theorem dL_act_8 : decode cL_act 8 = .ok (.istore_n 3, 1) := by decide +kernel
theorem dL_act_9 : decode cL_act 9 = .ok (.iload_n 1, 1) := by decide +kernel
theorem dL_act_10 : decode cL_act 10 = .ok (.bipush 16, 2) := by decide +kernel
theorem dL_act_12 : decode cL_act 12 = .ok (.irem, 1) := by decide +kernel
theorem dL_act_13 : decode cL_act 13 = .ok (.tableswitch 206 0 14 #[75, 75, 75, 75, 75, 92, 103, 116, 135, 148, 169, 183, 189, 195, 201], 75) := by decide +kernel
theorem dL_act_88 : decode cL_act 88 = .ok (.aload_n 0, 1) := by decide +kernel
theorem dL_act_89 : decode cL_act 89 = .ok (.iconst 1, 1) := by decide +kernel
theorem dL_act_90 : decode cL_act 90 = .ok (.iload_n 2, 1) := by decide +kernel
theorem dL_act_91 : decode cL_act 91 = .ok (.bipush 30, 2) := by decide +kernel
theorem dL_act_93 : decode cL_act 93 = .ok (.irem, 1) := by decide +kernel
theorem dL_act_94 : decode cL_act 94 = .ok (.iadd, 1) := by decide +kernel
theorem dL_act_95 : decode cL_act 95 = .ok (.iload_n 2, 1) := by decide +kernel
theorem dL_act_96 : decode cL_act 96 = .ok (.bipush 32, 2) := by decide +kernel
theorem dL_act_98 : decode cL_act 98 = .ok (.idiv, 1) := by decide +kernel
theorem dL_act_99 : decode cL_act 99 = .ok (.iconst 4, 1) := by decide +kernel
theorem dL_act_100 : decode cL_act 100 = .ok (.irem, 1) := by decide +kernel
theorem dL_act_101 : decode cL_act 101 = .ok (.invokestatic 154, 3) := by decide +kernel
theorem dL_act_104 : decode cL_act 104 = .ok (.ireturn, 1) := by decide +kernel
theorem dL_act_105 : decode cL_act 105 = .ok (.aload_n 0, 1) := by decide +kernel
theorem dL_act_106 : decode cL_act 106 = .ok (.iconst 1, 1) := by decide +kernel
theorem dL_act_107 : decode cL_act 107 = .ok (.iload_n 2, 1) := by decide +kernel
theorem dL_act_108 : decode cL_act 108 = .ok (.bipush 8, 2) := by decide +kernel
theorem dL_act_110 : decode cL_act 110 = .ok (.irem, 1) := by decide +kernel
theorem dL_act_111 : decode cL_act 111 = .ok (.iadd, 1) := by decide +kernel
theorem dL_act_112 : decode cL_act 112 = .ok (.invokestatic 157, 3) := by decide +kernel
theorem dL_act_115 : decode cL_act 115 = .ok (.ireturn, 1) := by decide +kernel
theorem dL_act_116 : decode cL_act 116 = .ok (.aload_n 0, 1) := by decide +kernel
theorem dL_act_117 : decode cL_act 117 = .ok (.iconst 0, 1) := by decide +kernel
theorem dL_act_118 : decode cL_act 118 = .ok (.bipush 40, 2) := by decide +kernel
theorem dL_act_120 : decode cL_act 120 = .ok (.iload_n 2, 1) := by decide +kernel
theorem dL_act_121 : decode cL_act 121 = .ok (.bipush 41, 2) := by decide +kernel
theorem dL_act_123 : decode cL_act 123 = .ok (.irem, 1) := by decide +kernel
theorem dL_act_124 : decode cL_act 124 = .ok (.iadd, 1) := by decide +kernel
theorem dL_act_125 : decode cL_act 125 = .ok (.invokestatic 160, 3) := by decide +kernel
theorem dL_act_128 : decode cL_act 128 = .ok (.ireturn, 1) := by decide +kernel
theorem dL_act_129 : decode cL_act 129 = .ok (.aload_n 0, 1) := by decide +kernel
theorem dL_act_130 : decode cL_act 130 = .ok (.iconst 2, 1) := by decide +kernel
theorem dL_act_131 : decode cL_act 131 = .ok (.iconst 2, 1) := by decide +kernel
theorem dL_act_132 : decode cL_act 132 = .ok (.iload_n 2, 1) := by decide +kernel
theorem dL_act_133 : decode cL_act 133 = .ok (.iconst 2, 1) := by decide +kernel
theorem dL_act_134 : decode cL_act 134 = .ok (.irem, 1) := by decide +kernel
theorem dL_act_135 : decode cL_act 135 = .ok (.imul, 1) := by decide +kernel
theorem dL_act_136 : decode cL_act 136 = .ok (.iadd, 1) := by decide +kernel
theorem dL_act_137 : decode cL_act 137 = .ok (.iconst 1, 1) := by decide +kernel
theorem dL_act_138 : decode cL_act 138 = .ok (.iload_n 2, 1) := by decide +kernel
theorem dL_act_139 : decode cL_act 139 = .ok (.iconst 2, 1) := by decide +kernel
theorem dL_act_140 : decode cL_act 140 = .ok (.idiv, 1) := by decide +kernel
theorem dL_act_141 : decode cL_act 141 = .ok (.iconst 5, 1) := by decide +kernel
theorem dL_act_142 : decode cL_act 142 = .ok (.irem, 1) := by decide +kernel
theorem dL_act_143 : decode cL_act 143 = .ok (.iadd, 1) := by decide +kernel
theorem dL_act_144 : decode cL_act 144 = .ok (.invokestatic 160, 3) := by decide +kernel
theorem dL_act_147 : decode cL_act 147 = .ok (.ireturn, 1) := by decide +kernel
theorem dL_act_148 : decode cL_act 148 = .ok (.aload_n 0, 1) := by decide +kernel
theorem dL_act_149 : decode cL_act 149 = .ok (.iconst 3, 1) := by decide +kernel
theorem dL_act_150 : decode cL_act 150 = .ok (.bipush 60, 2) := by decide +kernel
theorem dL_act_152 : decode cL_act 152 = .ok (.iload_n 2, 1) := by decide +kernel
theorem dL_act_153 : decode cL_act 153 = .ok (.bipush 31, 2) := by decide +kernel
theorem dL_act_155 : decode cL_act 155 = .ok (.irem, 1) := by decide +kernel
theorem dL_act_156 : decode cL_act 156 = .ok (.iadd, 1) := by decide +kernel
theorem dL_act_157 : decode cL_act 157 = .ok (.invokestatic 160, 3) := by decide +kernel
theorem dL_act_160 : decode cL_act 160 = .ok (.ireturn, 1) := by decide +kernel
theorem dL_act_161 : decode cL_act 161 = .ok (.aload_n 0, 1) := by decide +kernel
theorem dL_act_162 : decode cL_act 162 = .ok (.iload_n 2, 1) := by decide +kernel
theorem dL_act_163 : decode cL_act 163 = .ok (.iconst 2, 1) := by decide +kernel
theorem dL_act_164 : decode cL_act 164 = .ok (.irem, 1) := by decide +kernel
theorem dL_act_165 : decode cL_act 165 = .ok (.iload_n 2, 1) := by decide +kernel
theorem dL_act_166 : decode cL_act 166 = .ok (.iconst 2, 1) := by decide +kernel
theorem dL_act_167 : decode cL_act 167 = .ok (.idiv, 1) := by decide +kernel
theorem dL_act_168 : decode cL_act 168 = .ok (.iconst 3, 1) := by decide +kernel
theorem dL_act_169 : decode cL_act 169 = .ok (.irem, 1) := by decide +kernel
theorem dL_act_170 : decode cL_act 170 = .ok (.ifCond .le 7, 3) := by decide +kernel
theorem dL_act_173 : decode cL_act 173 = .ok (.iconst 1, 1) := by decide +kernel
theorem dL_act_174 : decode cL_act 174 = .ok (.goto 4, 3) := by decide +kernel
theorem dL_act_177 : decode cL_act 177 = .ok (.iconst 0, 1) := by decide +kernel
theorem dL_act_178 : decode cL_act 178 = .ok (.invokestatic 163, 3) := by decide +kernel
theorem dL_act_181 : decode cL_act 181 = .ok (.ireturn, 1) := by decide +kernel
theorem dL_act_182 : decode cL_act 182 = .ok (.aload_n 0, 1) := by decide +kernel
theorem dL_act_183 : decode cL_act 183 = .ok (.iload_n 2, 1) := by decide +kernel
theorem dL_act_184 : decode cL_act 184 = .ok (.iconst 2, 1) := by decide +kernel
theorem dL_act_185 : decode cL_act 185 = .ok (.irem, 1) := by decide +kernel
theorem dL_act_186 : decode cL_act 186 = .ok (.iload_n 2, 1) := by decide +kernel
theorem dL_act_187 : decode cL_act 187 = .ok (.iconst 2, 1) := by decide +kernel
theorem dL_act_188 : decode cL_act 188 = .ok (.idiv, 1) := by decide +kernel
theorem dL_act_189 : decode cL_act 189 = .ok (.bipush 100, 2) := by decide +kernel
theorem dL_act_191 : decode cL_act 191 = .ok (.irem, 1) := by decide +kernel
theorem dL_act_192 : decode cL_act 192 = .ok (.invokestatic 167, 3) := by decide +kernel
theorem dL_act_195 : decode cL_act 195 = .ok (.ireturn, 1) := by decide +kernel
theorem dL_act_196 : decode cL_act 196 = .ok (.aload_n 0, 1) := by decide +kernel
theorem dL_act_197 : decode cL_act 197 = .ok (.iload_n 3, 1) := by decide +kernel
theorem dL_act_198 : decode cL_act 198 = .ok (.invokestatic 170, 3) := by decide +kernel
theorem dL_act_201 : decode cL_act 201 = .ok (.ireturn, 1) := by decide +kernel
theorem dL_act_202 : decode cL_act 202 = .ok (.aload_n 0, 1) := by decide +kernel
theorem dL_act_203 : decode cL_act 203 = .ok (.iload_n 3, 1) := by decide +kernel
theorem dL_act_204 : decode cL_act 204 = .ok (.invokestatic 173, 3) := by decide +kernel
theorem dL_act_207 : decode cL_act 207 = .ok (.ireturn, 1) := by decide +kernel
theorem dL_act_208 : decode cL_act 208 = .ok (.aload_n 0, 1) := by decide +kernel
theorem dL_act_209 : decode cL_act 209 = .ok (.iload_n 3, 1) := by decide +kernel
theorem dL_act_210 : decode cL_act 210 = .ok (.invokestatic 176, 3) := by decide +kernel
theorem dL_act_213 : decode cL_act 213 = .ok (.ireturn, 1) := by decide +kernel
theorem dL_act_214 : decode cL_act 214 = .ok (.aload_n 0, 1) := by decide +kernel
theorem dL_act_215 : decode cL_act 215 = .ok (.invokestatic 139, 3) := by decide +kernel
theorem dL_act_218 : decode cL_act 218 = .ok (.ireturn, 1) := by decide +kernel
theorem dL_act_219 : decode cL_act 219 = .ok (.iload_n 2, 1) := by decide +kernel
theorem dL_act_220 : decode cL_act 220 = .ok (.iconst 2, 1) := by decide +kernel
theorem dL_act_221 : decode cL_act 221 = .ok (.irem, 1) := by decide +kernel
theorem dL_act_222 : decode cL_act 222 = .ok (.ifCond .ne 11, 3) := by decide +kernel
theorem dL_act_225 : decode cL_act 225 = .ok (.aload_n 0, 1) := by decide +kernel
theorem dL_act_226 : decode cL_act 226 = .ok (.iconst 1, 1) := by decide +kernel
theorem dL_act_227 : decode cL_act 227 = .ok (.invokestatic 208, 3) := by decide +kernel
theorem dL_act_230 : decode cL_act 230 = .ok (.goto 8, 3) := by decide +kernel
theorem dL_act_233 : decode cL_act 233 = .ok (.aload_n 0, 1) := by decide +kernel
theorem dL_act_234 : decode cL_act 234 = .ok (.iconst 1, 1) := by decide +kernel
theorem dL_act_235 : decode cL_act 235 = .ok (.invokestatic 142, 3) := by decide +kernel
theorem dL_act_238 : decode cL_act 238 = .ok (.ireturn, 1) := by decide +kernel
theorem dL_law_0 : decode cL_law 0 = .ok (.new 8, 3) := by decide +kernel
theorem dL_law_3 : decode cL_law 3 = .ok (.dup, 1) := by decide +kernel
theorem dL_law_4 : decode cL_law 4 = .ok (.invokespecial 262, 3) := by decide +kernel
theorem dL_law_7 : decode cL_law 7 = .ok (.astore_n 1, 1) := by decide +kernel
theorem dL_law_8 : decode cL_law 8 = .ok (.new 8, 3) := by decide +kernel
theorem dL_law_11 : decode cL_law 11 = .ok (.dup, 1) := by decide +kernel
theorem dL_law_12 : decode cL_law 12 = .ok (.invokespecial 262, 3) := by decide +kernel
theorem dL_law_15 : decode cL_law 15 = .ok (.astore_n 2, 1) := by decide +kernel
theorem dL_law_16 : decode cL_law 16 = .ok (.aload_n 1, 1) := by decide +kernel
theorem dL_law_17 : decode cL_law 17 = .ok (.invokevirtual 119, 3) := by decide +kernel
theorem dL_law_20 : decode cL_law 20 = .ok (.ifCond .ne 60, 3) := by decide +kernel
theorem dL_law_23 : decode cL_law 23 = .ok (.aload_n 1, 1) := by decide +kernel
theorem dL_law_24 : decode cL_law 24 = .ok (.bipush 6, 2) := by decide +kernel
theorem dL_law_26 : decode cL_law 26 = .ok (.invokestatic 129, 3) := by decide +kernel
theorem dL_law_29 : decode cL_law 29 = .ok (.iconst 1, 1) := by decide +kernel
theorem dL_law_30 : decode cL_law 30 = .ok (.if_icmp .ne 50, 3) := by decide +kernel
theorem dL_law_33 : decode cL_law 33 = .ok (.aload_n 1, 1) := by decide +kernel
theorem dL_law_34 : decode cL_law 34 = .ok (.bipush 9, 2) := by decide +kernel
theorem dL_law_36 : decode cL_law 36 = .ok (.invokestatic 129, 3) := by decide +kernel
theorem dL_law_39 : decode cL_law 39 = .ok (.bipush 40, 2) := by decide +kernel
theorem dL_law_41 : decode cL_law 41 = .ok (.if_icmp .ne 39, 3) := by decide +kernel
theorem dL_law_44 : decode cL_law 44 = .ok (.aload_n 1, 1) := by decide +kernel
theorem dL_law_45 : decode cL_law 45 = .ok (.invokestatic 139, 3) := by decide +kernel
theorem dL_law_48 : decode cL_law 48 = .ok (.sipush (-1003), 3) := by decide +kernel
theorem dL_law_51 : decode cL_law 51 = .ok (.if_icmp .ne 29, 3) := by decide +kernel
theorem dL_law_54 : decode cL_law 54 = .ok (.aload_n 2, 1) := by decide +kernel
theorem dL_law_55 : decode cL_law 55 = .ok (.invokestatic 263, 3) := by decide +kernel
theorem dL_law_58 : decode cL_law 58 = .ok (.ifCond .eq 22, 3) := by decide +kernel
theorem dL_law_61 : decode cL_law 61 = .ok (.aload_n 1, 1) := by decide +kernel
theorem dL_law_62 : decode cL_law 62 = .ok (.aload_n 2, 1) := by decide +kernel
theorem dL_law_63 : decode cL_law 63 = .ok (.invokestatic 266, 3) := by decide +kernel
theorem dL_law_66 : decode cL_law 66 = .ok (.ifCond .eq 14, 3) := by decide +kernel
theorem dL_law_69 : decode cL_law 69 = .ok (.aload_n 1, 1) := by decide +kernel
theorem dL_law_70 : decode cL_law 70 = .ok (.invokestatic 214, 3) := by decide +kernel
theorem dL_law_73 : decode cL_law 73 = .ok (.ifCond .eq 7, 3) := by decide +kernel
theorem dL_law_76 : decode cL_law 76 = .ok (.iconst 1, 1) := by decide +kernel
theorem dL_law_77 : decode cL_law 77 = .ok (.goto 4, 3) := by decide +kernel
theorem dL_law_80 : decode cL_law 80 = .ok (.iconst 0, 1) := by decide +kernel
theorem dL_law_81 : decode cL_law 81 = .ok (.istore_n 3, 1) := by decide +kernel
theorem dL_law_82 : decode cL_law 82 = .ok (.iconst 0, 1) := by decide +kernel
theorem dL_law_83 : decode cL_law 83 = .ok (.istore 4, 2) := by decide +kernel
theorem dL_law_85 : decode cL_law 85 = .ok (.iload 4, 2) := by decide +kernel
theorem dL_law_87 : decode cL_law 87 = .ok (.iconst 2, 1) := by decide +kernel
theorem dL_law_88 : decode cL_law 88 = .ok (.if_icmp .ge 281, 3) := by decide +kernel
theorem dL_law_91 : decode cL_law 91 = .ok (.iload_n 3, 1) := by decide +kernel
theorem dL_law_92 : decode cL_law 92 = .ok (.ifCond .eq 277, 3) := by decide +kernel
theorem dL_law_95 : decode cL_law 95 = .ok (.aload_n 1, 1) := by decide +kernel
theorem dL_law_96 : decode cL_law 96 = .ok (.aload_n 2, 1) := by decide +kernel
theorem dL_law_97 : decode cL_law 97 = .ok (.aload_n 0, 1) := by decide +kernel
theorem dL_law_98 : decode cL_law 98 = .ok (.bipush 40, 2) := by decide +kernel
theorem dL_law_100 : decode cL_law 100 = .ok (.iload 4, 2) := by decide +kernel
theorem dL_law_102 : decode cL_law 102 = .ok (.imul, 1) := by decide +kernel
theorem dL_law_103 : decode cL_law 103 = .ok (.invokestatic 270, 3) := by decide +kernel
theorem dL_law_106 : decode cL_law 106 = .ok (.ifCond .eq 29, 3) := by decide +kernel
theorem dL_law_109 : decode cL_law 109 = .ok (.aload_n 2, 1) := by decide +kernel
theorem dL_law_110 : decode cL_law 110 = .ok (.invokestatic 263, 3) := by decide +kernel
theorem dL_law_113 : decode cL_law 113 = .ok (.ifCond .eq 22, 3) := by decide +kernel
theorem dL_law_116 : decode cL_law 116 = .ok (.aload_n 1, 1) := by decide +kernel
theorem dL_law_117 : decode cL_law 117 = .ok (.aload_n 2, 1) := by decide +kernel
theorem dL_law_118 : decode cL_law 118 = .ok (.invokestatic 266, 3) := by decide +kernel
theorem dL_law_121 : decode cL_law 121 = .ok (.ifCond .eq 14, 3) := by decide +kernel
theorem dL_law_124 : decode cL_law 124 = .ok (.aload_n 1, 1) := by decide +kernel
theorem dL_law_125 : decode cL_law 125 = .ok (.invokestatic 214, 3) := by decide +kernel
theorem dL_law_128 : decode cL_law 128 = .ok (.ifCond .eq 7, 3) := by decide +kernel
theorem dL_law_131 : decode cL_law 131 = .ok (.iconst 1, 1) := by decide +kernel
theorem dL_law_132 : decode cL_law 132 = .ok (.goto 4, 3) := by decide +kernel
theorem dL_law_135 : decode cL_law 135 = .ok (.iconst 0, 1) := by decide +kernel
theorem dL_law_136 : decode cL_law 136 = .ok (.istore_n 3, 1) := by decide +kernel
theorem dL_law_137 : decode cL_law 137 = .ok (.iconst 0, 1) := by decide +kernel
theorem dL_law_138 : decode cL_law 138 = .ok (.istore 5, 2) := by decide +kernel
theorem dL_law_140 : decode cL_law 140 = .ok (.iload 5, 2) := by decide +kernel
theorem dL_law_142 : decode cL_law 142 = .ok (.bipush 12, 2) := by decide +kernel
theorem dL_law_144 : decode cL_law 144 = .ok (.if_icmp .ge 219, 3) := by decide +kernel
theorem dL_law_147 : decode cL_law 147 = .ok (.iload_n 3, 1) := by decide +kernel
theorem dL_law_148 : decode cL_law 148 = .ok (.ifCond .eq 215, 3) := by decide +kernel
theorem dL_law_151 : decode cL_law 151 = .ok (.aload_n 0, 1) := by decide +kernel
theorem dL_law_152 : decode cL_law 152 = .ok (.bipush 40, 2) := by decide +kernel
theorem dL_law_154 : decode cL_law 154 = .ok (.iload 4, 2) := by decide +kernel
theorem dL_law_156 : decode cL_law 156 = .ok (.imul, 1) := by decide +kernel
theorem dL_law_157 : decode cL_law 157 = .ok (.bipush 8, 2) := by decide +kernel
theorem dL_law_159 : decode cL_law 159 = .ok (.iadd, 1) := by decide +kernel
theorem dL_law_160 : decode cL_law 160 = .ok (.iconst 2, 1) := by decide +kernel
theorem dL_law_161 : decode cL_law 161 = .ok (.iload 5, 2) := by decide +kernel
theorem dL_law_163 : decode cL_law 163 = .ok (.imul, 1) := by decide +kernel
theorem dL_law_164 : decode cL_law 164 = .ok (.iadd, 1) := by decide +kernel
theorem dL_law_165 : decode cL_law 165 = .ok (.invokestatic 112, 3) := by decide +kernel
theorem dL_law_168 : decode cL_law 168 = .ok (.istore 6, 2) := by decide +kernel
theorem dL_law_170 : decode cL_law 170 = .ok (.aload_n 0, 1) := by decide +kernel
theorem dL_law_171 : decode cL_law 171 = .ok (.bipush 40, 2) := by decide +kernel
theorem dL_law_173 : decode cL_law 173 = .ok (.iload 4, 2) := by decide +kernel
theorem dL_law_175 : decode cL_law 175 = .ok (.imul, 1) := by decide +kernel
theorem dL_law_176 : decode cL_law 176 = .ok (.bipush 9, 2) := by decide +kernel
theorem dL_law_178 : decode cL_law 178 = .ok (.iadd, 1) := by decide +kernel
theorem dL_law_179 : decode cL_law 179 = .ok (.iconst 2, 1) := by decide +kernel
theorem dL_law_180 : decode cL_law 180 = .ok (.iload 5, 2) := by decide +kernel
theorem dL_law_182 : decode cL_law 182 = .ok (.imul, 1) := by decide +kernel
theorem dL_law_183 : decode cL_law 183 = .ok (.iadd, 1) := by decide +kernel
theorem dL_law_184 : decode cL_law 184 = .ok (.invokestatic 112, 3) := by decide +kernel
theorem dL_law_187 : decode cL_law 187 = .ok (.istore 7, 2) := by decide +kernel
theorem dL_law_189 : decode cL_law 189 = .ok (.aload_n 1, 1) := by decide +kernel
theorem dL_law_190 : decode cL_law 190 = .ok (.iload 6, 2) := by decide +kernel
theorem dL_law_192 : decode cL_law 192 = .ok (.iload 7, 2) := by decide +kernel
theorem dL_law_194 : decode cL_law 194 = .ok (.invokestatic 274, 3) := by decide +kernel
theorem dL_law_197 : decode cL_law 197 = .ok (.aload_n 2, 1) := by decide +kernel
theorem dL_law_198 : decode cL_law 198 = .ok (.iload 6, 2) := by decide +kernel
theorem dL_law_200 : decode cL_law 200 = .ok (.iload 7, 2) := by decide +kernel
theorem dL_law_202 : decode cL_law 202 = .ok (.invokestatic 274, 3) := by decide +kernel
theorem dL_law_205 : decode cL_law 205 = .ok (.if_icmp .ne 29, 3) := by decide +kernel
theorem dL_law_208 : decode cL_law 208 = .ok (.aload_n 2, 1) := by decide +kernel
theorem dL_law_209 : decode cL_law 209 = .ok (.invokestatic 263, 3) := by decide +kernel
theorem dL_law_212 : decode cL_law 212 = .ok (.ifCond .eq 22, 3) := by decide +kernel
theorem dL_law_215 : decode cL_law 215 = .ok (.aload_n 1, 1) := by decide +kernel
theorem dL_law_216 : decode cL_law 216 = .ok (.aload_n 2, 1) := by decide +kernel
theorem dL_law_217 : decode cL_law 217 = .ok (.invokestatic 266, 3) := by decide +kernel
theorem dL_law_220 : decode cL_law 220 = .ok (.ifCond .eq 14, 3) := by decide +kernel
theorem dL_law_223 : decode cL_law 223 = .ok (.aload_n 1, 1) := by decide +kernel
theorem dL_law_224 : decode cL_law 224 = .ok (.invokestatic 214, 3) := by decide +kernel
theorem dL_law_227 : decode cL_law 227 = .ok (.ifCond .eq 7, 3) := by decide +kernel
theorem dL_law_230 : decode cL_law 230 = .ok (.iconst 1, 1) := by decide +kernel
theorem dL_law_231 : decode cL_law 231 = .ok (.goto 4, 3) := by decide +kernel
theorem dL_law_234 : decode cL_law 234 = .ok (.iconst 0, 1) := by decide +kernel
theorem dL_law_235 : decode cL_law 235 = .ok (.istore_n 3, 1) := by decide +kernel
theorem dL_law_236 : decode cL_law 236 = .ok (.iload 5, 2) := by decide +kernel
theorem dL_law_238 : decode cL_law 238 = .ok (.iconst 4, 1) := by decide +kernel
theorem dL_law_239 : decode cL_law 239 = .ok (.irem, 1) := by decide +kernel
theorem dL_law_240 : decode cL_law 240 = .ok (.iconst 3, 1) := by decide +kernel
theorem dL_law_241 : decode cL_law 241 = .ok (.if_icmp .ne 116, 3) := by decide +kernel
theorem dL_law_244 : decode cL_law 244 = .ok (.iload_n 3, 1) := by decide +kernel
theorem dL_law_245 : decode cL_law 245 = .ok (.ifCond .eq 112, 3) := by decide +kernel
theorem dL_law_248 : decode cL_law 248 = .ok (.aload_n 1, 1) := by decide +kernel
theorem dL_law_249 : decode cL_law 249 = .ok (.bipush 8, 2) := by decide +kernel
theorem dL_law_251 : decode cL_law 251 = .ok (.invokestatic 129, 3) := by decide +kernel
theorem dL_law_254 : decode cL_law 254 = .ok (.istore 8, 2) := by decide +kernel
theorem dL_law_256 : decode cL_law 256 = .ok (.aload_n 1, 1) := by decide +kernel
theorem dL_law_257 : decode cL_law 257 = .ok (.iload 6, 2) := by decide +kernel
theorem dL_law_259 : decode cL_law 259 = .ok (.invokestatic 277, 3) := by decide +kernel
theorem dL_law_262 : decode cL_law 262 = .ok (.ifCond .eq 93, 3) := by decide +kernel
theorem dL_law_265 : decode cL_law 265 = .ok (.aload_n 2, 1) := by decide +kernel
theorem dL_law_266 : decode cL_law 266 = .ok (.iconst 0, 1) := by decide +kernel
theorem dL_law_267 : decode cL_law 267 = .ok (.invokestatic 208, 3) := by decide +kernel
theorem dL_law_270 : decode cL_law 270 = .ok (.iload 8, 2) := by decide +kernel
theorem dL_law_272 : decode cL_law 272 = .ok (.if_icmp .ne 83, 3) := by decide +kernel
theorem dL_law_275 : decode cL_law 275 = .ok (.aload_n 1, 1) := by decide +kernel
theorem dL_law_276 : decode cL_law 276 = .ok (.iconst 0, 1) := by decide +kernel
theorem dL_law_277 : decode cL_law 277 = .ok (.invokestatic 208, 3) := by decide +kernel
theorem dL_law_280 : decode cL_law 280 = .ok (.iload 8, 2) := by decide +kernel
theorem dL_law_282 : decode cL_law 282 = .ok (.if_icmp .ne 73, 3) := by decide +kernel
theorem dL_law_285 : decode cL_law 285 = .ok (.aload_n 1, 1) := by decide +kernel
theorem dL_law_286 : decode cL_law 286 = .ok (.iconst 0, 1) := by decide +kernel
theorem dL_law_287 : decode cL_law 287 = .ok (.invokestatic 142, 3) := by decide +kernel
theorem dL_law_290 : decode cL_law 290 = .ok (.iload 8, 2) := by decide +kernel
theorem dL_law_292 : decode cL_law 292 = .ok (.if_icmp .ne 63, 3) := by decide +kernel
theorem dL_law_295 : decode cL_law 295 = .ok (.aload_n 1, 1) := by decide +kernel
theorem dL_law_296 : decode cL_law 296 = .ok (.iload 7, 2) := by decide +kernel
theorem dL_law_298 : decode cL_law 298 = .ok (.invokestatic 281, 3) := by decide +kernel
theorem dL_law_301 : decode cL_law 301 = .ok (.ifCond .eq 54, 3) := by decide +kernel
theorem dL_law_304 : decode cL_law 304 = .ok (.aload_n 1, 1) := by decide +kernel
theorem dL_law_305 : decode cL_law 305 = .ok (.iload 7, 2) := by decide +kernel
theorem dL_law_307 : decode cL_law 307 = .ok (.invokestatic 284, 3) := by decide +kernel
theorem dL_law_310 : decode cL_law 310 = .ok (.ifCond .eq 45, 3) := by decide +kernel
theorem dL_law_313 : decode cL_law 313 = .ok (.aload_n 1, 1) := by decide +kernel
theorem dL_law_314 : decode cL_law 314 = .ok (.iconst 0, 1) := by decide +kernel
theorem dL_law_315 : decode cL_law 315 = .ok (.invokestatic 142, 3) := by decide +kernel
theorem dL_law_318 : decode cL_law 318 = .ok (.iload 8, 2) := by decide +kernel
theorem dL_law_320 : decode cL_law 320 = .ok (.if_icmp .ne 35, 3) := by decide +kernel
theorem dL_law_323 : decode cL_law 323 = .ok (.aload_n 2, 1) := by decide +kernel
theorem dL_law_324 : decode cL_law 324 = .ok (.iconst 0, 1) := by decide +kernel
theorem dL_law_325 : decode cL_law 325 = .ok (.invokestatic 142, 3) := by decide +kernel
theorem dL_law_328 : decode cL_law 328 = .ok (.iload 8, 2) := by decide +kernel
theorem dL_law_330 : decode cL_law 330 = .ok (.if_icmp .ne 25, 3) := by decide +kernel
theorem dL_law_333 : decode cL_law 333 = .ok (.aload_n 1, 1) := by decide +kernel
theorem dL_law_334 : decode cL_law 334 = .ok (.invokestatic 139, 3) := by decide +kernel
theorem dL_law_337 : decode cL_law 337 = .ok (.sipush (-1003), 3) := by decide +kernel
theorem dL_law_340 : decode cL_law 340 = .ok (.if_icmp .ne 15, 3) := by decide +kernel
theorem dL_law_343 : decode cL_law 343 = .ok (.aload_n 1, 1) := by decide +kernel
theorem dL_law_344 : decode cL_law 344 = .ok (.aload_n 2, 1) := by decide +kernel
theorem dL_law_345 : decode cL_law 345 = .ok (.invokestatic 266, 3) := by decide +kernel
theorem dL_law_348 : decode cL_law 348 = .ok (.ifCond .eq 7, 3) := by decide +kernel
theorem dL_law_351 : decode cL_law 351 = .ok (.iconst 1, 1) := by decide +kernel
theorem dL_law_352 : decode cL_law 352 = .ok (.goto 4, 3) := by decide +kernel
theorem dL_law_355 : decode cL_law 355 = .ok (.iconst 0, 1) := by decide +kernel
theorem dL_law_356 : decode cL_law 356 = .ok (.istore_n 3, 1) := by decide +kernel
theorem dL_law_357 : decode cL_law 357 = .ok (.iinc 5 1, 3) := by decide +kernel
theorem dL_law_360 : decode cL_law 360 = .ok (.goto (-220), 3) := by decide +kernel
theorem dL_law_363 : decode cL_law 363 = .ok (.iinc 4 1, 3) := by decide +kernel
theorem dL_law_366 : decode cL_law 366 = .ok (.goto (-281), 3) := by decide +kernel
theorem dL_law_369 : decode cL_law 369 = .ok (.iload_n 3, 1) := by decide +kernel
theorem dL_law_370 : decode cL_law 370 = .ok (.ireturn, 1) := by decide +kernel
